/-! ENDINGS: their order, without worlds -/
def lx (f g : Nat → Int32) : Nat → Nat → Int32
  | _, 0 => 0
  | c, k + 1 => if f c = g c then lx f g (c + 1) k else if f c < g c then -1 else 1
theorem lx_eq {f g : Nat → Int32} : ∀ (k c : Nat), lx f g c k = 0 ↔ ∀ x, c ≤ x → x < c + k → f x = g x := by
  intro k
  induction k with
  | zero => intro c; exact ⟨fun _ x h1 h2 => by omega, fun _ => rfl⟩
  | succ k ih =>
    intro c
    simp only [lx]
    by_cases e : f c = g c
    · rw [if_pos e, ih (c + 1)]
      constructor
      · intro h x h1 h2
        by_cases q : x = c
        · subst q; exact e
        · exact h x (by omega) (by omega)
      · intro h x h1 h2
        exact h x (by omega) (by omega)
    · rw [if_neg e]
      constructor
      · intro h
        split at h
        · exact absurd h (by decide)
        · exact absurd h (by decide)
      · intro h
        exact absurd (h c (Nat.le_refl _) (by omega)) e
theorem lx_tri {f g : Nat → Int32} : ∀ (k c : Nat), lx f g c k = 0 ∨ lx f g c k = -1 ∨ lx f g c k = 1 := by
  intro k
  induction k with
  | zero => intro c; exact Or.inl rfl
  | succ k ih =>
    intro c
    simp only [lx]
    split
    · exact ih (c + 1)
    · split
      · exact Or.inr (Or.inl rfl)
      · exact Or.inr (Or.inr rfl)
theorem i32_tri {a b : Int32} (h : a ≠ b) (h2 : ¬ a < b) : b < a := by
  rw [Int32.lt_iff_toInt_lt] at h2 ⊢
  have : a.toInt ≠ b.toInt := fun q => h (Int32.toInt_inj.mp q)
  omega
theorem i32_asym {a b : Int32} (h : a < b) : ¬ b < a := by
  rw [Int32.lt_iff_toInt_lt] at h ⊢
  omega
theorem i32_ne {a b : Int32} (h : a < b) : a ≠ b := by
  rw [Int32.lt_iff_toInt_lt] at h
  intro q
  rw [q] at h
  omega
theorem i32_tr {a b c : Int32} (h : a < b) (k : b < c) : a < c := by
  rw [Int32.lt_iff_toInt_lt] at h k ⊢
  omega
theorem lx_swap {f g : Nat → Int32} : ∀ (k c : Nat), lx f g c k = -1 ↔ lx g f c k = 1 := by
  intro k
  induction k with
  | zero => intro c; exact ⟨fun h => absurd (show (0 : Int32) = -1 from h) (by decide), fun h => absurd (show (0 : Int32) = 1 from h) (by decide)⟩
  | succ k ih =>
    intro c
    simp only [lx]
    by_cases e : f c = g c
    · rw [if_pos e, if_pos e.symm]; exact ih (c + 1)
    · rw [if_neg e, if_neg (show ¬ g c = f c from fun q => e q.symm)]
      by_cases h : f c < g c
      · rw [if_pos h, if_neg (i32_asym h)]
        exact ⟨fun _ => rfl, fun _ => rfl⟩
      · rw [if_neg h, if_pos (i32_tri e h)]
        exact ⟨fun q => absurd q (by decide), fun q => absurd q (by decide)⟩
theorem lx_tr {f g h : Nat → Int32} : ∀ (k c : Nat), lx f g c k = -1 → lx g h c k = -1 → lx f h c k = -1 := by
  intro k
  induction k with
  | zero => intro c q; exact absurd (show (0 : Int32) = -1 from q) (by decide)
  | succ k ih =>
    intro c
    simp only [lx]
    intro a b
    by_cases e : f c = g c
    · rw [if_pos e] at a
      by_cases e2 : g c = h c
      · rw [if_pos e2] at b
        rw [if_pos (e.trans e2)]
        exact ih (c + 1) a b
      · rw [if_neg e2] at b
        rw [e, if_neg e2]
        exact b
    · rw [if_neg e] at a
      by_cases l : f c < g c
      · by_cases e2 : g c = h c
        · rw [if_neg (by rw [← e2]; exact e), if_pos (by rw [← e2]; exact l)]
        · rw [if_neg e2] at b
          by_cases l2 : g c < h c
          · have l3 := i32_tr l l2
            rw [if_neg (i32_ne l3), if_pos l3]
          · rw [if_neg l2] at b; exact absurd b (by decide)
      · rw [if_neg l] at a; exact absurd a (by decide)
theorem lx_cl {f f' g : Nat → Int32} : ∀ (k c : Nat), lx f f' c k = 0 → lx f g c k = lx f' g c k := by
  intro k
  induction k with
  | zero => intro c _; rfl
  | succ k ih =>
    intro c h
    have h0 := (lx_eq (k + 1) c).mp h
    have e : f c = f' c := h0 c (Nat.le_refl _) (by omega)
    simp only [lx]
    rw [e, ih (c + 1) ((lx_eq k (c + 1)).mpr (fun x h1 h2 => h0 x (by omega) (by omega)))]
theorem lx_cr {f g g' : Nat → Int32} : ∀ (k c : Nat), lx g g' c k = 0 → lx f g c k = lx f g' c k := by
  intro k
  induction k with
  | zero => intro c _; rfl
  | succ k ih =>
    intro c h
    have h0 := (lx_eq (k + 1) c).mp h
    have e : g c = g' c := h0 c (Nat.le_refl _) (by omega)
    simp only [lx]
    rw [e, ih (c + 1) ((lx_eq k (c + 1)).mpr (fun x h1 h2 => h0 x (by omega) (by omega)))]
theorem lx_congr {f g f' g' : Nat → Int32} : ∀ (k c : Nat), (∀ x, c ≤ x → x < c + k → f x = f' x ∧ g x = g' x) → lx f g c k = lx f' g' c k := by
  intro k
  induction k with
  | zero => intro c _; rfl
  | succ k ih =>
    intro c h
    simp only [lx]
    obtain ⟨h1, h2⟩ := h c (Nat.le_refl _) (by omega)
    rw [h1, h2, ih (c + 1) (fun x q1 q2 => h x (by omega) (by omega))]
theorem lx_skip {f g : Nat → Int32} : ∀ (j c k : Nat), (∀ x, c ≤ x → x < c + j → f x = g x) → lx f g c (j + k) = lx f g (c + j) k := by
  intro j
  induction j with
  | zero => intro c k _; rw [Nat.zero_add, Nat.add_zero]
  | succ j ih =>
    intro c k h
    rw [show j + 1 + k = (j + k) + 1 by omega]
    simp only [lx]
    rw [if_pos (h c (Nat.le_refl _) (by omega)), ih (c + 1) k (fun x q1 q2 => h x (by omega) (by omega)), show c + 1 + j = c + (j + 1) by omega]
theorem lx_first {f g : Nat → Int32} {k : Nat} (h : lx f g 0 (k + 1) = -1) : ¬ g 0 < f 0 := by
  simp only [lx] at h
  by_cases e : f 0 = g 0
  · rw [e]
    intro q
    exact i32_ne q rfl
  · rw [if_neg e] at h
    split at h
    · rename_i q; exact i32_asym q
    · exact absurd h (by decide)
/-- how many are ahead -/
def cntL (q : Nat → Int32) : Nat → Nat
  | 0 => 0
  | k + 1 => cntL q k + (if q k = -1 then 1 else 0)
theorem cntL_all {q : Nat → Int32} : ∀ p, (∀ e, e < p → q e = -1) → cntL q p = p := by
  intro p
  induction p with
  | zero => intro _; rfl
  | succ p ih =>
    intro h
    show cntL q p + _ = p + 1
    rw [ih (fun e he => h e (by omega)), if_pos (h p (by omega))]
theorem cntL_eq {q : Nat → Int32} {p : Nat} (h1 : ∀ e, e < p → q e = -1) : ∀ F, p ≤ F → (∀ e, p ≤ e → e < F → q e ≠ -1) → cntL q F = p := by
  intro F
  induction F with
  | zero =>
    intro hp _
    have : p = 0 := by omega
    subst this; rfl
  | succ F ih =>
    intro hp h2
    by_cases e : p = F + 1
    · subst e; exact cntL_all _ h1
    · show cntL q F + _ = p
      rw [ih (by omega) (fun e h3 h4 => h2 e h3 (by omega)), if_neg (h2 F (by omega) (by omega))]
      rfl
theorem cntL_congr {q q' : Nat → Int32} : ∀ F, (∀ e, e < F → q e = q' e) → cntL q F = cntL q' F := by
  intro F
  induction F with
  | zero => intro _; rfl
  | succ F ih =>
    intro h
    show cntL q F + _ = cntL q' F + _
    rw [ih (fun e he => h e (by omega)), h F (by omega)]
def insO (o : Nat → Nat) (p i : Nat) : Nat → Nat := fun e => if e < p then o e else if e = p then i else o (e - 1)
def cmR (row : Nat → Nat → Int32) (o : Nat → Nat) (i : Nat) : Nat → Int32 := fun e => lx (row (o e)) (row i) 0 11
def insF (row : Nat → Nat → Int32) (oF : (Nat → Nat) × Nat) (i : Nat) : (Nat → Nat) × Nat := if cntL (cmR row oF.1 i) oF.2 < oF.2 ∧ cmR row oF.1 i (cntL (cmR row oF.1 i) oF.2) = 0 then oF else (insO oF.1 (cntL (cmR row oF.1 i) oF.2) i, oF.2 + 1)
def ordF (row : Nat → Nat → Int32) (isE : Nat → Bool) : Nat → (Nat → Nat) × Nat
  | 0 => (fun _ => 0, 0)
  | i + 1 => if isE i = true then insF row (ordF row isE i) i else ordF row isE i
/-- ENDINGS in their order -/
def srt (row : Nat → Nat → Int32) (isE : Nat → Bool) (i : Nat) (oF : (Nat → Nat) × Nat) : Prop := oF.2 ≤ i ∧ (∀ e, e < oF.2 → oF.1 e < i ∧ isE (oF.1 e) = true) ∧ (∀ e e', e < e' → e' < oF.2 → lx (row (oF.1 e)) (row (oF.1 e')) 0 11 = -1) ∧ ∀ j, j < i → isE j = true → ∃ e, e < oF.2 ∧ lx (row (oF.1 e)) (row j) 0 11 = 0
/-- where one stands against a row that is sorted -/
theorem srt_cut {row : Nat → Nat → Int32} {isE : Nat → Bool} {i : Nat} {oF : (Nat → Nat) × Nat} (h : srt row isE i oF) (r : Nat → Int32) : ∃ p, p ≤ oF.2 ∧ (∀ e, e < p → lx (row (oF.1 e)) r 0 11 = -1) ∧ ((p < oF.2 ∧ lx (row (oF.1 p)) r 0 11 = 0 ∧ ∀ e, p < e → e < oF.2 → lx (row (oF.1 e)) r 0 11 = 1) ∨ ∀ e, p ≤ e → e < oF.2 → lx (row (oF.1 e)) r 0 11 = 1) := by
  obtain ⟨-, -, h3, -⟩ := h
  generalize oF.2 = F at *
  generalize oF.1 = o at *
  induction F with
  | zero => exact ⟨0, Nat.le_refl _, fun e he => by omega, Or.inr (fun e _ he => by omega)⟩
  | succ F ih =>
    obtain ⟨p, p1, p2, p3⟩ := ih (fun e e' q1 q2 => h3 e e' q1 (by omega))
    have up : ∀ e, e < F → lx (row (o e)) r 0 11 = 1 ∨ lx (row (o e)) r 0 11 = 0 → lx (row (o F)) r 0 11 = 1 := by
      intro e he q
      have h4 := h3 e F he (by omega)
      rcases q with q | q
      · have := (lx_swap 11 0).mpr q
        exact (lx_swap 11 0).mp (lx_tr 11 0 this h4)
      · rw [lx_cl 11 0 q] at h4
        exact (lx_swap 11 0).mp h4
    by_cases e : p = F
    · subst e
      rcases lx_tri (f := row (o p)) (g := r) 11 0 with q | q | q
      · exact ⟨p, by omega, p2, Or.inl ⟨by omega, q, fun e h1 h2 => by omega⟩⟩
      · exact ⟨p + 1, by omega, fun e he => by
          by_cases z : e = p
          · subst z; exact q
          · exact p2 e (by omega), Or.inr (fun e h1 h2 => by omega)⟩
      · exact ⟨p, by omega, p2, Or.inr (fun e h1 h2 => by
          have : e = p := by omega
          subst this; exact q)⟩
    · refine ⟨p, by omega, p2, ?_⟩
      rcases p3 with ⟨q1, q2, q3⟩ | q
      · refine Or.inl ⟨by omega, q2, fun e h1 h2 => ?_⟩
        by_cases z : e = F
        · subst z; exact up p q1 (Or.inr q2)
        · exact q3 e h1 (by omega)
      · refine Or.inr (fun e h1 h2 => ?_)
        by_cases z : e = F
        · subst z; exact up p (by omega) (Or.inl (q p (Nat.le_refl _) (by omega)))
        · exact q e h1 (by omega)
theorem srt_cnt {row : Nat → Nat → Int32} {o : Nat → Nat} {F i p : Nat} (hp : p ≤ F) (h1 : ∀ e, e < p → cmR row o i e = -1) (h2 : ∀ e, p ≤ e → e < F → cmR row o i e ≠ -1) : insF row (o, F) i = if p < F ∧ cmR row o i p = 0 then (o, F) else (insO o p i, F + 1) := by
  unfold insF
  dsimp only
  rw [cntL_eq h1 F hp h2]
theorem srt_ins {row : Nat → Nat → Int32} {isE : Nat → Bool} {i : Nat} {oF : (Nat → Nat) × Nat} (h : srt row isE i oF) (hi : isE i = true) : srt row isE (i + 1) (insF row oF i) := by
  obtain ⟨o, F⟩ := oF
  obtain ⟨p, p1, p2, p3⟩ := srt_cut h (row i)
  obtain ⟨h1, h2, h3, h4⟩ := h
  dsimp only at h1 h2 h3 h4 p1 p2 p3
  have h2' : ∀ e, p ≤ e → e < F → cmR row o i e ≠ -1 := fun e q1 q2 => by
    show lx (row (o e)) (row i) 0 11 ≠ -1
    rcases p3 with ⟨z1, z2, z3⟩ | z
    · by_cases y : e = p
      · subst y; rw [z2]; decide
      · rw [z3 e (by omega) q2]; decide
    · rw [z e q1 q2]; decide
  rw [srt_cnt p1 p2 h2']
  rcases p3 with ⟨z1, z2, z3⟩ | z
  · rw [if_pos ⟨z1, z2⟩]
    refine ⟨by dsimp only; omega, fun e he => ⟨by have := (h2 e he).1; dsimp only; omega, (h2 e he).2⟩, h3, fun j hj hE => ?_⟩
    by_cases y : j = i
    · subst y; exact ⟨p, z1, z2⟩
    · exact h4 j (by omega) hE
  · rw [if_neg (fun q => by
      have := z p (Nat.le_refl _) q.1
      have h0 : lx (row (o p)) (row i) 0 11 = 0 := q.2
      rw [this] at h0
      exact absurd h0 (by decide))]
    have i1 : ∀ e, e < p → insO o p i e = o e := fun e he => if_pos he
    have i2 : insO o p i p = i := by
      unfold insO
      rw [if_neg (by omega), if_pos rfl]
    have i3 : ∀ e, p < e → insO o p i e = o (e - 1) := fun e he => by
      unfold insO
      rw [if_neg (by omega), if_neg (by omega)]
    refine ⟨by dsimp only; omega, fun e he => ?_, fun e e' q1 q2 => ?_, fun j hj hE => ?_⟩
    · dsimp only at he ⊢
      rcases Nat.lt_trichotomy e p with y | y | y
      · rw [i1 e y]; exact ⟨by have := (h2 e (by omega)).1; omega, (h2 e (by omega)).2⟩
      · subst y; rw [i2]; exact ⟨by omega, hi⟩
      · rw [i3 e y]; exact ⟨by have := (h2 (e - 1) (by omega)).1; omega, (h2 (e - 1) (by omega)).2⟩
    · dsimp only at q2 ⊢
      rcases Nat.lt_trichotomy e' p with y | y | y
      · rw [i1 e (by omega), i1 e' y]; exact h3 e e' q1 (by omega)
      · subst y; rw [i1 e q1, i2]; exact p2 e q1
      · rw [i3 e' y]
        rcases Nat.lt_trichotomy e p with x | x | x
        · rw [i1 e x]; exact h3 e (e' - 1) (by omega) (by omega)
        · subst x; rw [i2]
          exact (lx_swap 11 0).mpr (z (e' - 1) (by omega) (by omega))
        · rw [i3 e x]; exact h3 (e - 1) (e' - 1) (by omega) (by omega)
    · dsimp only
      by_cases y : j = i
      · subst y; exact ⟨p, by omega, by rw [i2]; exact (lx_eq 11 0).mpr (fun _ _ _ => rfl)⟩
      · obtain ⟨e, e1, e2⟩ := h4 j (by omega) hE
        by_cases x : e < p
        · exact ⟨e, by omega, by rw [i1 e x]; exact e2⟩
        · exact ⟨e + 1, by omega, by rw [i3 (e + 1) (by omega)]; exact e2⟩
theorem srt_ord {row : Nat → Nat → Int32} {isE : Nat → Bool} : ∀ i, srt row isE i (ordF row isE i) := by
  intro i
  induction i with
  | zero => exact ⟨Nat.le_refl _, fun e he => absurd he (Nat.not_lt_zero _), fun e e' _ h => absurd h (Nat.not_lt_zero _), fun j hj => by omega⟩
  | succ i ih =>
    show srt row isE (i + 1) (if isE i = true then insF row (ordF row isE i) i else ordF row isE i)
    by_cases h : isE i = true
    · rw [if_pos h]; exact srt_ins ih h
    · rw [if_neg h]
      refine ⟨by have := ih.1; omega, fun e he => ⟨by have := (ih.2.1 e he).1; omega, (ih.2.1 e he).2⟩, ih.2.2.1, fun j hj hE => ?_⟩
      by_cases y : j = i
      · subst y; exact absurd hE h
      · exact ih.2.2.2 j (by omega) hE
theorem ord_congr {row row' : Nat → Nat → Int32} {isE isE' : Nat → Bool} : ∀ i, (∀ j, j < i → row j = row' j ∧ isE j = isE' j) → ordF row isE i = ordF row' isE' i := by
  intro i
  induction i with
  | zero => intro _; rfl
  | succ i ih =>
    intro h
    have e := ih (fun j hj => h j (by omega))
    obtain ⟨h1, h2⟩ := h i (by omega)
    show (if isE i = true then insF row (ordF row isE i) i else ordF row isE i) = (if isE' i = true then insF row' (ordF row' isE' i) i else ordF row' isE' i)
    rw [← h2, ← e]
    have s := srt_ord (row := row) (isE := isE) i
    generalize ordF row isE i = oF at s ⊢
    obtain ⟨o, F⟩ := oF
    have hc : ∀ e, e < F → cmR row o i e = cmR row' o i e := fun e he => by
      have := (s.2.1 e he).1
      unfold cmR
      rw [(h (o e) (by dsimp only at this; omega)).1, h1]
    have hk : insF row (o, F) i = insF row' (o, F) i := by
      unfold insF
      dsimp only
      rw [cntL_congr F hc]
      by_cases q : cntL (cmR row' o i) F < F
      · rw [hc _ q]
      · rw [if_neg (fun z => q z.1), if_neg (fun z => q z.1)]
    rw [hk]
