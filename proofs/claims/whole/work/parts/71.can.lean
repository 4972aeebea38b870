/-! CAN -/
theorem fiW_none {σ : am_M} {p mk : Int32} : ∀ (k i : Nat), (∀ j, i ≤ j → j < i + k → X6_pairAt σ (nI j) ≠ p) → fiW σ p mk i k = -1 := by
  intro k
  induction k with
  | zero => intro i _; rfl
  | succ k ih =>
    intro i h
    unfold fiW
    rw [if_neg (fun q => h i (Nat.le_refl _) (by omega) q.1)]
    exact ih (i + 1) (fun j h1 h2 => h j (by omega) (by omega))
theorem noSelf {S σ : am_M} {N m M h : Nat} {kd : Nat → Nat} {G : Nat → Nat → List Int32} (hq : rQ S σ N m kd G M) (hh : h < 8) (mk : Int32) : ¬ LY S M (nI (8 * h + h)) mk := by
  obtain ⟨-, ⟨hM, h1, h2, h3⟩, hne⟩ := hq
  unfold LY
  rw [fiW_none M 0 (fun j _ hj => ?_)]
  · exact fun q => q rfl
  · obtain ⟨bw, to, lo, be, a1, a2, a3, a4, e1, e2, e3, e4, e5, e6, e7⟩ := h3 j (by omega)
    rw [rWd_pair (σw := am_sub S 2) (σ := σ) (by omega) e5 a1 a2 a3 a4]
    intro q
    have q := (nI_eq (by omega) (by omega)).mp q
    exact hne j (by omega) (by rw [e1, e2]; congr 1; omega)
/-- a HAND has a MOVE; c: who alone may be taken at an 'any'; src: whose WORD -/
def CN (n : Nat) (S : am_M) (m M h : Nat) (c src : Int32) : Prop := (dg S h = 0 ∧ (RM n S h ∨ MT S M h c)) ∨ (dg S h = 1 ∧ MT S M h c) ∨ (dg S h = 2 ∧ True) ∨ (dg S h = 3 ∧ ∃ o, o < 8 ∧ S 1 (13 * h + 10) = nI o ∧ LY S M (nI (8 * o + h)) (S 1 (13 * h + 11))) ∨ (dg S h = 4 ∧ ∃ o, o < 8 ∧ src = nI o ∧ o ≠ h ∧ (c = -1 ∨ c = nI o) ∧ LY S M (nI (8 * o + h)) (S 1 (13 * h + 11))) ∨ (dg S h = 5 ∧ X6_begunBy n (am_sub S 2) (nI h) = some 0) ∨ (dg S h = 6 ∧ h = 0 ∧ ∀ j, j < m → dg S j = 6) ∨ (dg S h = 7 ∧ h = 0 ∧ ∀ j, j < m → dg S j = 7)
theorem CN_idle {n : Nat} {S : am_M} {m M h : Nat} {c src : Int32} (e : dg S h = -1) : ¬ CN n S m M h c src := by
  unfold CN
  rw [e]
  rintro (q | q | q | q | q | q | q | q) <;> exact absurd q.1 (by decide)
theorem CN_0 {n : Nat} {S : am_M} {m M h : Nat} {c src : Int32} (e : dg S h = 0) : CN n S m M h c src ↔ (RM n S h ∨ MT S M h c) := by
  unfold CN
  constructor
  · rintro (q | q | q | q | q | q | q | q) <;> first | exact q.2 | (rw [e] at q; exact absurd q.1 (by decide))
  · intro q
    exact Or.inl ⟨e, q⟩
theorem CN_1 {n : Nat} {S : am_M} {m M h : Nat} {c src : Int32} (e : dg S h = 1) : CN n S m M h c src ↔ (MT S M h c) := by
  unfold CN
  constructor
  · rintro (q | q | q | q | q | q | q | q) <;> first | exact q.2 | (rw [e] at q; exact absurd q.1 (by decide))
  · intro q
    exact Or.inr (Or.inl ⟨e, q⟩)
theorem CN_2 {n : Nat} {S : am_M} {m M h : Nat} {c src : Int32} (e : dg S h = 2) : CN n S m M h c src ↔ (True) := by
  unfold CN
  constructor
  · rintro (q | q | q | q | q | q | q | q) <;> first | exact q.2 | (rw [e] at q; exact absurd q.1 (by decide))
  · intro q
    exact Or.inr (Or.inr (Or.inl ⟨e, q⟩))
theorem CN_3 {n : Nat} {S : am_M} {m M h : Nat} {c src : Int32} (e : dg S h = 3) : CN n S m M h c src ↔ (∃ o, o < 8 ∧ S 1 (13 * h + 10) = nI o ∧ LY S M (nI (8 * o + h)) (S 1 (13 * h + 11))) := by
  unfold CN
  constructor
  · rintro (q | q | q | q | q | q | q | q) <;> first | exact q.2 | (rw [e] at q; exact absurd q.1 (by decide))
  · intro q
    exact Or.inr (Or.inr (Or.inr (Or.inl ⟨e, q⟩)))
theorem CN_4 {n : Nat} {S : am_M} {m M h : Nat} {c src : Int32} (e : dg S h = 4) : CN n S m M h c src ↔ (∃ o, o < 8 ∧ src = nI o ∧ o ≠ h ∧ (c = -1 ∨ c = nI o) ∧ LY S M (nI (8 * o + h)) (S 1 (13 * h + 11))) := by
  unfold CN
  constructor
  · rintro (q | q | q | q | q | q | q | q) <;> first | exact q.2 | (rw [e] at q; exact absurd q.1 (by decide))
  · intro q
    exact Or.inr (Or.inr (Or.inr (Or.inr (Or.inl ⟨e, q⟩))))
theorem CN_5 {n : Nat} {S : am_M} {m M h : Nat} {c src : Int32} (e : dg S h = 5) : CN n S m M h c src ↔ (X6_begunBy n (am_sub S 2) (nI h) = some 0) := by
  unfold CN
  constructor
  · rintro (q | q | q | q | q | q | q | q) <;> first | exact q.2 | (rw [e] at q; exact absurd q.1 (by decide))
  · intro q
    exact Or.inr (Or.inr (Or.inr (Or.inr (Or.inr (Or.inl ⟨e, q⟩)))))
theorem CN_6 {n : Nat} {S : am_M} {m M h : Nat} {c src : Int32} (e : dg S h = 6) : CN n S m M h c src ↔ (h = 0 ∧ ∀ j, j < m → dg S j = 6) := by
  unfold CN
  constructor
  · rintro (q | q | q | q | q | q | q | q) <;> first | exact q.2 | (rw [e] at q; exact absurd q.1 (by decide))
  · intro q
    exact Or.inr (Or.inr (Or.inr (Or.inr (Or.inr (Or.inr (Or.inl ⟨e, q⟩))))))
theorem CN_7 {n : Nat} {S : am_M} {m M h : Nat} {c src : Int32} (e : dg S h = 7) : CN n S m M h c src ↔ (h = 0 ∧ ∀ j, j < m → dg S j = 7) := by
  unfold CN
  constructor
  · rintro (q | q | q | q | q | q | q | q) <;> first | exact q.2 | (rw [e] at q; exact absurd q.1 (by decide))
  · intro q
    exact Or.inr (Or.inr (Or.inr (Or.inr (Or.inr (Or.inr (Or.inr (⟨e, q⟩)))))))
/-- bits of those who aren't at a STEP of a kind -/
theorem notDoing_loop (n : Nat) {S : am_M} {m : Nat} (hm8 : m ≤ 8) (hSm : S 0 1 = nI m) (x : Int32) : ∀ (k i K b : Nat), i + k = m → k < K → b < 256 → ∃ b', b' < 256 ∧ X2_notDoing_L4 n S K x (nI b) (nI i) = some (nI b') ∧ ∀ j, j < 8 → (b'.testBit j = true ↔ b.testBit j = true ∨ (i ≤ j ∧ j < m ∧ dg S j ≠ x)) := by
  intro k
  induction k with
  | zero =>
    intro i K b hi hK hb
    obtain ⟨K, rfl⟩ : ∃ J, K = J + 1 := ⟨K - 1, by omega⟩
    refine ⟨b, hb, ?_, fun j hj => ⟨Or.inl, fun q => q.elim id (fun q => by omega)⟩⟩
    simp only [X2_notDoing_L4, X2_notDoing_B4]
    rw [hSm, if_pos (by rw [pu_le (by omega) (by omega)]; omega)]
  | succ k ih =>
    intro i K b hi hK hb
    obtain ⟨K, rfl⟩ : ∃ J, K = J + 1 := ⟨K - 1, by omega⟩
    simp only [X2_notDoing_L4, X2_notDoing_B4, X2_notDoing_J27]
    rw [hSm, if_neg (by rw [pu_le (by omega) (by omega)]; omega), nI_1]
    by_cases e : X2_doing S (nI i) = x
    · rw [if_pos e]
      obtain ⟨b', h1, h2, h3⟩ := ih (i + 1) K b (by omega) (by omega) hb
      refine ⟨b', h1, h2, fun j hj => (h3 j hj).trans ⟨fun q => q.imp id (fun q => ⟨by omega, q.2⟩), fun q => q.imp id (fun q => ⟨?_, q.2⟩)⟩⟩
      rcases Nat.lt_or_ge i j with h | h
      · exact h
      · have : j = i := by omega
        subst this
        exact absurd e q.2.2
    · obtain ⟨o1, o2⟩ := bit_or b hb i (by omega)
      rw [if_neg e, o1]
      obtain ⟨b', h1, h2, h3⟩ := ih (i + 1) K (b ||| 2 ^ i) (by omega) (by omega) o2
      refine ⟨b', h1, h2, fun j hj => (h3 j hj).trans ?_⟩
      rw [Nat.testBit_or, Bool.or_eq_true, Nat.testBit_two_pow, decide_eq_true_iff]
      constructor
      · rintro ((q | q) | q)
        · exact Or.inl q
        · subst q; exact Or.inr ⟨by omega, by omega, e⟩
        · exact Or.inr ⟨by omega, q.2⟩
      · rintro (q | q)
        · exact Or.inl (Or.inl q)
        · by_cases h : i = j
          · exact Or.inl (Or.inr h)
          · exact Or.inr ⟨by omega, q.2⟩
theorem notDoing_eq (n : Nat) (hn : 2200 < n) {S : am_M} {m : Nat} (hm8 : m ≤ 8) (hSm : S 0 1 = nI m) (x : Int32) : ∃ b', b' < 256 ∧ X2_notDoing n S x = some (nI b') ∧ ∀ j, j < 8 → (b'.testBit j = true ↔ (j < m ∧ dg S j ≠ x)) := by
  obtain ⟨b', h1, h2, h3⟩ := notDoing_loop n hm8 hSm x m 0 n 0 (by omega) (by omega) (by omega)
  refine ⟨b', h1, h2, fun j hj => (h3 j hj).trans ⟨fun q => ?_, fun q => Or.inr ⟨Nat.zero_le _, q⟩⟩⟩
  rcases q with q | q
  · rw [Nat.zero_testBit] at q; exact absurd q (by decide)
  · exact q.2
theorem bit0 : ∀ b, b < 256 → (∀ j, j < 8 → b.testBit j = false) → b = 0 := by decide +kernel
theorem notDoing_0 (n : Nat) (hn : 2200 < n) {S : am_M} {m : Nat} (hm8 : m ≤ 8) (hSm : S 0 1 = nI m) (x : Int32) : ∃ v, X2_notDoing n S x = some v ∧ (v = 0 ↔ ∀ j, j < m → dg S j = x) := by
  obtain ⟨b', h1, h2, h3⟩ := notDoing_eq n hn hm8 hSm x
  refine ⟨_, h2, ⟨fun q j hj => ?_, fun q => ?_⟩⟩
  · have hb : b' = 0 := by
      rw [← nI_0] at q
      exact (nI_eq (by omega) (by omega)).mp q
    refine Classical.byContradiction fun e => ?_
    have := (h3 j (by omega)).mpr ⟨hj, e⟩
    rw [hb, Nat.zero_testBit] at this
    exact absurd this (by decide)
  · rw [bit0 b' h1 (fun j hj => Bool.eq_false_iff.mpr (fun r => ((h3 j hj).mp r).2 (q j ((h3 j hj).mp r).1)))]
    rfl
/-- the reference: areAll -/
theorem areAll_loop (n : Nat) {τ : Nat → Int64} {S σ : am_M} {N m x : Nat} {kd nx ot : Nat → Nat} {G : Nat → Nat → List Int32} (hb : rB n τ S σ N m kd nx ot G) (hd : ∀ h, h < m → rHD S σ N m kd G h) (hx : x ≤ 10) (st : Nat → Int32) : ∀ (k i K : Nat), i + k = m → k < K → ∃ v, X8_areAll_L2 n (sC σ 16 st) K (nI x) (nI i) = some v ∧ (v = true ↔ ∀ j, i ≤ j → j < m → dg S j = nI x) := by
  have m8 := hb.2.2.2.1
  intro k
  induction k with
  | zero =>
    intro i K hi hK
    obtain ⟨K, rfl⟩ : ∃ J, K = J + 1 := ⟨K - 1, by omega⟩
    refine ⟨true, ?_, ⟨fun _ j h1 h2 => by omega, fun _ => rfl⟩⟩
    simp only [X8_areAll_L2, X8_areAll_B2]
    rw [show (sC σ 16 st) 0 3 = nI m from hb.2.2.2.2.2.1, if_pos (by rw [pu_le (by omega) (by omega)]; omega)]
  | succ k ih =>
    intro i K hi hK
    obtain ⟨K, rfl⟩ : ∃ J, K = J + 1 := ⟨K - 1, by omega⟩
    simp only [X8_areAll_L2, X8_areAll_B2]
    rw [show (sC σ 16 st) 0 3 = nI m from hb.2.2.2.2.2.1, if_neg (by rw [pu_le (by omega) (by omega)]; omega), isAt_eq hb (show i < m by omega) (hd i (by omega)) hx]
    dsimp only [Option.bind]
    by_cases e : dg S i = nI x
    · rw [decide_eq_true e, if_pos rfl, nI_1]
      obtain ⟨v, h1, h2⟩ := ih (i + 1) K (by omega) (by omega)
      refine ⟨v, h1, h2.trans ⟨fun q j h1 h2 => ?_, fun q j h1 h2 => q j (by omega) h2⟩⟩
      by_cases h : j = i
      · subst h; exact e
      · exact q j (by omega) h2
    · rw [decide_eq_false e, if_neg (by decide)]
      exact ⟨false, rfl, ⟨fun q => absurd q (by decide), fun q => absurd (q i (Nat.le_refl _) (by omega)) e⟩⟩
theorem areAll_eq (n : Nat) (hn : 2200 < n) {τ : Nat → Int64} {S σ : am_M} {N m x : Nat} {kd nx ot : Nat → Nat} {G : Nat → Nat → List Int32} (hb : rB n τ S σ N m kd nx ot G) (hd : ∀ h, h < m → rHD S σ N m kd G h) (hx : x ≤ 10) (st : Nat → Int32) : ∃ v, X8_areAll n (sC σ 16 st) (nI x) = some v ∧ (v = true ↔ ∀ j, j < m → dg S j = nI x) := by
  have m8 := hb.2.2.2.1
  obtain ⟨v, h1, h2⟩ := areAll_loop n hb hd hx st m 0 n (by omega) (by omega)
  exact ⟨v, h1, h2.trans ⟨fun q j hj => q j (Nat.zero_le _) hj, fun q j _ hj => q j hj⟩⟩
/-- an answer as a truth -/
theorem bl_iff {α : Type} {x : α} {p : Prop} {f : Bool → α} (h : p ∨ ¬ p) (h1 : p → x = f true) (h2 : ¬ p → x = f false) : ∃ b, x = f b ∧ (b = true ↔ p) := by
  rcases h with h | h
  · exact ⟨true, h1 h, ⟨fun _ => h, fun _ => rfl⟩⟩
  · exact ⟨false, h2 h, ⟨fun q => absurd q (by decide), fun q => absurd q h⟩⟩
/-- the class: can -/
theorem can_cl (n : Nat) (hn : 2200 < n) {τ : Nat → Int64} {S σ : am_M} {N m h o M : Nat} {kd nx ot : Nat → Nat} {G : Nat → Nat → List Int32} (hb : rB n τ S σ N m kd nx ot G) (hq : rQ S σ N m kd G M) (hh : h < m) (ho : o < m) : ∃ b, X2_can n S (nI h) (nI o) = some b ∧ (b = true ↔ CN n S m M h (-1) (nI o)) := by
  have m8 := hb.2.2.2.1
  have hSm := hb.2.2.2.2.1
  have hw := hq.2.1
  rcases hd_cases hb hh (hq.1 h hh) with q | ⟨t, ht⟩
  · refine ⟨false, ?_, ⟨fun r => absurd r (by decide), fun r => absurd r (CN_idle q.1)⟩⟩
    unfold X2_can
    rw [show X2_doing S (nI h) = -1 from q.1]
    rfl
  · have hdg := ht.2.2.2.2.2.2.2.1
    have ho3 := ht.2.2.2.2.2.2.2.2.2
    unfold X2_can
    rw [show X2_doing S (nI h) = nI (kd t) from hdg]
    rcases (show kd t = 0 ∨ kd t = 1 ∨ kd t = 2 ∨ kd t = 3 ∨ kd t = 4 ∨ kd t = 5 ∨ kd t = 6 ∨ kd t = 7 by have := ht.2.2.1; omega) with k | k | k | k | k | k | k | k
    · rw [k] at hdg ⊢
      obtain ⟨o', p1, p2, p3⟩ := ho3 (by omega)
      obtain ⟨b1, c1, c2⟩ := hasRoom_eq n hn (h := h) hw (by omega) (show o' < 8 by omega) p3
      obtain ⟨b2, c3, c4⟩ := canMeet_eq n hn (h := h) hw (by omega) (show o' < 8 by omega) p3
      rw [if_pos (show nI 0 = 0 from rfl), c1, c3, CN_0 hdg, ← c2, ← c4]
      cases b1 <;> cases b2
      · exact ⟨false, rfl, by decide⟩
      · exact ⟨true, rfl, by decide⟩
      · exact ⟨true, rfl, by decide⟩
      · exact ⟨true, rfl, by decide⟩
    · rw [k] at hdg ⊢
      obtain ⟨o', p1, p2, p3⟩ := ho3 (by omega)
      obtain ⟨b2, c3, c4⟩ := canMeet_eq n hn (h := h) hw (by omega) (show o' < 8 by omega) p3
      rw [if_neg (show ¬ nI 1 = 0 by decide), if_pos (show nI 1 = 1 from rfl), c3, CN_1 hdg, ← c4]
      exact ⟨b2, rfl, Iff.rfl⟩
    · rw [k] at hdg ⊢
      rw [if_neg (show ¬ nI 2 = 0 by decide), if_neg (show ¬ nI 2 = 1 by decide), if_pos (show nI 2 = 2 from rfl), CN_2 hdg]
      exact ⟨true, rfl, by decide⟩
    · rw [k] at hdg ⊢
      obtain ⟨o', p1, p2, p3⟩ := ho3 (by omega)
      rw [if_neg (show ¬ nI 3 = 0 by decide), if_neg (show ¬ nI 3 = 1 by decide), if_neg (show ¬ nI 3 = 2 by decide), if_pos (show nI 3 = 3 from rfl), CN_3 hdg, X2_g10 (by omega), X2_g11 (by omega), p3, (lying_first n (am_sub S 2) σ M hw o' h (by omega) (by omega) _ (by omega)).2]
      dsimp only [Option.bind]
      refine bl_iff (f := some) (Classical.em _) (fun r => ?_) (fun r => ?_)
      · obtain ⟨o2, r1, r2, r3⟩ := r
        have : o2 = o' := ((nI_eq (by omega) (by omega)).mp r2).symm
        subst this
        exact if_neg r3
      · exact if_pos (Classical.byContradiction fun r1 => r ⟨o', by omega, rfl, r1⟩)
    · rw [k] at hdg ⊢
      rw [if_neg (show ¬ nI 4 = 0 by decide), if_neg (show ¬ nI 4 = 1 by decide), if_neg (show ¬ nI 4 = 2 by decide), if_neg (show ¬ nI 4 = 3 by decide), if_pos (show nI 4 = 4 from rfl), CN_4 hdg, X2_g11 (by omega), (lying_first n (am_sub S 2) σ M hw o h (by omega) (by omega) _ (by omega)).2]
      dsimp only [Option.bind]
      refine bl_iff (f := some) (Classical.em _) (fun r => ?_) (fun r => ?_)
      · obtain ⟨o2, r1, r2, r3, r4, r5⟩ := r
        have : o2 = o := ((nI_eq (by omega) (by omega)).mp r2).symm
        subst this
        exact if_neg r5
      · refine if_pos (Classical.byContradiction fun r1 => r ⟨o, by omega, rfl, fun e => ?_, Or.inl rfl, r1⟩)
        subst e
        exact noSelf hq (by omega) _ r1
    · rw [k] at hdg ⊢
      obtain ⟨v, v1, v2⟩ := begun_eq n (am_sub S 2) σ M hw h (by omega) (by omega)
      rw [if_neg (show ¬ nI 5 = 0 by decide), if_neg (show ¬ nI 5 = 1 by decide), if_neg (show ¬ nI 5 = 2 by decide), if_neg (show ¬ nI 5 = 3 by decide), if_neg (show ¬ nI 5 = 4 by decide), if_pos (show nI 5 = 5 from rfl), CN_5 hdg, v2]
      dsimp only [Option.bind]
      refine bl_iff (f := some) (Classical.em _) (fun r => ?_) (fun r => ?_)
      · exact if_pos (Option.some.inj r)
      · exact if_neg (fun q => r (by rw [q]))
    · rw [k] at hdg ⊢
      obtain ⟨v, v1, v2⟩ := notDoing_0 n hn m8 hSm 6
      rw [if_neg (show ¬ nI 6 = 0 by decide), if_neg (show ¬ nI 6 = 1 by decide), if_neg (show ¬ nI 6 = 2 by decide), if_neg (show ¬ nI 6 = 3 by decide), if_neg (show ¬ nI 6 = 4 by decide), if_neg (show ¬ nI 6 = 5 by decide), if_pos (show nI 6 = 6 from rfl), CN_6 hdg]
      erw [v1]
      dsimp only [Option.bind]
      refine bl_iff (f := some) (Classical.em _) (fun r => ?_) (fun r => ?_)
      · rw [if_pos (show nI h = 0 by rw [r.1]; rfl), if_pos (v2.mpr r.2)]
      · by_cases e : h = 0
        · rw [if_pos (show nI h = 0 by rw [e]; rfl), if_neg (fun q => r ⟨e, v2.mp q⟩)]
        · rw [if_neg (nI_ne0 (by omega) (by omega))]
    · rw [k] at hdg ⊢
      obtain ⟨v, v1, v2⟩ := notDoing_0 n hn m8 hSm 7
      rw [if_neg (show ¬ nI 7 = 0 by decide), if_neg (show ¬ nI 7 = 1 by decide), if_neg (show ¬ nI 7 = 2 by decide), if_neg (show ¬ nI 7 = 3 by decide), if_neg (show ¬ nI 7 = 4 by decide), if_neg (show ¬ nI 7 = 5 by decide), if_neg (show ¬ nI 7 = 6 by decide), if_pos (show nI 7 = 7 from rfl), CN_7 hdg]
      erw [v1]
      dsimp only [Option.bind]
      refine bl_iff (f := some) (Classical.em _) (fun r => ?_) (fun r => ?_)
      · rw [if_pos (show nI h = 0 by rw [r.1]; rfl), if_pos (v2.mpr r.2)]
      · by_cases e : h = 0
        · rw [if_pos (show nI h = 0 by rw [e]; rfl), if_neg (fun q => r ⟨e, v2.mp q⟩)]
        · rw [if_neg (nI_ne0 (by omega) (by omega))]
