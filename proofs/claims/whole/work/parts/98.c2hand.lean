/-! PLAYING: one HAND's turn in the class -/
theorem can_src (n : Nat) {S : am_M} {h : Nat} {a b : Int32} (hne : ¬ X2_doing S (nI h) = 4) : X2_can n S (nI h) a = X2_can n S (nI h) b := by
  unfold X2_can
  simp only [if_neg hne]
theorem move_src (n : Nat) {S : am_M} {h : Nat} {a b : Int32} (hne : ¬ X2_doing S (nI h) = 4) : X2_move n S (nI h) a = X2_move n S (nI h) b := by
  have hne' : ¬ X2_doing (sC S 0 (am_u (S 0) 12 (-1))) (nI h) = 4 := hne
  unfold X2_move
  simp only [if_neg hne']
theorem CN_src {n : Nat} {S : am_M} {m M h : Nat} {c a b : Int32} (hne : ¬ dg S h = 4) : CN n S m M h c a ↔ CN n S m M h c b := by
  unfold CN
  constructor
  · rintro (q | q | q | q | q | q)
    · exact Or.inl q
    · exact Or.inr (Or.inl q)
    · exact Or.inr (Or.inr (Or.inl q))
    · exact Or.inr (Or.inr (Or.inr (Or.inl q)))
    · exact absurd q.1 hne
    · exact Or.inr (Or.inr (Or.inr (Or.inr (Or.inr q))))
  · rintro (q | q | q | q | q | q)
    · exact Or.inl q
    · exact Or.inr (Or.inl q)
    · exact Or.inr (Or.inr (Or.inl q))
    · exact Or.inr (Or.inr (Or.inr (Or.inl q)))
    · exact absurd q.1 hne
    · exact Or.inr (Or.inr (Or.inr (Or.inr (Or.inr q))))
/-- the least HAND whose WORD lies -/
theorem least_loop (n : Nat) (hn : 2200 < n) {S σ : am_M} {m M h : Nat} (m8 : m ≤ 8) (hSm : S 0 1 = nI m) (hh : h < 8) (hr : rW (am_sub S 2) σ M) : ∀ (d o K : Nat), o + d = m → d < K → ((∃ p, o ≤ p ∧ p < m ∧ LY S M (nI (8 * p + h)) (S 1 (13 * h + 11)) ∧ (∀ q, o ≤ q → q < p → ¬ LY S M (nI (8 * q + h)) (S 1 (13 * h + 11))) ∧ X2_leastSource_L2 n S K (nI h) (nI o) = some (nI p)) ∨ ((∀ q, o ≤ q → q < m → ¬ LY S M (nI (8 * q + h)) (S 1 (13 * h + 11))) ∧ X2_leastSource_L2 n S K (nI h) (nI o) = some (-1))) := by
  intro d
  induction d with
  | zero =>
    intro o K ho hK
    obtain ⟨K, rfl⟩ : ∃ J, K = J + 1 := ⟨K - 1, by omega⟩
    refine Or.inr ⟨fun q h1 h2 => by omega, ?_⟩
    simp only [X2_leastSource_L2, X2_leastSource_B2]
    rw [hSm, if_pos (by rw [pu_le (by omega) (by omega)]; omega)]
  | succ d ih =>
    intro o K ho hK
    obtain ⟨K, rfl⟩ : ∃ J, K = J + 1 := ⟨K - 1, by omega⟩
    have hf := (lying_first n (am_sub S 2) σ M hr o h (by omega) hh (S 1 (13 * h + 11)) (by omega)).2
    have e : X2_leastSource_L2 n S (K + 1) (nI h) (nI o) = if fiW (am_sub S 2) (nI (8 * o + h)) (S 1 (13 * h + 11)) 0 M = -1 then X2_leastSource_L2 n S K (nI h) (nI (o + 1)) else some (nI o) := by
      simp only [X2_leastSource_L2, X2_leastSource_B2]
      rw [hSm, if_neg (by rw [pu_le (by omega) (by omega)]; omega), X2_g11 hh, hf, nI_1]
      rfl
    by_cases q : fiW (am_sub S 2) (nI (8 * o + h)) (S 1 (13 * h + 11)) 0 M = -1
    · rw [e, if_pos q]
      have nl : ¬ LY S M (nI (8 * o + h)) (S 1 (13 * h + 11)) := fun z => z q
      rcases ih (o + 1) K (by omega) (by omega) with ⟨p, p1, p2, p3, p4, p5⟩ | ⟨p1, p2⟩
      · refine Or.inl ⟨p, by omega, p2, p3, fun x h1 h2 => ?_, p5⟩
        by_cases z : x = o
        · subst z; exact nl
        · exact p4 x (by omega) h2
      · refine Or.inr ⟨fun x h1 h2 => ?_, p2⟩
        by_cases z : x = o
        · subst z; exact nl
        · exact p1 x (by omega) h2
    · rw [e, if_neg q]
      exact Or.inl ⟨o, Nat.le_refl _, by omega, q, fun x h1 h2 => by omega, rfl⟩
theorem meets_cl (n : Nat) (hn : 2200 < n) {τ : Nat → Int64} {S σ : am_M} {N m M h : Nat} {kd nx ot : Nat → Nat} {G : Nat → Nat → List Int32} (hb : rB n τ S σ N m kd nx ot G) (hq : rQ S σ N m kd G M) (hh : h < m) : ∃ b, X2_meetsAny n S (nI h) = some b ∧ (b = true ↔ (dg S h = 1 ∨ (dg S h = 0 ∧ ¬ RM n S h)) ∧ ∃ o, o < 8 ∧ S 1 (13 * h + 10) = nI o ∧ dg S o = 4) := by
  have m8 := hb.2.2.2.1
  rcases hd_cases hb hh (hq.1 h hh) with ⟨i1, -⟩ | ⟨t, ha⟩
  · refine ⟨false, ?_, ⟨fun q => absurd q (by decide), fun ⟨q, _⟩ => ?_⟩⟩
    · unfold X2_meetsAny X2_meetsAny_J27 X2_meetsAny_J28
      rw [show X2_doing S (nI h) = -1 from i1, if_neg (by decide), if_neg (by decide), if_pos rfl]
    · rw [i1] at q
      rcases q with q | q
      · exact absurd q (by decide)
      · exact absurd q.1 (by decide)
  · obtain ⟨a0, a1, a2, a3, a4, a5, a6, a7, a8, a9⟩ := ha
    have hd : X2_doing S (nI h) = nI (kd t) := a7
    by_cases k1 : kd t ≤ 1
    · obtain ⟨o, o1, o2, o3⟩ := a9 (by omega)
      have hdo : X2_doing S (X2_get S (nI h) 10) = dg S o := by rw [X2_g10 (by omega), o3]; rfl
      have j28 : ∀ x, X2_meetsAny_J28 n S (nI h) x = some (decide (x ≠ 0 ∧ dg S o = 4)) := fun x => by
        unfold X2_meetsAny_J28
        rw [hdo]
        by_cases z : x = 0
        · rw [if_pos z, decide_eq_false (fun q => q.1 z)]
        · rw [if_neg z]
          by_cases y : dg S o = 4
          · rw [if_pos y, decide_eq_true ⟨z, y⟩]
          · rw [if_neg y, decide_eq_false (fun q => y q.2)]
      have uo : (∃ p, p < 8 ∧ S 1 (13 * h + 10) = nI p ∧ dg S p = 4) ↔ dg S o = 4 := by
        constructor
        · rintro ⟨p, p1, p2, p3⟩
          rw [o3] at p2
          have := (nI_eq (by omega) (by omega)).mp p2
          subst this; exact p3
        · exact fun q => ⟨o, by omega, o3, q⟩
      rcases (show kd t = 0 ∨ kd t = 1 by omega) with k | k
      · obtain ⟨b, b1, b2⟩ := hasRoom_eq n hn hq.2.1 (show h < 8 by omega) (show o < 8 by omega) o3
        unfold X2_meetsAny X2_meetsAny_J27 X2_meetsAny_J23
        rw [hd, k, if_neg (by decide), if_pos (show nI 0 = (0 : Int32) from rfl), b1]
        dsimp only [Option.bind]
        rw [j28, j28]
        have d0 : dg S h = 0 := by rw [a7, k]; rfl
        by_cases hbt : b = true
        · rw [if_pos hbt]
          refine ⟨_, rfl, ?_⟩
          rw [decide_eq_true_eq]
          exact ⟨fun q => absurd rfl q.1, fun ⟨q, _⟩ => by
            rcases q with q | q
            · rw [d0] at q; exact absurd q (by decide)
            · exact absurd (b2.mp hbt) q.2⟩
        · rw [if_neg hbt]
          refine ⟨_, rfl, ?_⟩
          rw [decide_eq_true_eq, uo]
          exact ⟨fun q => ⟨Or.inr ⟨d0, fun r => hbt (b2.mpr r)⟩, q.2⟩, fun q => ⟨by decide, q.2⟩⟩
      · unfold X2_meetsAny X2_meetsAny_J23
        rw [hd, k, if_pos (show nI 1 = (1 : Int32) from rfl), j28]
        have d1 : dg S h = 1 := by rw [a7, k]; rfl
        refine ⟨_, rfl, ?_⟩
        rw [decide_eq_true_eq, uo]
        exact ⟨fun q => ⟨Or.inl d1, q.2⟩, fun q => ⟨by decide, q.2⟩⟩
    · refine ⟨false, ?_, ⟨fun q => absurd q (by decide), fun ⟨q, _⟩ => ?_⟩⟩
      · unfold X2_meetsAny X2_meetsAny_J27 X2_meetsAny_J28
        rw [hd, if_neg (fun q => by have := (nI_eq (b := 1) (by omega) (by omega)).mp q; omega), if_neg (fun q => by have := (nI_eq (b := 0) (by omega) (by omega)).mp q; omega), if_pos rfl]
      · rw [a7] at q
        rcases q with q | q
        · have := (nI_eq (b := 1) (by omega) (by omega)).mp q; omega
        · have := (nI_eq (b := 0) (by omega) (by omega)).mp q.1; omega
/-- who alone may be taken changes a MOVE's being only where a WORD is handed to one at an 'any' -/
theorem MT_u {S : am_M} {M h o : Nat} {u : Int32} (ho : o < 8) (e : S 1 (13 * h + 10) = nI o) (hu : u ≠ -1) (huh : u ≠ nI h) : MT S M h u ↔ (MT S M h (-1) ∧ dg S o ≠ 4) := by
  unfold MT
  constructor
  · rintro ⟨p, p1, p2, p3, p4⟩
    have : p = o := by rw [e] at p2; exact ((nI_eq (by omega) (by omega)).mp p2).symm
    subst this
    rcases p3 with q | ⟨q, r⟩
    · exact ⟨⟨p, p1, p2, Or.inl q, p4⟩, by rw [q.1]; decide⟩
    · rcases r with r | r
      · exact absurd r hu
      · exact absurd r huh
  · rintro ⟨⟨p, p1, p2, p3, p4⟩, q⟩
    have : p = o := by rw [e] at p2; exact ((nI_eq (by omega) (by omega)).mp p2).symm
    subst this
    rcases p3 with r | ⟨r, _⟩
    · exact ⟨p, p1, p2, Or.inl r, p4⟩
    · exact absurd r q
theorem MT_h {S : am_M} {M h : Nat} {u : Int32} (hu : u = -1 ∨ u = nI h) : MT S M h u ↔ MT S M h (-1) := by
  unfold MT
  constructor
  · rintro ⟨p, p1, p2, p3, p4⟩
    exact ⟨p, p1, p2, p3.imp id (fun q => ⟨q.1, Or.inl rfl⟩), p4⟩
  · rintro ⟨p, p1, p2, p3, p4⟩
    exact ⟨p, p1, p2, p3.imp id (fun q => ⟨q.1, hu⟩), p4⟩
