/-! PLAYING: one HAND's turn in both -/
theorem first_m1 : ∀ h, h < 8 → ∀ q, q < 64 → nI q ≠ (-1) * 8 + nI h := by decide +kernel
theorem can_m1 (n : Nat) (hn : 2200 < n) {S σ : am_M} {M h : Nat} (hr : rW (am_sub S 2) σ M) (hh : h < 8) (e4 : X2_doing S (nI h) = 4) : X2_can n S (nI h) (-1) = some false := by
  have hM := hr.1
  unfold X2_can
  rw [e4, if_neg (by decide), if_neg (by decide), if_neg (by decide), if_neg (by decide), if_pos rfl, X6_first_eq n (am_sub S 2) M hr.2.1 hM (by omega), fiW_none M 0 (fun j _ hj => ?_)]
  · rfl
  · obtain ⟨bw, to, lo, be, a1, a2, a3, a4, e1, e2, e3, e4', e5, e6, e7⟩ := hr.2.2.2 j (by omega)
    rw [rWd_pair (σw := am_sub S 2) (σ := σ) (by omega) e5 a1 a2 a3 a4]
    exact first_m1 h hh (8 * bw + to) (by omega)
/-- the class's turn of a HAND -/
def clMV (n : Nat) (τ : Nat → Int64) (P : am_M) (h src : Int32) : Option (Bool × am_M) := (X2_move n (am_sub P 1) h src).bind (fun q4 => (X2_goOn n (am_sub τ 1) (am_sub (am_put P 1 19 q4) 1)).bind (fun q5 => (X0_noteChoice (am_put (am_put P 1 19 q4) 1 19 q5)).bind (fun q6 => some (true, q6))))
theorem cl_step (n : Nat) {τ : Nat → Int64} {P : am_M} {m h : Nat} {u : Int32} {K : Nat} (hm : P 1 1 = nI m) (m8 : m ≤ 8) (hh : h < m) {b : Bool} {src : Int32} (hb : X2_meetsAny n (am_sub P 1) (nI h) = some b) (hs : X2_leastSource n (am_sub P 1) (nI h) = some src) :
    X0_moveLeast_L29 n τ (K + 1) P u (nI h) = if u ≠ -1 ∧ u ≠ nI h ∧ b = true then X0_moveLeast_L29 n τ K P u (nI (h + 1)) else (X2_can n (am_sub P 1) (nI h) (if u = -1 then src else u)).bind (fun q2 => if q2 = true then clMV n τ P (nI h) (if u = -1 then src else u) else X0_moveLeast_L29 n τ K P u (nI (h + 1))) := by
  have j84 : ∀ s0, X0_moveLeast_J84 n τ (X0_moveLeast_L29 n τ K) P u (nI h) 0 s0 = (X2_can n (am_sub P 1) (nI h) s0).bind (fun q2 => if q2 = true then clMV n τ P (nI h) s0 else X0_moveLeast_L29 n τ K P u (nI (h + 1))) := fun s0 => by
    unfold X0_moveLeast_J84 X0_moveLeast_J126 clMV
    rw [if_pos rfl, nI_1]
  have j65 : X0_moveLeast_J65 n τ (X0_moveLeast_L29 n τ K) P u (nI h) = (X2_can n (am_sub P 1) (nI h) (if u = -1 then src else u)).bind (fun q2 => if q2 = true then clMV n τ P (nI h) (if u = -1 then src else u) else X0_moveLeast_L29 n τ K P u (nI (h + 1))) := by
    unfold X0_moveLeast_J65 X0_moveLeast_J66
    by_cases q : u = -1
    · rw [if_pos q, hs]
      dsimp only [Option.bind]
      rw [j84, if_pos q]
      rfl
    · rw [if_neg q, j84, if_neg q]
  simp only [X0_moveLeast_L29, X0_moveLeast_B29]
  rw [hm, if_neg (by rw [pu_le (by omega) (by omega)]; omega)]
  by_cases q : u = -1
  · rw [if_pos q, j65, if_neg (show ¬ (u ≠ -1 ∧ u ≠ nI h ∧ b = true) from fun z => z.1 q)]
  · rw [if_neg q]
    by_cases q2 : u = nI h
    · rw [if_pos q2, j65, if_neg (show ¬ (u ≠ -1 ∧ u ≠ nI h ∧ b = true) from fun z => z.2.1 q2)]
    · rw [if_neg q2, hb]
      dsimp only [Option.bind]
      cases b
      · rw [if_neg (by decide), j65, if_neg (show ¬ (u ≠ -1 ∧ u ≠ nI h ∧ false = true) from fun z => absurd z.2.2 (by decide))]
        rfl
      · rw [if_pos rfl, if_pos ⟨q, q2, rfl⟩]
        unfold X0_moveLeast_J66 X0_moveLeast_J84 X0_moveLeast_J126
        rw [if_neg q, if_neg (by decide), nI_1]
theorem CN_u {n : Nat} {S : am_M} {m M h : Nat} {c d a b : Int32} (h0 : dg S h ≠ 0) (h1 : dg S h ≠ 1) (h4 : dg S h ≠ 4) : CN n S m M h c a ↔ CN n S m M h d b := by
  unfold CN
  constructor
  · rintro (q | q | q | q | q | q)
    · exact absurd q.1 h0
    · exact absurd q.1 h1
    · exact Or.inr (Or.inr (Or.inl q))
    · exact Or.inr (Or.inr (Or.inr (Or.inl q)))
    · exact absurd q.1 h4
    · exact Or.inr (Or.inr (Or.inr (Or.inr (Or.inr q))))
  · rintro (q | q | q | q | q | q)
    · exact absurd q.1 h0
    · exact absurd q.1 h1
    · exact Or.inr (Or.inr (Or.inl q))
    · exact Or.inr (Or.inr (Or.inr (Or.inl q)))
    · exact absurd q.1 h4
    · exact Or.inr (Or.inr (Or.inr (Or.inr (Or.inr q))))
/-- barred or not, away from 'any' -/
theorem bar_iff {n : Nat} {τ : Nat → Int64} {S σ : am_M} {N m M h : Nat} {kd nx ot : Nat → Nat} {G : Nat → Nat → List Int32} {u a : Int32} {b : Bool} (hb : rB n τ S σ N m kd nx ot G) (hq : rQ S σ N m kd G M) (hh : h < m) (h4 : dg S h ≠ 4) (hm : b = true ↔ (dg S h = 1 ∨ (dg S h = 0 ∧ ¬ RM n S h)) ∧ ∃ o, o < 8 ∧ S 1 (13 * h + 10) = nI o ∧ dg S o = 4) : CN n S m M h u a ↔ (¬ (u ≠ -1 ∧ u ≠ nI h ∧ b = true) ∧ CN n S m M h (-1) a) := by
  have m8 := hb.2.2.2.1
  by_cases hk : dg S h = 0 ∨ dg S h = 1
  · obtain ⟨o, ho, eo⟩ : ∃ o, o < 8 ∧ S 1 (13 * h + 10) = nI o := by
      rcases hd_cases hb hh (hq.1 h hh) with ⟨i1, -⟩ | ⟨t, ha⟩
      · rw [i1] at hk
        rcases hk with q | q
        · exact absurd q (by decide)
        · exact absurd q (by decide)
      · obtain ⟨a0, a1, a2, a3, a4, a5, a6, a7, a8, a9⟩ := ha
        rw [a7] at hk
        have : kd t ≤ 3 := by
          rcases hk with q | q
          · have := (nI_eq (b := 0) (by omega) (by omega)).mp q; omega
          · have := (nI_eq (b := 1) (by omega) (by omega)).mp q; omega
        obtain ⟨o, o1, o2, o3⟩ := a9 this
        exact ⟨o, by omega, o3⟩
    have uo : (∃ p, p < 8 ∧ S 1 (13 * h + 10) = nI p ∧ dg S p = 4) ↔ dg S o = 4 := by
      constructor
      · rintro ⟨p, p1, p2, p3⟩
        rw [eo] at p2
        have := (nI_eq (by omega) (by omega)).mp p2
        subst this; exact p3
      · exact fun q => ⟨o, ho, eo, q⟩
    rw [uo] at hm
    have hMT : MT S M h u ↔ (MT S M h (-1) ∧ ¬ (u ≠ -1 ∧ u ≠ nI h ∧ dg S o = 4)) := by
      by_cases q : u = -1 ∨ u = nI h
      · rw [MT_h q]
        refine ⟨fun z => ⟨z, fun y => ?_⟩, fun z => z.1⟩
        rcases q with q | q
        · exact y.1 q
        · exact y.2.1 q
      · have q1 : u ≠ -1 := fun z => q (Or.inl z)
        have q2 : u ≠ nI h := fun z => q (Or.inr z)
        rw [MT_u ho eo q1 q2]
        exact ⟨fun z => ⟨z.1, fun y => z.2 y.2.2⟩, fun z => ⟨z.1, fun y => z.2 ⟨q1, q2, y⟩⟩⟩
    rcases hk with k | k
    · rw [CN_0 k, CN_0 k, hMT]
      have hm2 : b = true ↔ (¬ RM n S h ∧ dg S o = 4) := by
        rw [hm]
        constructor
        · rintro ⟨q | q, r⟩
          · rw [k] at q; exact absurd q (by decide)
          · exact ⟨q.2, r⟩
        · exact fun ⟨q, r⟩ => ⟨Or.inr ⟨k, q⟩, r⟩
      rw [hm2]
      by_cases r : RM n S h
      · exact ⟨fun _ => ⟨fun y => y.2.2.1 r, Or.inl r⟩, fun _ => Or.inl r⟩
      · constructor
        · rintro (q | ⟨q1, q2⟩)
          · exact absurd q r
          · exact ⟨fun y => q2 ⟨y.1, y.2.1, y.2.2.2⟩, Or.inr q1⟩
        · rintro ⟨q1, q2 | q2⟩
          · exact Or.inl q2
          · exact Or.inr ⟨q2, fun y => q1 ⟨y.1, y.2.1, r, y.2.2⟩⟩
    · rw [CN_1 k, CN_1 k, hMT]
      have hm2 : b = true ↔ dg S o = 4 := by
        rw [hm]
        exact ⟨fun q => q.2, fun q => ⟨Or.inl k, q⟩⟩
      rw [hm2]
      exact ⟨fun q => ⟨q.2, q.1⟩, fun q => ⟨q.2, q.1⟩⟩
  · have h0 : dg S h ≠ 0 := fun q => hk (Or.inl q)
    have h1 : dg S h ≠ 1 := fun q => hk (Or.inr q)
    have hbf : ¬ b = true := fun q => by
      rcases (hm.mp q).1 with r | r
      · exact h1 r
      · exact h0 r.1
    rw [CN_u (c := u) (d := -1) (a := a) (b := a) h0 h1 h4]
    exact ⟨fun q => ⟨fun y => hbf y.2.2, q⟩, fun q => q.2⟩
theorem cl_turn (n : Nat) (hn : 2200 < n) {τ τ' : Nat → Int64} {P σ : am_M} {N m M h cnt : Nat} {kd nx ot : Nat → Nat} {G : Nat → Nat → List Int32} {u : Int32} {K : Nat} (hb : rB n τ' (am_sub P 1) σ N m kd nx ot G) (hq : rQ (am_sub P 1) σ N m kd G M) (hh : h < m) (hu : u = -1 ∨ ∃ k, k < m ∧ u = nI k) (hcnt : cnt = if dg (am_sub P 1) h = nI 4 then m else 1) :
    ((∀ o, o < cnt → ¬ CN n (am_sub P 1) m M h u (nI o)) → X0_moveLeast_L29 n τ (K + 1) P u (nI h) = X0_moveLeast_L29 n τ K P u (nI (h + 1))) ∧ ∀ o, o < cnt → CN n (am_sub P 1) m M h u (nI o) → (∀ p, p < o → ¬ CN n (am_sub P 1) m M h u (nI p)) → X0_moveLeast_L29 n τ (K + 1) P u (nI h) = clMV n τ P (nI h) (nI o) := by
  have m8 := hb.2.2.2.1
  have m2 := hb.2.2.1
  have hSm : P 1 1 = nI m := hb.2.2.2.2.1
  obtain ⟨b, b1, b2⟩ := meets_cl n hn hb hq hh
  have L := least_loop n hn (m := m) (h := h) m8 hSm (show h < 8 by omega) hq.2.1 m 0 n (by omega) (by omega)
  rw [nI_0] at L
  by_cases h4 : dg (am_sub P 1) h = 4
  · rw [if_pos (show dg (am_sub P 1) h = nI 4 from h4)] at hcnt
    rw [hcnt]
    have hbf : ¬ b = true := fun q => by
      rcases (b2.mp q).1 with r | r
      · rw [h4] at r; exact absurd r (by decide)
      · rw [h4] at r; exact absurd r.1 (by decide)
    have cnI : ∀ (c : Int32) (o : Nat), o < m → (CN n (am_sub P 1) m M h c (nI o) ↔ (o ≠ h ∧ (c = -1 ∨ c = nI o) ∧ LY (am_sub P 1) M (nI (8 * o + h)) ((am_sub P 1) 1 (13 * h + 11)))) := fun c o ho => by
      rw [CN_4 h4]
      constructor
      · rintro ⟨p, p1, p2, p3, p4, p5⟩
        have : o = p := (nI_eq (by omega) (by omega)).mp p2
        subst this
        exact ⟨p3, p4, p5⟩
      · exact fun ⟨q1, q2, q3⟩ => ⟨o, by omega, rfl, q1, q2, q3⟩
    have nself := noSelf hq (show h < 8 by omega) ((am_sub P 1) 1 (13 * h + 11))
    have hstep : ∀ src, X2_leastSource n (am_sub P 1) (nI h) = some src → X0_moveLeast_L29 n τ (K + 1) P u (nI h) = (X2_can n (am_sub P 1) (nI h) (if u = -1 then src else u)).bind (fun q2 => if q2 = true then clMV n τ P (nI h) (if u = -1 then src else u) else X0_moveLeast_L29 n τ K P u (nI (h + 1))) := fun src hs => by
      rw [cl_step n hSm m8 hh b1 hs, if_neg (show ¬ (u ≠ -1 ∧ u ≠ nI h ∧ b = true) from fun q => hbf q.2.2)]
    have hdo : X2_doing (am_sub P 1) (nI h) = 4 := h4
    rcases hu with rfl | ⟨k, hk, rfl⟩
    · rcases L with ⟨p, -, p2, p3, p4, p5⟩ | ⟨p1, p2⟩
      · have ph : p ≠ h := fun q => by rw [q] at p3; exact nself p3
        have C : CN n (am_sub P 1) m M h (-1) (nI p) := (cnI (-1) p p2).mpr ⟨ph, Or.inl rfl, p3⟩
        obtain ⟨x, x1, x2⟩ := can_cl n hn hb hq hh p2
        have hE := hstep (nI p) p5
        rw [if_pos rfl, x1] at hE
        dsimp only [Option.bind] at hE
        rw [if_pos (x2.mpr C)] at hE
        refine ⟨fun q => absurd C (q p p2), fun o ho hC hn' => ?_⟩
        have : o = p := by
          rcases Nat.lt_trichotomy o p with z | z | z
          · exact absurd ((cnI (-1) o ho).mp hC).2.2 (p4 o (Nat.zero_le _) z)
          · exact z
          · exact absurd C (hn' p z)
        subst this
        exact hE
      · have hE := hstep (-1) p2
        rw [if_pos rfl, can_m1 n hn hq.2.1 (by omega) hdo] at hE
        dsimp only [Option.bind] at hE
        rw [if_neg (by decide)] at hE
        refine ⟨fun _ => hE, fun o ho hC _ => absurd ((cnI (-1) o ho).mp hC).2.2 (p1 o (Nat.zero_le _) ho)⟩
    · obtain ⟨src, hs⟩ : ∃ src, X2_leastSource n (am_sub P 1) (nI h) = some src := by
        rcases L with ⟨p, -, p2, p3, p4, p5⟩ | ⟨p1, p2⟩
        · exact ⟨_, p5⟩
        · exact ⟨_, p2⟩
      have hE := hstep src hs
      rw [if_neg (pu_ne1 (by omega))] at hE
      obtain ⟨x, x1, x2⟩ := can_cl n hn hb hq hh hk
      rw [x1] at hE
      dsimp only [Option.bind] at hE
      have hkC : CN n (am_sub P 1) m M h (nI k) (nI k) ↔ x = true := by
        rw [x2, cnI _ k hk, cnI _ k hk]
        exact ⟨fun q => ⟨q.1, Or.inl rfl, q.2.2⟩, fun q => ⟨q.1, Or.inr rfl, q.2.2⟩⟩
      have only : ∀ o, o < m → CN n (am_sub P 1) m M h (nI k) (nI o) → o = k := fun o ho hC => by
        rcases ((cnI _ o ho).mp hC).2.1 with q | q
        · exact absurd q (pu_ne1 (by omega))
        · exact ((nI_eq (by omega) (by omega)).mp q).symm
      refine ⟨fun q => ?_, fun o ho hC _ => ?_⟩
      · rw [if_neg (fun z => q k hk (hkC.mpr z))] at hE
        exact hE
      · have := only o ho hC
        subst this
        rw [if_pos (hkC.mp hC)] at hE
        exact hE
  · rw [if_neg (show ¬ dg (am_sub P 1) h = nI 4 from h4)] at hcnt
    subst hcnt
    obtain ⟨src, hs⟩ : ∃ src, X2_leastSource n (am_sub P 1) (nI h) = some src := by
      rcases L with ⟨p, -, p2, p3, p4, p5⟩ | ⟨p1, p2⟩
      · exact ⟨_, p5⟩
      · exact ⟨_, p2⟩
    have hdo : ¬ X2_doing (am_sub P 1) (nI h) = 4 := h4
    obtain ⟨x, x1, x2⟩ := can_cl n hn hb hq hh (show 0 < m by omega)
    have hE := cl_step n (τ := τ) (u := u) (K := K) hSm m8 hh b1 hs
    have hMV : clMV n τ P (nI h) (if u = -1 then src else u) = clMV n τ P (nI h) (nI 0) := by
      unfold clMV
      rw [move_src n (b := nI 0) hdo]
    rw [can_src n (b := nI 0) hdo, x1, hMV] at hE
    dsimp only [Option.bind] at hE
    have B := bar_iff (u := u) (a := nI 0) hb hq hh h4 b2
    by_cases hbar : u ≠ -1 ∧ u ≠ nI h ∧ b = true
    · rw [if_pos hbar] at hE
      refine ⟨fun _ => hE, fun o ho hC _ => ?_⟩
      have : o = 0 := by omega
      subst this
      exact absurd hbar (B.mp hC).1
    · rw [if_neg hbar] at hE
      refine ⟨fun q => ?_, fun o ho hC _ => ?_⟩
      · rw [if_neg (fun z => q 0 (by omega) (B.mpr ⟨hbar, x2.mp z⟩))] at hE
        exact hE
      · have : o = 0 := by omega
        subst this
        rw [if_pos (x2.mpr (B.mp hC).2)] at hE
        exact hE
