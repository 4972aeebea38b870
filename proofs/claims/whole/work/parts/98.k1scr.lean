/-! A TEXT IS READ: the scripts stand alike -/
section SCR
variable {n : Nat} {S R Q H : am_M} {N z q : Nat}
theorem rch_cg {B B' : Nat → Int32} {y : Int32} : ∀ (m s : Nat), (∀ x, x ≤ s → B' x = B x) → rch B m s y → rch B' m s y := by
  intro m
  induction m with
  | zero => exact fun s h r => (h s (Nat.le_refl _)).trans r
  | succ m ih =>
    intro s h r
    rcases r with r | ⟨c, c1, c2, c3⟩
    · exact Or.inl ((h s (Nat.le_refl _)).trans r)
    · exact Or.inr ⟨c, c1, (h s (Nat.le_refl _)).trans c2, ih c (fun x hx => h x (by omega)) c3⟩
theorem fol_y (hn : 2200 < n) {s : Nat} {y : Int32} (hs : s < 40) (hy : -2 < y) (r : rch (H 11) 5 s y) : X8_following n H (nI s) = some y := by
  unfold X8_following
  rw [if_neg (pu_g (n := 80) (by omega) (by omega)), nI_clamp (by omega)]
  exact fol_rch hy 5 s n hs r (by omega)
theorem m2y (t : Nat) (ht : t < 1000) : (-2 : Int32) < nI t := Int32.lt_of_lt_of_le (show (-2 : Int32) < 0 by decide) (Int32.not_lt.mp (nI_n0 (by omega)))
theorem scr_of (hn : 2200 < n) (hN : N ≤ 40) (hQ : ∀ j, j < 8 → Q (11 + j) = S (6 + j)) (h67 : S 6 7 = nI N) (h69 : S 6 9 = nI z) (hz : z ≤ 900) (hq : q ≤ 1080) (h40 : H 4 0 = nI N) (cp : ∀ c, c = 6 ∨ (9 ≤ c ∧ c ≤ 13) → ∀ j, j < N → H c j = R c (40 + j)) (cp7 : ∀ j, j < 3 * N → H 7 j = R 7 (120 + j) ∧ H 8 j = R 8 (120 + j)) (cp5 : ∀ j, j < q → H 5 j = R 5 (1080 + j)) (facts : ∀ s, s < N → sF S R s z q ∧ ∃ tg, s < tg ∧ tg ≤ N ∧ lF S R s tg ∧ (tg < N → rch (bh R) 5 s (nI tg)) ∧ (tg = N → rch (bh R) 5 s (-1))) : (∃ nx ot G, rScr n Q H N (anS S) nx ot G) ∧ lowH H N := by
  have q11 : Q 11 = S 6 := hQ 0 (by omega)
  have q12 : Q 12 = S 7 := hQ 1 (by omega)
  have q13 : Q 13 = S 8 := hQ 2 (by omega)
  have q14 : Q 14 = S 9 := hQ 3 (by omega)
  have q15 : Q 15 = S 10 := hQ 4 (by omega)
  have q16 : Q 16 = S 11 := hQ 5 (by omega)
  have q17 : Q 17 = S 12 := hQ 6 (by omega)
  have q18 : Q 18 = S 13 := hQ 7 (by omega)
  have hb : ∀ s, s < N → ∀ x, x ≤ s → H 11 x = bh R x := fun s hs x hx => cp 11 (by omega) x (by omega)
  have fol : ∀ s tg, s < N → tg ≤ N → (tg < N → rch (bh R) 5 s (nI tg)) → (tg = N → rch (bh R) 5 s (-1)) → -2 < tgt N tg ∧ rch (H 11) 5 s (tgt N tg) := fun s tg hs ht r1 r2 => by
    unfold tgt
    by_cases e : tg = N
    · rw [if_pos e]
      exact ⟨by decide, rch_cg 5 s (hb s hs) (r2 e)⟩
    · rw [if_neg e]
      exact ⟨m2y tg (by omega), rch_cg 5 s (hb s hs) (r1 (by omega))⟩
  refine ⟨⟨fun s => (S 8 s).toNatClampNeg, fun s => (S 9 s).toNatClampNeg, fun s w => Classical.epsilon (fun L => rA S R s w (mkA (anS S s) w) L z q), hN, by rw [q11]; exact h67, h40, fun s hs => ?_⟩, fun s hs => ?_⟩
  · obtain ⟨⟨kd, us, k1, k2, k3, f1, ⟨v, v1, v2, v3⟩, f3⟩, tg, t1, t2, t3, t4, t5⟩ := facts s hs
    have ek : anS S s = kd := by
      show (S 7 s).toNatClampNeg = kd
      rw [k2]
      exact nI_clamp (by omega)
    obtain ⟨p1, p2⟩ := fol s tg hs t2 t4 t5
    have pf : X8_following n H (nI s) = some (tgt N tg) := fol_y hn (by omega) p1 p2
    have cl : ∀ a, a ≤ N → (nI a).toNatClampNeg = a := fun a ha => nI_clamp (by omega)
    refine ⟨⟨by rw [ek]; exact k1, by rw [ek, q12]; exact k2, by rw [ek, cp 6 (by omega) s hs]; exact k3⟩, ?_, ⟨v, v1, by rw [q15]; exact v2, by rw [cp 9 (by omega) s hs]; exact v3⟩, fun w hw => ⟨fun hh => ?_, fun hh => ?_⟩, fun k10 => ?_, fun k10 => ?_, fun k4 => ?_⟩
    · show s < (S 8 s).toNatClampNeg ∧ (S 8 s).toNatClampNeg ≤ N ∧ Q 13 s = nI (S 8 s).toNatClampNeg
      rw [q13]
      by_cases k10 : S 7 s = 10
      · obtain ⟨nx, ot, u1, u2, u3, u4⟩ := t3.2 k10
        rw [u1, cl nx (by omega)]
        exact ⟨by omega, by omega, rfl⟩
      · rw [t3.1 k10, cl tg t2]
        exact ⟨t1, t2, rfl⟩
    · rw [ek] at hh
      have y := f1 w hw
      rw [if_pos hh] at y
      have ys : rA S R s w (mkA (anS S s) w) (Classical.epsilon (fun L => rA S R s w (mkA (anS S s) w) L z q)) z q := Classical.epsilon_spec (p := fun L => rA S R s w (mkA (anS S s) w) L z q) (by rw [ek]; exact y)
      have m3 := mkA_3 (anS S s) w hw
      show rAskL Q H s w (mkA (anS S s) w) (Classical.epsilon (fun L => rA S R s w (mkA (anS S s) w) L z q))
      generalize Classical.epsilon (fun L => rA S R s w (mkA (anS S s) w) L z q) = L at ys ⊢
      obtain ⟨p, qq, x1, x2, x3, x4, x5, x6, x7, x8, x9, x10⟩ := ys
      refine ⟨p, qq, z, by rw [q17]; exact x1, by rw [q11]; exact h69, hz, x2, fun i hi => by rw [q18]; exact x3 i hi, by rw [q18]; exact x4, x5, ?_, ?_, by omega, fun i hi => ?_, x10⟩
      · rw [(cp7 (3 * s + mkA (anS S s) w) (by omega)).1, ← x6, Nat.add_assoc]
      · rw [(cp7 (3 * s + mkA (anS S s) w) (by omega)).2, ← x7, Nat.add_assoc]
      · rw [cp5 (qq + i) (by omega), ← x9 i hi, Nat.add_assoc]
    · rw [ek] at hh
      have y := f1 w hw
      rw [if_neg (by rw [hh]; exact Bool.false_ne_true)] at y
      rw [q17]
      exact y
    · rw [ek] at k10
      have s10 : S 7 s ≠ 10 := by
        rw [k2]
        exact fun y => k10 ((nI_eq (b := 10) (by omega) (by omega)).mp y)
      show X8_following n H (nI s) = some (tgt N (S 8 s).toNatClampNeg)
      rw [t3.1 s10, cl tg t2]
      exact pf
    · rw [ek] at k10
      have s10 : S 7 s = 10 := by rw [k2, k10] <;> rfl
      obtain ⟨nx, ot, u1, u2, u3, u4⟩ := t3.2 s10
      show s < (S 9 s).toNatClampNeg ∧ (S 9 s).toNatClampNeg ≤ N ∧ Q 14 s = nI (S 9 s).toNatClampNeg ∧ ∃ f, f ≤ N ∧ X8_following n H (nI s) = some (tgt N f) ∧ ((H 12 s = -1 ∧ (S 8 s).toNatClampNeg = f) ∨ (H 12 s = nI (S 8 s).toNatClampNeg ∧ (S 8 s).toNatClampNeg < N)) ∧ ((H 13 s = -1 ∧ (S 9 s).toNatClampNeg = f) ∨ (H 13 s = nI (S 9 s).toNatClampNeg ∧ (S 9 s).toNatClampNeg < N))
      rw [q14, u1, u2, cl nx (by omega), cl ot (by omega), cp 12 (by omega) s hs, cp 13 (by omega) s hs]
      exact ⟨by omega, by omega, rfl, tg, t2, pf, u3.imp id (fun y => ⟨y.1, by omega⟩), u4.imp id (fun y => ⟨y.1, by omega⟩)⟩
    · rw [ek] at k4
      rw [decide_eq_true k4, if_pos rfl] at f3
      obtain ⟨bb, c1, c2, c3, c4⟩ := f3
      exact ⟨bb, c1, c2, by rw [q16]; exact c3, by rw [cp 10 (by omega) s hs]; exact c4⟩
  · obtain ⟨-, tg, t1, t2, t3, t4, t5⟩ := facts s hs
    exact ⟨_, fol s tg hs t2 t4 t5⟩
/-- a script stands, though others are read where it isn't -/
theorem scr_low (hn : 2200 < n) {H' : am_M} {kd nx ot : Nat → Nat} {G : Nat → Nat → List Int32} (h40 : H' 4 0 = H 4 0) (hc : ∀ c, c = 6 ∨ (9 ≤ c ∧ c ≤ 13) → ∀ j, j < 40 → H' c j = H c j) (h7 : ∀ j, j < 120 → H' 7 j = H 7 j ∧ H' 8 j = H 8 j) (h5 : ∀ j, j < 1080 → H' 5 j = H 5 j) (hl : lowH H N) (h : rScr n Q H N kd nx ot G) : rScr n Q H' N kd nx ot G ∧ lowH H' N := by
  obtain ⟨h1, h2, h3, h4⟩ := h
  have hb : ∀ s, s < N → ∀ x, x ≤ s → H' 11 x = H 11 x := fun s hs x hx => hc 11 (by omega) x (by omega)
  have lo : lowH H' N := fun s hs => by
    obtain ⟨y, y1, y2⟩ := hl s hs
    exact ⟨y, y1, rch_cg 5 s (hb s hs) y2⟩
  refine ⟨⟨h1, h2, h40.trans h3, fun s hs => ?_⟩, lo⟩
  obtain ⟨y, y1, y2⟩ := hl s hs
  have e1 : X8_following n H (nI s) = some y := fol_y hn (by omega) y1 y2
  have e2 : X8_following n H' (nI s) = some y := fol_y hn (by omega) y1 (rch_cg 5 s (hb s hs) y2)
  have hf : X8_following n H' (nI s) = X8_following n H (nI s) := e2.trans e1.symm
  obtain ⟨⟨a1, a2, a3⟩, b, ⟨v, c1, c2, c3⟩, d, e, f, g⟩ := h4 s hs
  refine ⟨⟨a1, a2, (hc 6 (by omega) s (by omega)).trans a3⟩, b, ⟨v, c1, c2, (hc 9 (by omega) s (by omega)).trans c3⟩, fun w hw => ⟨fun hh => ?_, (d w hw).2⟩, fun k => by rw [hf]; exact e k, fun k => ?_, fun k => ?_⟩
  · obtain ⟨p, qq, zz, x1, x2, x3, x4, x5, x6, x7, x8, x9, x10, x11, x12⟩ := (d w hw).1 hh
    have m3 := mkA_3 (kd s) w hw
    exact ⟨p, qq, zz, x1, x2, x3, x4, x5, x6, x7, ((h7 _ (by omega)).1).trans x8, ((h7 _ (by omega)).2).trans x9, x10, fun i hi => (h5 _ (by omega)).trans (x11 i hi), x12⟩
  · obtain ⟨f1, f2, f3, x, f4, f5, f6, f7⟩ := f k
    refine ⟨f1, f2, f3, x, f4, by rw [hf]; exact f5, ?_, ?_⟩
    · rw [hc 12 (by omega) s (by omega)]; exact f6
    · rw [hc 13 (by omega) s (by omega)]; exact f7
  · obtain ⟨bb, g1, g2, g3, g4⟩ := g k
    exact ⟨bb, g1, g2, g3, (hc 10 (by omega) s (by omega)).trans g4⟩
/-- what exploring tells doesn't hang on what isn't the script -/
theorem DP_low (hn : 2200 < n) {F H' : am_M} {kd nx ot : Nat → Nat} {G : Nat → Nat → List Int32} {D : Nat → Int32 → Int64 → VT} (hs : rScr n (am_sub F 1) H' N kd nx ot G) (hl : lowH H' N) (h : DP n F H N kd D) : DP n F H' N kd D := by
  refine ⟨fun τ P R m room out hok => ?_, hl⟩
  obtain ⟨v, hv⟩ := expl_vis n hn (τ := τ) (okP_scr hs hok.1 hok.2.1) hok.2.2.1 hok.2.2.2.1 hok.2.2.2.2.1 hok.2.2.2.2.2.1 hok.2.2.2.2.2.2
  obtain ⟨R2, hR2⟩ : ∃ R2 : am_M, R2 = fun c => if 4 ≤ c ∧ c ≤ 13 then H c else R c := ⟨_, rfl⟩
  have r2 : ∀ c, ¬ (4 ≤ c ∧ c ≤ 13) → R2 c = R c := fun c hc => by rw [hR2]; exact if_neg hc
  have ok2 : okX n F H N kd P R2 m room out := by
    obtain ⟨o1, o2, o3, o4, o5, o6, o7⟩ := hok
    refine ⟨o1, fun c c1 c2 => by rw [hR2]; exact if_pos ⟨c1, c2⟩, ?_, o4, o5, by rw [r2 0 (by omega)]; exact o6, by rw [r2 0 (by omega)]; exact o7⟩
    unfold rOut at o3 ⊢
    rw [r2 14 (by omega)]
    exact o3
  have hw := h.1 τ P R2 m room out ok2
  have hv0 := hv
  obtain ⟨A1, A2, A3, a1, a2, a3, a4, a5, a6, -⟩ := hv
  obtain ⟨B1, B2, B3, b1, b2, b3, b4, b5, b6, -⟩ := hw
  have e1 : B1 = A1 := by
    rw [a1] at b1
    exact (congrArg (fun z => z.1) (Option.some.inj b1)).symm
  subst e1
  exact xRes_t (vC_E a4 b4) hv0
end SCR
