/-- the reference's side of a QUIET STEP -/
theorem comeq_eq (n : Nat) (hn : 2200 < n) {S σ : am_M} {τ : Nat → Int64} {N m h t : Nat} {kd nx ot : Nat → Nat} {G : Nat → Nat → List Int32} (hs : rScr n S σ N kd nx ot G) (hh : h < 8) (ht : t < N) (ho : rOut τ σ N kd) (hq : 8 ≤ kd t ∨ σ 14 t = 1) (hr : rEv S σ m h) (hm : σ 0 3 = nI m) :
    ∃ st, ∀ kont : am_M → Int32 → Int32 → Int32 → Option am_M, X8_come_B5 n kont σ (nI h) (nI t) 1 = if σ 14 t = 1 then kont (stM σ (upd (σ 15) (8 * h + 0) (nI t)) st) (nI h) (tgt N (nx t)) 1 else if kd t = 8 then kont (stM σ (upd (upd (σ 15) (8 * h + 0) (nI t)) (8 * h + 2 + (S 15 t).toNatClampNeg) (aV S h (G t 2))) st) (nI h) (tgt N (nx t)) 1 else if kd t = 9 then kont (stM σ (upd (upd (σ 15) (8 * h + 0) (nI t)) (8 * h + 7) (31 * σ 15 (8 * h + 7) + aV S h (G t 2))) st) (nI h) (tgt N (nx t)) 1 else kont (stM σ (upd (σ 15) (8 * h + 0) (nI t)) st) (nI h) (tgt N (if aV S h (G t 2) = 0 then ot t else nx t)) 1 := by
  obtain ⟨hN4, hN, hN2, hst⟩ := hs
  obtain ⟨⟨k1, k2, k3⟩, ⟨b1, b2, b3⟩, ⟨v, c1, c2, c3⟩, d, e, f, g⟩ := hst t ht
  obtain ⟨σ1, hσ1⟩ : ∃ σ1, σ1 = sC σ 15 (upd (σ 15) (8 * h + 0) (nI t)) := ⟨_, rfl⟩
  have e15 : σ1 15 = upd (σ 15) (8 * h + 0) (nI t) := by rw [hσ1]
  have ec : ∀ c, c ≠ 15 → σ1 c = σ c := fun c hc => by rw [hσ1, sC_app, if_neg hc]
  have g40 : ¬ (nI t < 0 ∨ 40 ≤ (nI t).toNatClampNeg) := pu_g (by omega) (by omega)
  have g80 : ¬ (nI t < 0 ∨ 80 ≤ (nI t).toNatClampNeg) := pu_g (by omega) (by omega)
  have g80t : ¬ (nI t < 0 ∨ 80 ≤ t) := fun q => by rcases q with q | q; exact pu_nlt0 (by omega) q; omega
  have hf : X8_following n σ1 (nI t) = X8_following n σ (nI t) := fol_congr n (ec 11 (by omega)) _
  have e16 : ∀ st, sC σ1 16 st = stM σ (upd (σ 15) (8 * h + 0) (nI t)) st := fun st => by rw [hσ1]; rfl
  have es : σ1 = stM σ (upd (σ 15) (8 * h + 0) (nI t)) (σ 16) := by
    rw [← e16, show σ 16 = σ1 16 from (ec 16 (by omega)).symm, sC_self]
  have hB : ∀ kont : am_M → Int32 → Int32 → Int32 → Option am_M, X8_come_B5 n kont σ (nI h) (nI t) 1 = if σ 14 t = 0 then (if nI t < 0 ∨ 80 ≤ t then none else (if σ1 6 t < 8 then X8_come_J46 n kont σ1 (nI h) (nI t) else X8_come_J42 n kont σ1 (nI h) (nI t))) else X8_come_J42 n kont σ1 (nI h) (nI t) := by
    intro kont
    unfold X8_come_B5
    rw [if_neg (show ¬ (1 : Int32) = 0 by decide), X8_p0 hh]
    dsimp only [Option.bind]
    rw [← hσ1, if_neg (pu_ne1 (by omega)), if_neg g40, nI_clamp (by omega), ec 14 (by omega)]
  rcases ho t ht with ⟨o1, o2⟩ | ⟨o1, o2, o3⟩
  · have hk8 : 8 ≤ kd t := by
      rcases hq with h | h
      · exact h
      · rw [o1] at h; exact absurd h (by decide)
    have hA := (d 2 (by omega)).1 (by
      unfold hasA
      simp only [Bool.or_eq_true, Bool.and_eq_true, decide_eq_true_eq]
      exact Or.inr ⟨by omega, trivial⟩)
    rw [show mkA (kd t) 2 = 0 from if_neg (by omega)] at hA
    have hA1 : rAskL S σ1 t 2 0 (G t 2) := by
      obtain ⟨p, q, z, r⟩ := hA
      refine ⟨p, q, z, ?_⟩
      rw [ec 7 (by omega), ec 8 (by omega), ec 5 (by omega)]
      exact r
    have hr1 : rEv S σ1 m h := by
      obtain ⟨r2, r6, r7, r8, r9⟩ := hr
      refine ⟨fun v hv => ?_, r6, r7, ?_, ?_⟩
      · rw [e15, upd_ne (by omega)]; exact r2 v hv
      · rw [e15, upd_ne (by omega)]; exact r8
      · rw [e15, upd_ne (by omega)]; exact r9
    obtain ⟨st, hask0⟩ := ask_md n hn (k := 0) (by omega) (by omega) hh hr1 (by rw [ec 0 (by omega)]; exact hm) (by rw [e15, upd_eq]) hA1
    refine ⟨st, fun kont => ?_⟩
    rw [hB kont, if_pos o1, if_neg g80t, ec 6 (by omega), k3, if_neg (show ¬ nI (kd t) < 8 by rw [show (8 : Int32) = nI 8 from rfl, pu_lt (by omega) (by omega)]; omega), if_neg (show ¬ σ 14 t = 1 by rw [o1]; decide)]
    unfold X8_come_J42 X8_come_J47
    rw [if_neg (show ¬ (1 : Int32) = 0 by decide), hf]
    have hask : X8_asked n σ1 (nI h) 0 = some (aV S h (G t 2), sC σ1 16 st) := hask0
    rcases (show kd t = 8 ∨ kd t = 9 ∨ kd t = 10 by omega) with h8 | h8 | h8
    · have p8 : ∀ g' s', stM σ g' s' 6 t = 8 := fun _ _ => k3.trans (by rw [h8]; rfl)
      have p9 : ∀ g' s', ¬ stM σ g' s' 6 t = 9 := fun _ _ q => absurd (k3.symm.trans q) (by rw [h8]; decide)
      have p10 : ∀ g' s', ¬ stM σ g' s' 6 t = 10 := fun _ _ q => absurd (k3.symm.trans q) (by rw [h8]; decide)
      rw [e (by omega)]
      dsimp only [Option.bind]
      rw [if_neg g40, nI_clamp (by omega), ec 14 (by omega), if_pos o1, hask]
      dsimp only [Option.bind]
      rw [if_neg g80t, e16, if_pos (p8 _ _), if_neg g80t, show stM σ (upd (σ 15) (8 * h + 0) (nI t)) st 9 t = nI v from c3, show (2 : Int32) + nI v = nI (2 + v) from nI_add 2 v, X8_put_eq hh (by omega)]
      dsimp only [Option.bind]
      unfold X8_come_J107 X8_come_J138 X8_come_J186
      rw [if_neg g80, stM_15, nI_clamp (by omega), if_neg (p9 _ _), if_neg g80t, if_neg (p10 _ _), h8, if_pos rfl, c2, nI_clamp (by omega)]
      show kont (stM σ (upd (upd (σ 15) (8 * h + 0) (nI t)) (8 * h + (2 + v)) (aV S h (G t 2))) st) (nI h) (tgt N (nx t)) 1 = _
      rw [show 8 * h + (2 + v) = 8 * h + 2 + v by omega]
    · have p8 : ∀ g' s', ¬ stM σ g' s' 6 t = 8 := fun _ _ q => absurd (k3.symm.trans q) (by rw [h8]; decide)
      have p9 : ∀ g' s', stM σ g' s' 6 t = 9 := fun _ _ => k3.trans (by rw [h8]; rfl)
      have p10 : ∀ g' s', ¬ stM σ g' s' 6 t = 10 := fun _ _ q => absurd (k3.symm.trans q) (by rw [h8]; decide)
      rw [e (by omega)]
      dsimp only [Option.bind]
      rw [if_neg g40, nI_clamp (by omega), ec 14 (by omega), if_pos o1, hask]
      dsimp only [Option.bind]
      rw [if_neg g80t, e16, if_neg (p8 _ _)]
      unfold X8_come_J107 X8_come_J138 X8_come_J186
      rw [if_neg g80, nI_clamp (by omega), if_pos (p9 _ _), X8_o7 hh]
      dsimp only [Option.bind]
      rw [X8_p7 hh]
      dsimp only [Option.bind]
      rw [if_neg g80t, stM_15, if_neg (p10 _ _), h8, if_neg (show ¬ (9 : Nat) = 8 by decide), if_pos rfl, show stM σ (upd (σ 15) (8 * h + 0) (nI t)) st 15 = upd (σ 15) (8 * h + 0) (nI t) from rfl, upd_ne (by omega)]
    · have p8 : ∀ g' s', ¬ stM σ g' s' 6 t = 8 := fun _ _ q => absurd (k3.symm.trans q) (by rw [h8]; decide)
      have p9 : ∀ g' s', ¬ stM σ g' s' 6 t = 9 := fun _ _ q => absurd (k3.symm.trans q) (by rw [h8]; decide)
      have p10 : ∀ g' s', stM σ g' s' 6 t = 10 := fun _ _ => k3.trans (by rw [h8]; rfl)
      obtain ⟨f1, f2, f3, x, f4, f5, f6, f7⟩ := f h8
      rw [f5]
      dsimp only [Option.bind]
      rw [if_neg g40, nI_clamp (by omega), ec 14 (by omega), if_pos o1, hask]
      dsimp only [Option.bind]
      rw [if_neg g80t, e16, if_neg (p8 _ _)]
      unfold X8_come_J107 X8_come_J138 X8_come_J169 X8_come_J184 X8_come_J186
      rw [if_neg g80, nI_clamp (by omega), if_neg (p9 _ _), if_neg g80t, if_pos (p10 _ _), h8, if_neg (show ¬ (10 : Nat) = 8 by decide), if_neg (show ¬ (10 : Nat) = 9 by decide), if_neg g80t, if_neg g80t, show stM σ (upd (σ 15) (8 * h + 0) (nI t)) st 13 t = σ 13 t from rfl, show stM σ (upd (σ 15) (8 * h + 0) (nI t)) st 12 t = σ 12 t from rfl]
      have tg : ∀ u, u < N → tgt N u = nI u := fun u hu => if_neg (by omega)
      by_cases hv : aV S h (G t 2) = 0
      · rw [if_pos hv, if_pos hv]
        rcases f7 with ⟨q1, q2⟩ | ⟨q1, q2⟩
        · rw [q1, if_pos rfl, q2]
        · rw [q1, if_neg (pu_ne1 (by omega)), tg _ q2]
      · rw [if_neg hv, if_neg hv]
        rcases f6 with ⟨q1, q2⟩ | ⟨q1, q2⟩
        · rw [q1, if_pos rfl, q2]
        · rw [q1, if_neg (pu_ne1 (by omega)), tg _ q2]
  · refine ⟨σ 16, fun kont => ?_⟩
    rw [hB kont, if_neg (show ¬ σ 14 t = 0 by rw [o1]; decide), if_pos o1]
    unfold X8_come_J42 X8_come_J47
    rw [if_neg (show ¬ (1 : Int32) = 0 by decide), hf, e o2]
    dsimp only [Option.bind]
    rw [if_neg g40, nI_clamp (by omega), ec 14 (by omega), if_neg (show ¬ σ 14 t = 0 by rw [o1]; decide)]
    unfold X8_come_J186
    rw [es]
