/-! CAN: the reference -/
theorem can_rf (n : Nat) (hn : 2200 < n) {τ : Nat → Int64} {S σ : am_M} {N m h o M : Nat} {kd nx ot : Nat → Nat} {G : Nat → Nat → List Int32} (hb : rB n τ S σ N m kd nx ot G) (hq : rQ S σ N m kd G M) (hh : h < m) (ho : o < m) (st : Nat → Int32) : ∃ b st', X8_can n (sC σ 16 st) (nI h) (nI o) = some (b, sC σ 16 st') ∧ (b = true ↔ CN n S m M h (σ 0 35) (nI o)) := by
  have m8 := hb.2.2.2.1
  have hN4 := hb.1.1
  have hSm := hb.2.2.2.2.1
  have hrm : S 0 2 = σ 0 4 := hb.2.2.2.2.2.2
  have hw := hq.2.1
  unfold X8_can
  rw [X8_o0 (by omega), X8_o1 (by omega)]
  dsimp only [Option.bind]
  rw [show (sC σ 16 st) 15 (8 * h + 0) = σ 15 (8 * h + 0) from rfl, show (sC σ 16 st) 15 (8 * h + 1) = σ 15 (8 * h + 1) from rfl, show (sC σ 16 st) 6 = σ 6 from rfl, show (sC σ 16 st) 0 35 = σ 0 35 from rfl]
  rcases hd_cases hb hh (hq.1 h hh) with q | ⟨t, ht⟩
  · refine ⟨false, st, ?_, ⟨fun r => absurd r (by decide), fun r => absurd r (CN_idle q.1)⟩⟩
    rcases q.2 with q2 | ⟨t, q2, q3, q4, q5⟩
    · rw [q2, if_pos rfl]
    · rw [q3, q5, if_neg (pu_ne1 (by omega)), if_pos rfl]
  · have hdg := ht.2.2.2.2.2.2.2.1
    have ho3 := ht.2.2.2.2.2.2.2.2.2
    have htN := ht.2.1
    obtain ⟨⟨k1, k2, k3⟩, -⟩ := hb.1.2.2.2 t htN
    rw [ht.2.2.2.2.1, ht.2.2.2.2.2.2.1, if_neg (pu_ne1 (by omega)), if_neg (show ¬ (0 : Int32) = 1 by decide), nI_clamp (by omega), k3, if_neg (fun q => by rcases q with q | q; exact pu_nlt0 (by omega) q; omega)]
    have wrap : ∀ (x : Option (Bool × am_M)) (p : Prop), (∃ s', (p → x = some (true, sC σ 16 s')) ∧ (¬ p → x = some (false, sC σ 16 s'))) → ∃ b st', x = some (b, sC σ 16 st') ∧ (b = true ↔ p) := by
      rintro x p ⟨s', w1, w2⟩
      obtain ⟨b, w3, w4⟩ := bl_iff (f := fun b => some (b, sC σ 16 s')) (Classical.em p) w1 w2
      exact ⟨b, s', w3, w4⟩
    rcases (show kd t = 0 ∨ kd t = 1 ∨ kd t = 2 ∨ kd t = 3 ∨ kd t = 4 ∨ kd t = 5 ∨ kd t = 6 ∨ kd t = 7 by have := ht.2.2.1; omega) with k | k | k | k | k | k | k | k
    · rw [k] at hdg ⊢
      obtain ⟨o', p1, p2, p3⟩ := ho3 (by omega)
      obtain ⟨s1, e1⟩ := askR0 n hn hb hh ht (by omega) st
      obtain ⟨v, v1, v2⟩ := sent_eq n (am_sub S 2) (sC σ 16 s1) M hw h o' (by omega) (by omega) (by omega)
      obtain ⟨b2, s2, c3, c4⟩ := hands_eq n hn hb hq hh ht (by omega) s1
      rw [if_pos (show nI 0 = 0 from rfl), CN_0 hdg, e1]
      dsimp only
      rw [p3, v1]
      dsimp only
      rw [c3]
      dsimp only
      have hR : RM n S h ↔ v < S 0 2 := by
        unfold RM
        rw [p3, v2]
        exact ⟨fun ⟨w, q1, q2⟩ => by rw [Option.some.inj q1]; exact q2, fun q => ⟨v, rfl, q⟩⟩
      rw [hR, hrm]
      by_cases hv : v < σ 0 4
      · exact ⟨true, s1, by rw [if_pos hv], ⟨fun _ => Or.inl hv, fun _ => rfl⟩⟩
      · rw [if_neg hv]
        refine wrap _ _ ⟨s2, fun r => ?_, fun r => ?_⟩
        · rw [if_pos (c4.mpr (r.resolve_left hv))]
        · rw [if_neg (fun q => r (Or.inr (c4.mp q)))]
    · rw [k] at hdg ⊢
      obtain ⟨b2, s2, c3, c4⟩ := hands_eq n hn hb hq hh ht (by omega) st
      rw [if_neg (show ¬ nI 1 = 0 by decide), if_pos (show nI 1 = 1 from rfl), c3, CN_1 hdg, ← c4]
      exact ⟨b2, s2, rfl, Iff.rfl⟩
    · rw [k] at hdg ⊢
      rw [if_neg (show ¬ nI 2 = 0 by decide), if_neg (show ¬ nI 2 = 1 by decide), if_pos (show nI 2 = 2 from rfl), CN_2 hdg]
      exact ⟨true, st, rfl, by decide⟩
    · rw [k] at hdg ⊢
      obtain ⟨o', p1, p2, p3⟩ := ho3 (by omega)
      obtain ⟨s1, e1⟩ := askR0 n hn hb hh ht (by omega) st
      obtain ⟨s2, e2⟩ := askR1 n hn hb hh ht (by omega) s1
      rw [if_neg (show ¬ nI 3 = 0 by decide), if_neg (show ¬ nI 3 = 1 by decide), if_neg (show ¬ nI 3 = 2 by decide), if_pos (show nI 3 = 3 from rfl), CN_3 hdg, e1]
      dsimp only
      rw [e2]
      dsimp only
      rw [p3, (lying_first n (am_sub S 2) (sC σ 16 s2) M hw o' h (by omega) (by omega) _ (by omega)).1]
      dsimp only
      refine wrap _ _ ⟨s2, fun r => ?_, fun r => ?_⟩
      · obtain ⟨o2, r1, r2, r3⟩ := r
        have : o2 = o' := ((nI_eq (by omega) (by omega)).mp r2).symm
        subst this
        exact if_neg r3
      · exact if_pos (Classical.byContradiction fun r1 => r ⟨o', by omega, rfl, r1⟩)
    · rw [k] at hdg ⊢
      obtain ⟨s1, e1⟩ := askR1 n hn hb hh ht (by omega) st
      have j164 : X8_can_J164 n (sC σ 16 st) (nI h) (nI o) = if fiW (am_sub S 2) (nI (8 * o + h)) (S 1 (13 * h + 11)) 0 M = -1 then some (false, sC σ 16 s1) else some (true, sC σ 16 s1) := by
        unfold X8_can_J164
        rw [e1]
        dsimp only [Option.bind]
        rw [(lying_first n (am_sub S 2) (sC σ 16 s1) M hw o h (by omega) (by omega) _ (by omega)).1]
      rw [if_neg (show ¬ nI 4 = 0 by decide), if_neg (show ¬ nI 4 = 1 by decide), if_neg (show ¬ nI 4 = 2 by decide), if_neg (show ¬ nI 4 = 3 by decide), if_pos (show nI 4 = 4 from rfl), CN_4 hdg, j164]
      have un : (∃ o2, o2 < 8 ∧ nI o = nI o2 ∧ o2 ≠ h ∧ (σ 0 35 = -1 ∨ σ 0 35 = nI o2) ∧ LY S M (nI (8 * o2 + h)) (S 1 (13 * h + 11))) ↔ (o ≠ h ∧ (σ 0 35 = -1 ∨ σ 0 35 = nI o) ∧ LY S M (nI (8 * o + h)) (S 1 (13 * h + 11))) := by
        constructor
        · rintro ⟨o2, r1, r2, r3⟩
          have : o2 = o := ((nI_eq (by omega) (by omega)).mp r2).symm
          subst this
          exact r3
        · exact fun r => ⟨o, by omega, rfl, r⟩
      rw [un]
      by_cases e : o = h
      · exact ⟨false, st, by rw [if_pos (show nI o = nI h by rw [e])], ⟨fun r => absurd r (by decide), fun r => absurd e r.1⟩⟩
      · rw [if_neg (fun q => e ((nI_eq (by omega) (by omega)).mp q))]
        by_cases c1 : σ 0 35 = -1
        · rw [if_pos c1]
          refine wrap _ _ ⟨s1, fun r => ?_, fun r => ?_⟩
          · exact if_neg r.2.2
          · exact if_pos (Classical.byContradiction fun r1 => r ⟨e, Or.inl c1, r1⟩)
        · rw [if_neg c1]
          by_cases c2 : σ 0 35 = nI o
          · rw [if_pos c2]
            refine wrap _ _ ⟨s1, fun r => ?_, fun r => ?_⟩
            · exact if_neg r.2.2
            · exact if_pos (Classical.byContradiction fun r1 => r ⟨e, Or.inr c2, r1⟩)
          · exact ⟨false, st, by rw [if_neg c2], ⟨fun r => absurd r (by decide), fun r => absurd r.2.1 (by rintro (q | q); exact c1 q; exact c2 q)⟩⟩
    · rw [k] at hdg ⊢
      obtain ⟨v, v1, v2⟩ := begun_eq n (am_sub S 2) (sC σ 16 st) M hw h (by omega) (by omega)
      rw [if_neg (show ¬ nI 5 = 0 by decide), if_neg (show ¬ nI 5 = 1 by decide), if_neg (show ¬ nI 5 = 2 by decide), if_neg (show ¬ nI 5 = 3 by decide), if_neg (show ¬ nI 5 = 4 by decide), if_pos (show nI 5 = 5 from rfl), CN_5 hdg, v1, v2]
      dsimp only
      refine wrap _ _ ⟨st, fun r => ?_, fun r => ?_⟩
      · exact if_pos (Option.some.inj r)
      · exact if_neg (fun q => r (by rw [q]))
    · rw [k] at hdg ⊢
      obtain ⟨v, v1, v2⟩ := areAll_eq n hn (x := 6) hb hq.1 (by omega) st
      rw [if_neg (show ¬ nI 6 = 0 by decide), if_neg (show ¬ nI 6 = 1 by decide), if_neg (show ¬ nI 6 = 2 by decide), if_neg (show ¬ nI 6 = 3 by decide), if_neg (show ¬ nI 6 = 4 by decide), if_neg (show ¬ nI 6 = 5 by decide), if_pos (show nI 6 = 6 from rfl), CN_6 hdg, v1]
      dsimp only
      refine wrap _ _ ⟨st, fun r => ?_, fun r => ?_⟩
      · rw [if_pos (show nI h = 0 by rw [r.1]; rfl), if_neg (fun q => by rcases q with q | q; exact pu_nlt0 (by omega) q; omega), if_pos (v2.mpr r.2)]
      · by_cases e : h = 0
        · rw [if_pos (show nI h = 0 by rw [e]; rfl), if_neg (fun q => by rcases q with q | q; exact pu_nlt0 (by omega) q; omega), if_neg (fun q => r ⟨e, v2.mp q⟩)]
        · rw [if_neg (nI_ne0 (by omega) (by omega))]
    · rw [k] at hdg ⊢
      obtain ⟨v, v1, v2⟩ := areAll_eq n hn (x := 7) hb hq.1 (by omega) st
      rw [if_neg (show ¬ nI 7 = 0 by decide), if_neg (show ¬ nI 7 = 1 by decide), if_neg (show ¬ nI 7 = 2 by decide), if_neg (show ¬ nI 7 = 3 by decide), if_neg (show ¬ nI 7 = 4 by decide), if_neg (show ¬ nI 7 = 5 by decide), if_neg (show ¬ nI 7 = 6 by decide), if_pos (show nI 7 = 7 from rfl), CN_7 hdg, v1]
      dsimp only
      refine wrap _ _ ⟨st, fun r => ?_, fun r => ?_⟩
      · rw [if_pos (show nI h = 0 by rw [r.1]; rfl), if_neg (fun q => by rcases q with q | q; exact pu_nlt0 (by omega) q; omega), if_pos (v2.mpr r.2)]
      · by_cases e : h = 0
        · rw [if_pos (show nI h = 0 by rw [e]; rfl), if_neg (fun q => by rcases q with q | q; exact pu_nlt0 (by omega) q; omega), if_neg (fun q => r ⟨e, v2.mp q⟩)]
        · rw [if_neg (nI_ne0 (by omega) (by omega))]
