/-! RECEIVING -/
theorem sC_ne {σ : am_M} {c k : Nat} {f : Nat → Int32} (h : k ≠ c) : sC σ c f k = σ k := by rw [sC_app, if_neg h]
theorem am_u_ne {f : Nat → Int32} {c k : Nat} {v : Int32} (h : k ≠ c) : am_u f c v k = f k := by
  show (match Nat.beq k c with | true => _ | false => _) = _
  rw [show Nat.beq k c = false from Bool.eq_false_iff.mpr (fun q => h (Nat.eq_of_beq_eq_true q))]
/-- the fields behind a receive: who took at an 'any' -/
def rcF (F : Nat → Int32) (k : Nat) (h t : Nat) (src : Int32) : Nat → Int32 := if k = 4 then am_u (am_u (am_u F 12 (nI h)) 13 (nI t)) 14 src else F
def rcS (f : Nat → Int32) (h v : Nat) (val src : Int32) : Nat → Int32 := upd (upd f (13 * h + (2 + v)) val) (13 * h + 8) src
def rcM (g : Nat → Int32) (h v : Nat) (val src : Int32) : Nat → Int32 := upd (upd g (8 * h + (2 + v)) val) (8 * h + 6) src
theorem receive_eq {R : am_M} {h t k v b sz : Nat} {src val : Int32} (hh : h < 8) (ht : t < 40) (hAT : R 1 (13 * h + 0) = nI t) (hk : k < 8) (hkind : X3_kindOf (am_sub R 11) (nI t) = nI k) (hv : v < 4) (hinto : R 15 t = nI v) (hb : b < 2 ^ 31) (hbd : R 16 t = nI b) (hsz : sz < 2 ^ 31) : X2_receive R (nI h) src val (nI sz) = some (if sz ≤ b then sC (sC R 1 (rcS (R 1) h v val src)) 0 (am_u (rcF (R 0) k h t src) 15 (rcF (R 0) k h t src 15 ||| (1 <<< (nI h &&& 31)))) else sC (sC R 1 (stop4 (rcS (R 1) h v val src) h)) 0 (rcF (R 0) k h t src)) := by
  have key : ∀ F0 : Nat → Int32, X2_receive_J37 (sC R 0 F0) (nI h) src val (nI sz) (nI t) = some (if sz ≤ b then sC (sC R 1 (rcS (R 1) h v val src)) 0 (am_u F0 15 (F0 15 ||| (1 <<< (nI h &&& 31)))) else sC (sC R 1 (stop4 (rcS (R 1) h v val src) h)) 0 F0) := by
    intro F0
    unfold X2_receive_J37
    rw [jat_nI (by omega) (by omega), show sC R 0 F0 15 t = nI v from hinto, show (2 : Int32) + nI v = nI (2 + v) from nI_add 2 v, X2_set_eq hh (by omega)]
    dsimp only [Option.bind]
    rw [X2_s8 hh]
    dsimp only
    rw [sC_sC, jat_nI (by omega) (by omega)]
    show (if nI sz ≤ R 16 t then _ else _) = _
    rw [hbd]
    by_cases c : sz ≤ b
    · rw [if_pos (show nI sz ≤ nI b by rw [pu_le hsz hb]; exact c), if_pos c]
      unfold X2_hasDone
      dsimp only
      congr 1
      funext q
      rcases q with _ | _ | q <;> rfl
    · rw [if_neg (show ¬ nI sz ≤ nI b by rw [pu_le hsz hb]; exact c), if_neg c, X2_stop_eq hh]
      dsimp only
      rw [sC_sC]
      congr 1
      funext q
      rcases q with _ | _ | q <;> rfl
  unfold X2_receive
  rw [X2_g0 hh, hAT, hkind]
  by_cases c : k = 4
  · rw [if_pos (show nI k = 4 by rw [c]; rfl), key]
    unfold rcF
    rw [if_pos c]
  · rw [if_neg (show ¬ nI k = 4 from fun q => c ((nI_eq (by omega) (by omega)).mp (show nI k = nI 4 from q)))]
    have := key (R 0)
    rw [sC_self] at this
    rw [this]
    unfold rcF
    rw [if_neg c]
theorem has_eq (n : Nat) {R : am_M} {h t v b sz : Nat} {src val : Int32} (hh : h < 8) (ht : t < 40) (hAT : R 15 (8 * h + 0) = nI t) (hv : v < 4) (hinto : R 9 t = nI v) (hb : b < 2 ^ 31) (hbd : R 10 t = nI b) (hsz : sz < 2 ^ 31) : X8_has n R (nI h) src val (nI sz) = if sz ≤ b then X8_goOn n (sC R 15 (rcM (R 15) h v val src)) (nI h) else some (sC R 15 (upd (rcM (R 15) h v val src) (8 * h + 1) 1)) := by
  unfold X8_has
  rw [X8_o0 hh, hAT]
  dsimp only [Option.bind]
  rw [if_neg (pu_g (n := 80) (by omega) (by omega)), nI_clamp (by omega), hinto, show (2 : Int32) + nI v = nI (2 + v) from nI_add 2 v, X8_put_eq hh (by omega)]
  dsimp only
  rw [X8_p6 hh]
  dsimp only
  rw [if_neg (fun q => by rcases q with q | q; exact pu_nlt0 (by omega) q; omega), sC_sC]
  show (if nI sz ≤ R 10 t then _ else _) = _
  rw [hbd]
  by_cases c : sz ≤ b
  · rw [if_pos (show nI sz ≤ nI b by rw [pu_le hsz hb]; exact c), if_pos c]
    show Option.bind (X8_goOn n (sC R 15 (rcM (R 15) h v val src)) (nI h)) (fun q7 => some q7) = _
    cases X8_goOn n (sC R 15 (rcM (R 15) h v val src)) (nI h) <;> rfl
  · rw [if_neg (show ¬ nI sz ≤ nI b by rw [pu_le hsz hb]; exact c), if_neg c, X8_p1 hh]
    dsimp only
    rw [sC_sC]
    rfl
theorem rec_ev {S σ S1 σ1 : am_M} {N m h t v : Nat} {val src : Int32} {kd : Nat → Nat} {G : Nat → Nat → List Int32} (hv : v < 4) (ha : act S σ N m kd G h t) (hS : ∀ j, j < 13 → j ≠ 1 → j < 10 → S1 1 (13 * h + j) = rcS (S 1) h v val src (13 * h + j)) (hσ : ∀ j, j < 8 → j ≠ 1 → σ1 15 (8 * h + j) = rcM (σ 15) h v val src (8 * h + j)) : rEv S1 σ1 m h := by
  obtain ⟨⟨r2, r6, r7, r8, r9⟩, -⟩ := ha
  refine ⟨fun w hw => ?_, ?_, ?_, ?_, ?_⟩
  · have h1 := r2 w hw
    rw [show 13 * h + 2 + w = 13 * h + (2 + w) by omega, show 8 * h + 2 + w = 8 * h + (2 + w) by omega] at *
    rw [hS _ (by omega) (by omega) (by omega), hσ _ (by omega) (by omega)]
    unfold rcS rcM
    rw [upd_ne (by omega), upd_ne (i := 8 * h + 6) (by omega)]
    by_cases e : w = v
    · rw [e, upd_eq, upd_eq]
    · rw [upd_ne (by omega), upd_ne (by omega)]
      exact h1
  · rw [hS _ (by omega) (by omega) (by omega)]
    unfold rcS
    rw [upd_ne (by omega), upd_ne (by omega)]
    exact r6
  · rw [hS _ (by omega) (by omega) (by omega)]
    unfold rcS
    rw [upd_ne (by omega), upd_ne (by omega)]
    exact r7
  · rw [hS _ (by omega) (by omega) (by omega), hσ _ (by omega) (by omega)]
    unfold rcS rcM
    rw [upd_eq, upd_eq]
  · rw [hS _ (by omega) (by omega) (by omega), hσ _ (by omega) (by omega)]
    unfold rcS rcM
    rw [upd_ne (by omega), upd_ne (by omega), upd_ne (by omega), upd_ne (by omega)]
    exact r9
theorem rec_pend {n : Nat} {τ : Nat → Int64} {S σ S1 σ1 : am_M} {N m h t v : Nat} {val src : Int32} {kd nx ot : Nat → Nat} {G : Nat → Nat → List Int32} (hv : v < 4) (ha : act S σ N m kd G h t) (hb : rB n τ S1 σ1 N m kd nx ot G) (hS : ∀ j, j < 13 → S1 1 (13 * h + j) = rcS (S 1) h v val src (13 * h + j)) (hσ : ∀ j, j < 8 → σ1 15 (8 * h + j) = rcM (σ 15) h v val src (8 * h + j)) : pend n τ S1 σ1 N m kd nx ot G h t := by
  have hev := rec_ev hv ha (fun j h1 _ _ => hS j h1) (fun j h1 _ => hσ j h1)
  obtain ⟨q0, q1, q2, q3, q4, q5, q6, -⟩ := ha
  refine ⟨hb.1, hb.2.1, hb.2.2.2.2.2.1, hev, q1, by omega, ?_, ?_, ?_, ?_⟩
  · rw [hS _ (by omega)]
    unfold rcS
    rw [upd_ne (by omega), upd_ne (by omega)]
    exact q3
  · rw [hσ _ (by omega)]
    unfold rcM
    rw [upd_ne (by omega), upd_ne (by omega)]
    exact q4
  · rw [hS _ (by omega)]
    unfold rcS
    rw [upd_ne (by omega), upd_ne (by omega)]
    exact q5
  · rw [hσ _ (by omega)]
    unfold rcM
    rw [upd_ne (by omega), upd_ne (by omega)]
    exact q6
theorem rec_stop {S σ S1 σ1 : am_M} {N m h t v : Nat} {val src : Int32} {kd : Nat → Nat} {G : Nat → Nat → List Int32} (hN : N ≤ 40) (hv : v < 4) (ha : act S σ N m kd G h t) (hS : ∀ j, j < 13 → S1 1 (13 * h + j) = stop4 (rcS (S 1) h v val src) h (13 * h + j)) (hσ : ∀ j, j < 8 → σ1 15 (8 * h + j) = upd (rcM (σ 15) h v val src) (8 * h + 1) 1 (8 * h + j)) : rHD S1 σ1 N m kd G h ∧ ph S1 N h = t + 1 := by
  have hev := rec_ev (S1 := S1) (σ1 := σ1) hv ha (fun j h1 h2 h3 => by
    rw [hS j h1]
    unfold stop4
    rw [upd_ne (by omega), upd_ne (by omega), upd_ne (by omega), upd_ne (by omega)]) (fun j h1 h2 => by rw [hσ j h1, upd_ne (by omega)])
  obtain ⟨q0, q1, q2, q3, q4, q5, q6, -⟩ := ha
  have e : nI t = tgt N t := (if_neg (by omega)).symm
  have s0 : S1 1 (13 * h + 0) = tgt N t := by
    rw [hS _ (by omega)]
    unfold stop4 rcS
    rw [upd_ne (by omega), upd_ne (by omega), upd_ne (by omega), upd_ne (by omega), upd_ne (by omega), upd_ne (by omega), ← e]
    exact q3
  have s1 : S1 1 (13 * h + 1) = nI 1 := by
    rw [hS _ (by omega)]
    unfold stop4
    rw [upd_ne (by omega), upd_ne (by omega), upd_ne (by omega), upd_eq]
    rfl
  refine ⟨⟨hev, t, 1, by omega, by omega, fun _ => q2, fun _ => q1, s0, ?_, s1, ?_, fun w hw => ?_, fun _ q => absurd q (by decide)⟩, ?_⟩
  · rw [hσ _ (by omega), upd_ne (by omega)]
    unfold rcM
    rw [upd_ne (by omega), upd_ne (by omega), ← e]
    exact q4
  · rw [hσ _ (by omega), upd_eq]
    rfl
  · rw [if_neg (fun q => absurd q.2 (by decide)), Nat.add_assoc, hS _ (by omega)]
    unfold stop4
    rcases (show w = 0 ∨ w = 1 ∨ w = 2 by omega) with rfl | rfl | rfl
    · rw [upd_ne (by omega), upd_ne (by omega)]; exact upd_eq
    · rw [upd_ne (by omega)]; exact upd_eq
    · exact upd_eq
  · unfold ph
    rw [s0, s1, ps_tgt hN (by omega), nI_clamp (by omega)]
theorem fiW_some {σ : am_M} {p mk : Int32} : ∀ (k i : Nat), ¬ fiW σ p mk i k = -1 → ∃ a, i ≤ a ∧ a < i + k ∧ fiW σ p mk i k = nI a ∧ X6_pairAt σ (nI a) = p := by
  intro k
  induction k with
  | zero => intro i h; exact absurd rfl h
  | succ k ih =>
    intro i h
    unfold fiW at h ⊢
    by_cases c : X6_pairAt σ (nI i) = p ∧ σ 2 i = mk
    · rw [if_pos c]
      exact ⟨i, Nat.le_refl _, by omega, rfl, c.1⟩
    · rw [if_neg c] at h ⊢
      obtain ⟨a, a1, a2, a3⟩ := ih (i + 1) h
      exact ⟨a, by omega, by omega, a3⟩
