/-! ARRIVING -/
theorem neg_lit : ∀ x : Int32, -7 ≤ x → x < 0 → ∃ v : Nat, v < 7 ∧ x = -1 - nI v := by
  intro x h1 h2
  rw [Int32.le_iff_toInt_le, show (-7 : Int32).toInt = -7 by decide] at h1
  rw [Int32.lt_iff_toInt_lt, show (0 : Int32).toInt = 0 by decide] at h2
  refine ⟨(-1 - x.toInt).toNat, by omega, ?_⟩
  rw [← Int32.toInt_inj]
  rcases (show x.toInt = -1 ∨ x.toInt = -2 ∨ x.toInt = -3 ∨ x.toInt = -4 ∨ x.toInt = -5 ∨ x.toInt = -6 ∨ x.toInt = -7 by omega) with e | e | e | e | e | e | e <;> rw [e] <;> decide
theorem evL_env {env env' : Int32 → Int32} (h : ∀ x, -7 ≤ x → x < 0 → env x = env' x) : ∀ (L : List Int32) (st : Nat → Int32) (k : Nat), evL env L st k = evL env' L st k := by
  intro L
  induction L with
  | nil => intro st k; rfl
  | cons x r ih =>
    intro st k
    unfold evL
    by_cases h1 : -7 ≤ x
    · rw [if_pos h1, if_pos h1]
      by_cases h2 : x < 0
      · rw [if_pos h2, if_pos h2, h x h1 h2]; exact ih _ _
      · rw [if_neg h2, if_neg h2]; exact ih _ _
    · rw [if_neg h1, if_neg h1]; exact ih _ _
theorem aV_congr {S S' : am_M} {h : Nat} (hh : h < 8) (hr : ∀ j, 2 ≤ j → j ≤ 8 → S 1 (13 * h + j) = S' 1 (13 * h + j)) (L : List Int32) : aV S h L = aV S' h L := by
  unfold aV
  rw [evL_env (env := envC S h) (env' := envC S' h) (fun x h1 h2 => ?_)]
  obtain ⟨v, hv, rfl⟩ := neg_lit x h1 h2
  have e1 : (1 : Int32) - (-1 - nI v) = nI (2 + v) := by
    rcases (show v = 0 ∨ v = 1 ∨ v = 2 ∨ v = 3 ∨ v = 4 ∨ v = 5 ∨ v = 6 by omega) with rfl | rfl | rfl | rfl | rfl | rfl | rfl <;> decide
  unfold envC
  rw [e1, X2_get_eq hh (by omega), X2_get_eq hh (by omega)]
  exact hr (2 + v) (by omega) (by omega)
/-- what stands in a HAND's field 10 + w at a STEP -/
def aF (S : am_M) (h : Nat) (kd : Nat → Nat) (G : Nat → Nat → List Int32) (t w : Nat) : Int32 := if hasA (kd t) w = true then aV S h (G t w) else 0
theorem aF_congr {S S' : am_M} {h : Nat} {kd : Nat → Nat} {G : Nat → Nat → List Int32} {t w : Nat} (hh : h < 8) (hr : ∀ j, 2 ≤ j → j ≤ 8 → S 1 (13 * h + j) = S' 1 (13 * h + j)) : aF S h kd G t w = aF S' h kd G t w := by
  unfold aF
  rw [aV_congr hh hr]
theorem stS_of7 {S : am_M} {st : Nat → Int32} : sC S 7 st = stS S (S 1) st := by
  funext k
  simp only [stS, sC_app]
  by_cases h7 : k = 7
  · simp [h7]
  · by_cases h1 : k = 1 <;> simp [h1, h7]
theorem ask_any (n : Nat) (hn : 2200 < n) {S σ : am_M} {N h t w : Nat} {kd nx ot : Nat → Nat} {G : Nat → Nat → List Int32} {f st : Nat → Int32} (hs : rScr n S σ N kd nx ot G) (ht : t ≤ N) (hw : w < 3) : ∃ st', X2_ask n (stS S f st) (nI h) (nI t) (nI w) = some (if t < N then aF (stS S f st) h kd G t w else 0, stS S f st') := by
  have hs' := rScr_st (f := f) (st := st) (g := σ 15) (s' := σ 16) hs
  obtain ⟨hN4, hN, hN2, hstp⟩ := hs'
  by_cases h1 : t < N
  · rw [if_pos h1]
    unfold aF
    obtain ⟨-, -, -, d, -⟩ := hstp t h1
    by_cases h2 : hasA (kd t) w = true
    · rw [if_pos h2]
      obtain ⟨st', e⟩ := ask_cl n hn (h := h) hN hN4 h1 hw ((d w hw).1 h2)
      exact ⟨st', by rw [e, stS_7]⟩
    · rw [if_neg h2]
      exact ⟨st, ask_no n hN hN4 ht hw (fun _ => (d w hw).2 (by simpa using h2))⟩
  · rw [if_neg h1]
    exact ⟨st, ask_no n hN hN4 ht hw (fun h => absurd h h1)⟩
/-- a HAND stands alike in both: at its STEP t, stopped (b = 1) or not -/
def rHD (S σ : am_M) (N m : Nat) (kd : Nat → Nat) (G : Nat → Nat → List Int32) (h : Nat) : Prop := rEv S σ m h ∧ ∃ t b : Nat, t ≤ N ∧ b < 2 ∧ (t < N → kd t < 8) ∧ (b = 1 → t < N) ∧ S 1 (13 * h + 0) = tgt N t ∧ σ 15 (8 * h + 0) = tgt N t ∧ S 1 (13 * h + 1) = nI b ∧ σ 15 (8 * h + 1) = nI b ∧ (∀ w, w < 3 → S 1 (13 * h + 10 + w) = if t < N ∧ b = 0 then aF S h kd G t w else 0) ∧ (t < N → b = 0 → kd t ≤ 3 → ∃ o, o < m ∧ o ≠ h ∧ S 1 (13 * h + 10) = nI o)
/-- of a HAND's row anything, of the others nothing -/
def owC (f f0 : Nat → Int32) (h : Nat) : Prop := ∀ j, ¬ (13 * h ≤ j ∧ j < 13 * h + 13) → f j = f0 j
def owM (g g0 : Nat → Int32) (h : Nat) : Prop := ∀ j, ¬ (8 * h ≤ j ∧ j < 8 * h + 8) → g j = g0 j
def stop4 (f : Nat → Int32) (h : Nat) : Nat → Int32 := upd (upd (upd (upd f (13 * h + 1) 1) (13 * h + 10) 0) (13 * h + 11) 0) (13 * h + 12) 0
theorem X2_stop_eq {S : am_M} {h : Nat} (hh : h < 8) : X2_stop S (nI h) = some (sC S 1 (stop4 (S 1) h)) := by
  unfold X2_stop
  rw [X2_s1 hh]
  dsimp only [Option.bind]
  rw [X2_s10 hh]
  dsimp only [Option.bind]
  rw [X2_s11 hh]
  dsimp only [Option.bind]
  rw [X2_s12 hh]
  dsimp only [Option.bind]
  rw [sC_sC, sC_sC, sC_sC]
  rfl
/-- what is asked at a STEP, and behind the last -/
def aE (S : am_M) (h N : Nat) (kd : Nat → Nat) (G : Nat → Nat → List Int32) (t w : Nat) : Int32 := if t < N then aF S h kd G t w else 0
def arF (f : Nat → Int32) (h : Nat) (v : Int32) (A : Nat → Int32) : Nat → Int32 := upd (upd (upd (upd f (13 * h + 0) v) (13 * h + 10) (A 0)) (13 * h + 11) (A 1)) (13 * h + 12) (A 2)
/-- the class's end of arrive -/
theorem arr_end (n : Nat) (hn : 2200 < n) {S σ : am_M} {τ : Nat → Int64} {N h t : Nat} {kd nx ot : Nat → Nat} {G : Nat → Nat → List Int32} {f st : Nat → Int32} (hs : rScr n S σ N kd nx ot G) (hh : h < 8) (ht : t ≤ N) : ∃ st', X2_arrive_J33 n τ (stS S f st) (nI h) (nI t) = (if t < N ∧ kd t ≤ 3 then X2_arrive_J118 n τ (stS S (arF f h (tgt N t) (aE (stS S f st) h N kd G t)) st') (nI h) 1 else some (stS S (arF f h (tgt N t) (aE (stS S f st) h N kd G t)) st')) := by
  obtain ⟨A, hA⟩ : ∃ A, A = aE (stS S f st) h N kd G t := ⟨_, rfl⟩
  rw [← hA]
  have hask : ∀ (w : Nat) (f' s' : Nat → Int32), w < 3 → (∀ j, 2 ≤ j → j ≤ 8 → f' (13 * h + j) = f (13 * h + j)) → ∃ st', X2_ask n (stS S f' s') (nI h) (nI t) (nI w) = some (A w, stS S f' st') := by
    intro w f' s' hw hf
    obtain ⟨st', e⟩ := ask_any n hn (h := h) (w := w) (f := f') (st := s') hs ht hw
    refine ⟨st', ?_⟩
    rw [e, hA]
    unfold aE
    rw [aF_congr (S' := stS S f st) hh (fun j h1 h2 => hf j h1 h2)]
  obtain ⟨s1, e1⟩ := hask 0 (upd f (13 * h + 0) (tgt N t)) st (by omega) (fun j h1 h2 => upd_ne (by omega))
  obtain ⟨s2, e2⟩ := hask 1 (upd (upd f (13 * h + 0) (tgt N t)) (13 * h + 10) (A 0)) s1 (by omega) (fun j h1 h2 => by rw [upd_ne (by omega), upd_ne (by omega)])
  obtain ⟨s3, e3⟩ := hask 2 (upd (upd (upd f (13 * h + 0) (tgt N t)) (13 * h + 10) (A 0)) (13 * h + 11) (A 1)) s2 (by omega) (fun j h1 h2 => by rw [upd_ne (by omega), upd_ne (by omega), upd_ne (by omega)])
  refine ⟨s3, ?_⟩
  have key : ∀ k : Int32, (k < 0 ∨ 3 < k ↔ ¬ (t < N ∧ kd t ≤ 3)) → X2_arrive_J57 n τ (stS S f st) (nI h) (nI t) k (tgt N t) 0 (nI h) = (if t < N ∧ kd t ≤ 3 then X2_arrive_J118 n τ (stS S (arF f h (tgt N t) A) s3) (nI h) 1 else some (stS S (arF f h (tgt N t) A) s3)) := by
    intro k hk
    unfold X2_arrive_J57
    rw [X2_s0 hh]
    dsimp only [Option.bind]
    rw [stS_1]
    erw [e1]
    dsimp only [Option.bind]
    rw [X2_s10 hh]
    dsimp only [Option.bind]
    rw [stS_1]
    erw [e2]
    dsimp only [Option.bind]
    rw [X2_s11 hh]
    dsimp only [Option.bind]
    rw [stS_1]
    erw [e3]
    dsimp only [Option.bind]
    rw [X2_s12 hh]
    dsimp only [Option.bind]
    rw [stS_1]
    unfold X2_arrive_J117
    by_cases hc : t < N ∧ kd t ≤ 3
    · rw [if_neg (fun q => hk.mp (Or.inl q) hc), if_neg (fun q => hk.mp (Or.inr q) hc), if_pos hc]
      rfl
    · rw [if_neg hc]
      have hz : ∀ T : am_M, X2_arrive_J118 n τ T (nI h) 0 = some T := fun T => by
        unfold X2_arrive_J118
        rw [if_pos rfl]
      rw [hz]
      rcases hk.mpr hc with q | q
      · rw [if_pos q]; rfl
      · by_cases q0 : k < 0
        · rw [if_pos q0]; rfl
        · rw [if_neg q0, if_pos q]; rfl
  have hs' := rScr_st (f := f) (st := st) (g := σ 15) (s' := σ 16) hs
  obtain ⟨hN4, hN, hN2, hstp⟩ := hs'
  unfold X2_arrive_J33
  by_cases h1 : t < N
  · obtain ⟨⟨k1, k2, k3⟩, -⟩ := hstp t h1
    rw [kindOf_eq hN hN4 h1 k2, if_neg (pu_ne1 (by omega))]
    have e : nI t = tgt N t := (if_neg (by omega)).symm
    have := key (nI (kd t)) ⟨fun q hc => by
      rcases q with q | q
      · exact pu_nlt0 (by omega) q
      · rw [show (3 : Int32) = nI 3 from rfl, pu_lt (by omega) (by omega)] at q; omega, fun hc => Or.inr (by
        rw [show (3 : Int32) = nI 3 from rfl, pu_lt (by omega) (by omega)]; omega)⟩
    rw [← this]
    congr 1
  · have e : t = N := by omega
    subst e
    rw [kindOf_end hN hN4, if_pos rfl]
    have := key (-1) ⟨fun _ hc => h1 hc.1, fun _ => Or.inl (by decide)⟩
    rw [← this]
    congr 1
    exact (if_pos rfl).symm
