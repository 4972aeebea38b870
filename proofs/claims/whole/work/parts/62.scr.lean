/-! THE SCRIPT: the class's (cells 11..18 of a Scene's world) against the reference's -/
def envC (S : am_M) (h : Nat) : Int32 → Int32 := fun x => X2_get S (nI h) (1 - x)
def z0 : Nat → Int32 := fun _ => 0
/-- what an EXPR is worth to a HAND -/
def aV (S : am_M) (h : Nat) (L : List Int32) : Int32 := evL (envC S h) L z0 0 0
/-- a HAND's VALUES stand alike -/
def rEv (S σ : am_M) (m h : Nat) : Prop := (∀ v, v < 4 → S 1 (13 * h + 2 + v) = σ 15 (8 * h + 2 + v)) ∧ S 1 (13 * h + 6) = nI h ∧ S 1 (13 * h + 7) = nI m ∧ S 1 (13 * h + 8) = σ 15 (8 * h + 6) ∧ S 1 (13 * h + 9) = σ 15 (8 * h + 7)
def rAskL (S σ : am_M) (s w k : Nat) (L : List Int32) : Prop := ∃ (p q z : Nat), S 17 (3 * s + w) = nI p ∧ S 11 9 = nI z ∧ z ≤ 900 ∧ p + L.length < z ∧ (∀ i, i < L.length → S 18 (p + i) = L.getD i 0) ∧ S 18 (p + L.length) = -20 ∧ wfL L 0 ∧ σ 7 (3 * s + k) = nI q ∧ σ 8 (3 * s + k) = nI (q + (encL L).length) ∧ q + (encL L).length ≤ 1080 ∧ (∀ i, i < (encL L).length → σ 5 (q + i) = (encL L).getD i 0) ∧ ∀ x ∈ L, okI x
theorem valueOf_ev {S σ : am_M} {m h : Nat} (hh : h < 8) (hr : rEv S σ m h) (hm : σ 0 3 = nI m) : ∀ (st : Nat → Int32) (v : Nat), v < 7 → X8_valueOf (sC σ 16 st) (nI h) (nI v) = some (envC S h (-1 - nI v)) := by
  intro st v hv
  have e1 : (1 : Int32) - (-1 - nI v) = nI (2 + v) := by
    rcases (show v = 0 ∨ v = 1 ∨ v = 2 ∨ v = 3 ∨ v = 4 ∨ v = 5 ∨ v = 6 by omega) with rfl | rfl | rfl | rfl | rfl | rfl | rfl <;> decide
  unfold envC
  rw [e1, X2_get_eq hh (by omega)]
  obtain ⟨r2, r6, r7, r8, r9⟩ := hr
  unfold X8_valueOf
  by_cases h4 : v < 4
  · rw [if_neg (show ¬ (4 : Int32) ≤ nI v by rw [show (4 : Int32) = nI 4 from rfl, pu_le (by omega) (by omega)]; omega), show (2 : Int32) + nI v = nI (2 + v) from nI_add 2 v, X8_own_eq hh (by omega)]
    show some (σ 15 (8 * h + (2 + v))) = _
    have := r2 v h4
    rw [show 13 * h + (2 + v) = 13 * h + 2 + v by omega, this, show 8 * h + (2 + v) = 8 * h + 2 + v by omega]
  · rw [if_pos (show (4 : Int32) ≤ nI v by rw [show (4 : Int32) = nI 4 from rfl, pu_le (by omega) (by omega)]; omega)]
    rcases (show v = 4 ∨ v = 5 ∨ v = 6 by omega) with rfl | rfl | rfl
    · rw [if_pos (by decide), show 13 * h + (2 + 4) = 13 * h + 6 by omega, r6]
    · rw [if_neg (by decide), if_pos (by decide), show 13 * h + (2 + 5) = 13 * h + 7 by omega, r7]
      show some (σ 0 3) = _
      rw [hm]
    · rw [if_neg (by decide), if_neg (by decide), X8_o6 hh, show 13 * h + (2 + 6) = 13 * h + 8 by omega, r8]
      rfl
/-- SendHall asks -/
theorem ask_cl (n : Nat) (hn : 2200 < n) {S σ : am_M} {N h s w k : Nat} {L : List Int32} (hN : S 11 7 = nI N) (hN4 : N ≤ 40) (hs : s < N) (hw : w < 3) (ha : rAskL S σ s w k L) : ∃ st, X2_ask n S (nI h) (nI s) (nI w) = some (aV S h L, sC S 7 st) := by
  obtain ⟨p, q, z, a1, a2, a3, a4, a5, a6, a7, -⟩ := ha
  have A := ask_loop n S (nI h) z a2 a3 L p 0 n (S 7) (by omega) a4 a5 a6 a7
  rw [sC_self, nI_0] at A
  refine ⟨evL (fun x => X2_get S (nI h) (1 - x)) L (S 7) 0, ?_⟩
  unfold X2_ask X2_ask_J20 X2_ask_J46
  rw [if_neg (pu_nlt0 (by omega)), hN, if_neg (by rw [pu_le (by omega) (by omega)]; omega), if_neg (by decide), show nI s * 3 = nI (s * 3) from pk_mul s 3, nI_add, show s * 3 + w = 3 * s + w by omega, jat_nI (by omega) (by omega), a1, if_neg (pu_ne1 (by omega)), A]
  unfold aV envC
  rw [evL_agree _ L (S 7) z0 0 (fun j hj => absurd hj (Nat.not_lt_zero j)) a7]
/-- SendHall asks for what the STEP doesn't have -/
theorem ask_no (n : Nat) {S : am_M} {N h s w : Nat} (hN : S 11 7 = nI N) (hN4 : N ≤ 40) (hs : s ≤ N) (hw : w < 3) (ha : s < N → S 17 (3 * s + w) = -1) : X2_ask n S (nI h) (nI s) (nI w) = some (0, S) := by
  unfold X2_ask X2_ask_J19 X2_ask_J20 X2_ask_J46
  rw [if_neg (pu_nlt0 (by omega)), hN]
  by_cases h1 : s < N
  · rw [if_neg (by rw [pu_le (by omega) (by omega)]; omega), if_neg (by decide), show nI s * 3 = nI (s * 3) from pk_mul s 3, nI_add, show s * 3 + w = 3 * s + w by omega, jat_nI (by omega) (by omega), ha h1, if_pos rfl]
  · rw [if_pos (by rw [pu_le (by omega) (by omega)]; omega), if_pos rfl, if_pos rfl]
/-- the reference asks -/
theorem ask_md (n : Nat) (hn : 2200 < n) {S σ : am_M} {m h s w k : Nat} {L : List Int32} (hs : s < 40) (hk : k < 3) (hh : h < 8) (hr : rEv S σ m h) (hm : σ 0 3 = nI m) (hat : σ 15 (8 * h + 0) = nI s) (ha : rAskL S σ s w k L) : ∃ st, X8_asked n σ (nI h) (nI k) = some (aV S h L, sC σ 16 st) := by
  obtain ⟨p, q, z, a1, a2, a3, a4, a5, a6, a7, a8, a9, a10, a11, a12⟩ := ha
  have B := asked_loop n σ h (3 * s + k) (q + (encL L).length) (by omega) a9 (by omega) (envC S h) (valueOf_ev hh hr hm) L q 0 n (σ 16) (by omega) rfl a11 a12 a7
  rw [sC_self, nI_0] at B
  refine ⟨evL (envC S h) L (σ 16) 0, ?_⟩
  unfold X8_asked
  rw [X8_o0 hh, hat]
  show (if ((3 : Int32) * nI s + nI k) < 0 ∨ 240 ≤ ((3 : Int32) * nI s + nI k).toNatClampNeg then none else X8_asked_L22 n n σ (nI h) ((3 : Int32) * nI s + nI k) 0 (σ 7 ((3 : Int32) * nI s + nI k).toNatClampNeg)) = _
  rw [show (3 : Int32) * nI s = nI (3 * s) from pk_mul 3 s, nI_add, if_neg (pu_g (n := 240) (by omega) (by omega)), nI_clamp (by omega), a8, B]
  unfold aV
  rw [evL_agree _ L (σ 16) z0 0 (fun j hj => absurd hj (Nat.not_lt_zero j)) a7]
/-- a STEP's number to the reference: none behind the last -/
def tgt (N t : Nat) : Int32 := if t = N then -1 else nI t
/-- which of its three a kind asks; which of the reference's that is -/
def hasA (k w : Nat) : Bool := decide (k ≤ 2) || (decide (k = 3) && decide (w ≤ 1)) || (decide (k = 4) && decide (w = 1)) || (decide (7 ≤ k) && decide (w = 2))
def mkA (k w : Nat) : Nat := if k ≤ 4 then w else 0
def rStp (n : Nat) (S σ : am_M) (N : Nat) (kd nx ot : Nat → Nat) (G : Nat → Nat → List Int32) (s : Nat) : Prop :=
  (kd s ≤ 10 ∧ S 12 s = nI (kd s) ∧ σ 6 s = nI (kd s)) ∧ (s < nx s ∧ nx s ≤ N ∧ S 13 s = nI (nx s)) ∧ (∃ v, v < 4 ∧ S 15 s = nI v ∧ σ 9 s = nI v) ∧
  (∀ w, w < 3 → (hasA (kd s) w = true → rAskL S σ s w (mkA (kd s) w) (G s w)) ∧ (hasA (kd s) w = false → S 17 (3 * s + w) = -1)) ∧
  (kd s ≠ 10 → X8_following n σ (nI s) = some (tgt N (nx s))) ∧
  (kd s = 10 → s < ot s ∧ ot s ≤ N ∧ S 14 s = nI (ot s) ∧ ∃ f, f ≤ N ∧ X8_following n σ (nI s) = some (tgt N f) ∧ ((σ 12 s = -1 ∧ nx s = f) ∨ (σ 12 s = nI (nx s) ∧ nx s < N)) ∧ ((σ 13 s = -1 ∧ ot s = f) ∨ (σ 13 s = nI (ot s) ∧ ot s < N))) ∧
  (kd s ≤ 4 → ∃ b, 1 ≤ b ∧ b ≤ 99 ∧ S 16 s = nI b ∧ σ 10 s = nI b)
def rScr (n : Nat) (S σ : am_M) (N : Nat) (kd nx ot : Nat → Nat) (G : Nat → Nat → List Int32) : Prop := N ≤ 40 ∧ S 11 7 = nI N ∧ σ 4 0 = nI N ∧ ∀ s, s < N → rStp n S σ N kd nx ot G s
theorem fol_L (n : Nat) {σ σ' : am_M} (h : σ' 11 = σ 11) : ∀ (K : Nat) (x : Int32), X8_following_L7 n σ' K x = X8_following_L7 n σ K x := by
  intro K
  induction K with
  | zero => intro x; rfl
  | succ K ih =>
    intro x
    simp only [X8_following_L7, X8_following_B7]
    rw [h]
    split
    · rfl
    · split
      · rfl
      · exact ih _
theorem fol_congr (n : Nat) {σ σ' : am_M} (h : σ' 11 = σ 11) (x : Int32) : X8_following n σ' x = X8_following n σ x := by
  unfold X8_following
  rw [h]
  split
  · rfl
  · exact fol_L n h _ _
theorem rScr_congr {n : Nat} {S S' σ σ' : am_M} {N : Nat} {kd nx ot : Nat → Nat} {G : Nat → Nat → List Int32} (hS : ∀ c, 11 ≤ c → c ≤ 18 → S' c = S c) (hσ : ∀ c, 4 ≤ c → c ≤ 13 → σ' c = σ c) (h : rScr n S σ N kd nx ot G) : rScr n S' σ' N kd nx ot G := by
  obtain ⟨h1, h2, h3, h4⟩ := h
  refine ⟨h1, by rw [hS 11 (by omega) (by omega)]; exact h2, by rw [hσ 4 (by omega) (by omega)]; exact h3, fun s hs => ?_⟩
  have hf : X8_following n σ' (nI s) = X8_following n σ (nI s) := fol_congr n (hσ 11 (by omega) (by omega)) _
  obtain ⟨⟨a1, a2, a3⟩, ⟨b1, b2, b3⟩, ⟨v, c1, c2, c3⟩, d, e, f, g⟩ := h4 s hs
  refine ⟨⟨a1, by rw [hS 12 (by omega) (by omega)]; exact a2, by rw [hσ 6 (by omega) (by omega)]; exact a3⟩, ⟨b1, b2, by rw [hS 13 (by omega) (by omega)]; exact b3⟩, ⟨v, c1, by rw [hS 15 (by omega) (by omega)]; exact c2, by rw [hσ 9 (by omega) (by omega)]; exact c3⟩, fun w hw => ⟨fun hh => ?_, fun hh => by rw [hS 17 (by omega) (by omega)]; exact (d w hw).2 hh⟩, fun hk => by rw [hf]; exact e hk, fun hk => ?_, fun hk => ?_⟩
  · obtain ⟨p, q, z, r⟩ := (d w hw).1 hh
    refine ⟨p, q, z, ?_⟩
    rw [hS 17 (by omega) (by omega), hS 11 (by omega) (by omega), hS 18 (by omega) (by omega), hσ 7 (by omega) (by omega), hσ 8 (by omega) (by omega), hσ 5 (by omega) (by omega)]
    exact r
  · obtain ⟨f1, f2, f3, x, f4, f5, f6, f7⟩ := f hk
    refine ⟨f1, f2, by rw [hS 14 (by omega) (by omega)]; exact f3, x, f4, by rw [hf]; exact f5, ?_, ?_⟩
    · rw [hσ 12 (by omega) (by omega)]; exact f6
    · rw [hσ 13 (by omega) (by omega)]; exact f7
  · obtain ⟨bb, g1, g2, g3, g4⟩ := g hk
    exact ⟨bb, g1, g2, by rw [hS 16 (by omega) (by omega)]; exact g3, by rw [hσ 10 (by omega) (by omega)]; exact g4⟩
theorem kindOf_eq {S : am_M} {N s : Nat} {k : Int32} (hN : S 11 7 = nI N) (hN4 : N ≤ 40) (hs : s < N) (hk : S 12 s = k) : X3_kindOf (am_sub S 11) (nI s) = k := by
  unfold X3_kindOf
  rw [if_neg (pu_nlt0 (by omega)), show (am_sub S 11) 0 7 = nI N from hN, if_neg (by rw [pu_le (by omega) (by omega)]; omega), show (am_sub S 11) 1 = S 12 from rfl, jat_nI (by omega) (by omega)]
  exact hk
theorem kindOf_end {S : am_M} {N : Nat} (hN : S 11 7 = nI N) (hN4 : N ≤ 40) : X3_kindOf (am_sub S 11) (nI N) = -1 := by
  unfold X3_kindOf
  rw [if_neg (pu_nlt0 (by omega)), show (am_sub S 11) 0 7 = nI N from hN, if_pos (by rw [pu_le (by omega) (by omega)]; omega)]
