/-! A MOVE: what is to be shown of it -/
theorem rW_congr {σw σw' σ σ' : am_M} {M : Nat} (h1 : ∀ c, c ≤ 3 → σw' c = σw c) (h2 : ∀ j, 64 ≤ j → σ' 15 j = σ 15 j) (r : rW σw σ M) : rW σw' σ' M := by
  obtain ⟨a1, a2, a3, a4⟩ := r
  refine ⟨a1, by rw [h1 0 (by omega)]; exact a2, by rw [h2 64 (by omega)]; exact a3, fun k hk => ?_⟩
  obtain ⟨bw, to, lo, be, g1, g2, g3, g4, e1, e2, e3, e4, e5, e6, e7⟩ := a4 k hk
  exact ⟨bw, to, lo, be, g1, g2, g3, g4, by rw [h2 _ (by omega)]; exact e1, by rw [h2 _ (by omega)]; exact e2, by rw [h2 _ (by omega)]; exact e3, by rw [h2 _ (by omega)]; exact e4, by rw [h1 1 (by omega)]; exact e5, by rw [h1 2 (by omega), h2 _ (by omega)]; exact e6, by rw [h1 3 (by omega), h2 _ (by omega)]; exact e7⟩
theorem ipos_congr {σ σ' : am_M} (h : σ' 1 = σ 1) (pr : Int32) : ∀ M, ipos σ' pr M = ipos σ pr M := by
  intro M
  induction M with
  | zero => rfl
  | succ M ih =>
    unfold ipos X6_pairAt
    rw [h, ih]
theorem rW_add {σw σ : am_M} {M p h o b be : Nat} {mk vl th : Int32} {T s : Nat → Int32} (hr : rW σw σ M) (hM : M < 320) (hp : p ≤ M) (hh : h < 8) (ho : o < 8) (hb : b < 128) (hbe : be < 2) : rW (insW σw M p (nI (256 * (8 * h + o) + 2 * b + be)) mk vl th) (stL σ (lyN (uN (σ 15) p M) M p (nI h) (nI o) mk vl (nI b) (nI be)) T s) (M + 1) := by
  obtain ⟨h0, h1, h2, h3⟩ := hr
  refine ⟨by omega, rfl, by rw [stL_a]; exact upd_eq, fun k hk => ?_⟩
  have hW : ∀ c, 1 ≤ c → c ≤ 4 → upW σw M p c = fun k => if p < k ∧ k ≤ M then σw c (k - 1) else σw c k := fun c hc1 hc2 => by
    unfold upW
    rw [if_pos ⟨hc1, hc2⟩]
  by_cases e : k = p
  · subst e
    refine ⟨h, o, b, be, hh, ho, hb, hbe, ?_, ?_, ?_, ?_, upd_eq, ?_, ?_⟩
    · rw [stL_a]; unfold lyN
      rw [upd_ne (by omega), upd_ne (by omega), upd_ne (by omega), upd_ne (by omega), upd_ne (by omega), upd_ne (by omega), upd_eq]
    · rw [stL_a]; unfold lyN
      rw [upd_ne (by omega), upd_ne (by omega), upd_ne (by omega), upd_ne (by omega), upd_ne (by omega), upd_eq]
    · rw [stL_a]; unfold lyN
      rw [upd_ne (by omega), upd_ne (by omega), upd_eq]
    · rw [stL_a]; unfold lyN
      rw [upd_ne (by omega), upd_eq]
    · rw [stL_a]; unfold lyN
      rw [upd_ne (by omega), upd_ne (by omega), upd_ne (by omega), upd_ne (by omega), upd_eq]
      exact upd_eq
    · rw [stL_a]; unfold lyN
      rw [upd_ne (by omega), upd_ne (by omega), upd_ne (by omega), upd_eq]
      exact upd_eq
  · have hF : ∀ j, j < 6 → lyN (uN (σ 15) p M) M p (nI h) (nI o) mk vl (nI b) (nI be) (65 + 6 * k + j) = if p < k then σ 15 (65 + 6 * (k - 1) + j) else σ 15 (65 + 6 * k + j) := fun j hj => by
      unfold lyN
      rw [upd_ne (by omega), upd_ne (by omega), upd_ne (by omega), upd_ne (by omega), upd_ne (by omega), upd_ne (by omega), upd_ne (by omega)]
      unfold uN
      by_cases hpk : p < k
      · rw [if_pos (by omega), if_pos hpk]
        congr 1
        omega
      · rw [if_neg (by omega), if_neg hpk]
    have hC : ∀ c, 1 ≤ c → c ≤ 3 → ∀ x, upd (upW σw M p c) p x k = if p < k then σw c (k - 1) else σw c k := fun c hc1 hc2 x => by
      rw [upd_ne e, hW c hc1 (by omega)]
      dsimp only
      by_cases hpk : p < k
      · rw [if_pos ⟨hpk, by omega⟩, if_pos hpk]
      · rw [if_neg (fun q => hpk q.1), if_neg hpk]
    by_cases hpk : p < k
    · obtain ⟨bw, to, lo, be, g1, g2, g3, g4, e1, e2, e3, e4, e5, e6, e7⟩ := h3 (k - 1) (by omega)
      refine ⟨bw, to, lo, be, g1, g2, g3, g4, ?_, ?_, ?_, ?_, ?_, ?_, ?_⟩
      · rw [stL_a, hF 0 (by omega), if_pos hpk]; exact e1
      · rw [stL_a, hF 1 (by omega), if_pos hpk]; exact e2
      · rw [stL_a, hF 4 (by omega), if_pos hpk]; exact e3
      · rw [stL_a, hF 5 (by omega), if_pos hpk]; exact e4
      · exact (hC 1 (by omega) (by omega) _).trans ((if_pos hpk).trans e5)
      · rw [stL_a, hF 2 (by omega), if_pos hpk]
        exact (hC 2 (by omega) (by omega) _).trans ((if_pos hpk).trans e6)
      · rw [stL_a, hF 3 (by omega), if_pos hpk]
        exact (hC 3 (by omega) (by omega) _).trans ((if_pos hpk).trans e7)
    · obtain ⟨bw, to, lo, be, g1, g2, g3, g4, e1, e2, e3, e4, e5, e6, e7⟩ := h3 k (by omega)
      refine ⟨bw, to, lo, be, g1, g2, g3, g4, ?_, ?_, ?_, ?_, ?_, ?_, ?_⟩
      · rw [stL_a, hF 0 (by omega), if_neg hpk]; exact e1
      · rw [stL_a, hF 1 (by omega), if_neg hpk]; exact e2
      · rw [stL_a, hF 4 (by omega), if_neg hpk]; exact e3
      · rw [stL_a, hF 5 (by omega), if_neg hpk]; exact e4
      · exact (hC 1 (by omega) (by omega) _).trans ((if_neg hpk).trans e5)
      · rw [stL_a, hF 2 (by omega), if_neg hpk]
        exact (hC 2 (by omega) (by omega) _).trans ((if_neg hpk).trans e6)
      · rw [stL_a, hF 3 (by omega), if_neg hpk]
        exact (hC 3 (by omega) (by omega) _).trans ((if_neg hpk).trans e7)
theorem ne_add {σ : am_M} {M p h o : Nat} {mk vl b be : Int32} (hM : M < 320) (hp : p ≤ M) (hh : h < 8) (ho : o < 8) (hho : o ≠ h) (hne : ∀ k, k < M → σ 15 (65 + 6 * k + 0) ≠ σ 15 (65 + 6 * k + 1)) : ∀ k, k < M + 1 → lyN (uN (σ 15) p M) M p (nI h) (nI o) mk vl b be (65 + 6 * k + 0) ≠ lyN (uN (σ 15) p M) M p (nI h) (nI o) mk vl b be (65 + 6 * k + 1) := by
  intro k hk
  unfold lyN
  by_cases e : k = p
  · subst e
    rw [upd_ne (by omega), upd_ne (by omega), upd_ne (by omega), upd_ne (by omega), upd_ne (by omega), upd_ne (by omega), upd_eq, upd_ne (by omega), upd_ne (by omega), upd_ne (by omega), upd_ne (by omega), upd_ne (by omega), upd_eq]
    exact fun q => hho ((nI_eq (by omega) (by omega)).mp q).symm
  · rw [upd_ne (by omega), upd_ne (by omega), upd_ne (by omega), upd_ne (by omega), upd_ne (by omega), upd_ne (by omega), upd_ne (by omega), upd_ne (by omega), upd_ne (by omega), upd_ne (by omega), upd_ne (by omega), upd_ne (by omega), upd_ne (by omega), upd_ne (by omega)]
    unfold uN
    by_cases hpk : p < k
    · rw [if_pos (by omega), if_pos (by omega)]
      have := hne (k - 1) (by omega)
      rw [show 65 + 6 * k + 0 - 6 = 65 + 6 * (k - 1) + 0 by omega, show 65 + 6 * k + 1 - 6 = 65 + 6 * (k - 1) + 1 by omega]
      exact this
    · rw [if_neg (by omega), if_neg (by omega)]
      exact hne k (by omega)
def sumF (f : Nat → Nat) : Nat → Nat
  | 0 => 0
  | k + 1 => sumF f k + f k
theorem sumF_le {f g : Nat → Nat} : ∀ m, (∀ j, j < m → f j ≤ g j) → sumF f m ≤ sumF g m := by
  intro m
  induction m with
  | zero => intro _; exact Nat.le_refl _
  | succ m ih =>
    intro h
    have a := ih (fun j hj => h j (by omega))
    have b := h m (by omega)
    show sumF f m + f m ≤ sumF g m + g m
    omega
theorem sumF_lt {f g : Nat → Nat} : ∀ m, (∀ j, j < m → f j ≤ g j) → (∃ j, j < m ∧ f j < g j) → sumF f m < sumF g m := by
  intro m
  induction m with
  | zero => rintro _ ⟨j, hj, _⟩; omega
  | succ m ih =>
    rintro h ⟨j, h1, h2⟩
    show sumF f m + f m < sumF g m + g m
    have b := h m (by omega)
    by_cases e : j = m
    · subst e
      have a := sumF_le j (fun i hi => h i (by omega))
      omega
    · have a := ih (fun i hi => h i (by omega)) ⟨j, by omega, h2⟩
      omega
theorem sumF_bd {f : Nat → Nat} {c : Nat} : ∀ m, (∀ j, j < m → f j ≤ c) → sumF f m ≤ c * m := by
  intro m
  induction m with
  | zero => intro _; exact Nat.zero_le _
  | succ m ih =>
    intro h
    have a := ih (fun j hj => h j (by omega))
    have b := h m (by omega)
    show sumF f m + f m ≤ c * (m + 1)
    rw [Nat.mul_succ]
    omega
/-- how far a HAND has come -/
def ps (N : Nat) (x : Int32) : Nat := if x = -1 then N else x.toNatClampNeg
theorem ps_tgt {N t : Nat} (hN : N ≤ 40) (ht : t ≤ N) : ps N (tgt N t) = t := by
  unfold ps tgt
  by_cases e : t = N
  · rw [if_pos e, if_pos rfl, e]
  · rw [if_neg e, if_neg (pu_ne1 (by omega)), nI_clamp (by omega)]
def ph (S : am_M) (N h : Nat) : Nat := ps N (S 1 (13 * h + 0)) + (S 1 (13 * h + 1)).toNatClampNeg
theorem ph_congr {S S' : am_M} {N h : Nat} (h0 : S' 1 (13 * h + 0) = S 1 (13 * h + 0)) (h1 : S' 1 (13 * h + 1) = S 1 (13 * h + 1)) : ph S' N h = ph S N h := by
  unfold ph
  rw [h0, h1]
theorem ph_act {S σ : am_M} {N m h t : Nat} {kd : Nat → Nat} {G : Nat → Nat → List Int32} (hN : N ≤ 40) (a : act S σ N m kd G h t) : ph S N h = t := by
  unfold ph
  have h1 := a.2.1
  rw [a.2.2.2.1, a.2.2.2.2.2.1, show nI t = tgt N t from (if_neg (by omega)).symm, ps_tgt hN (by omega)]
  rfl
theorem ph_le {S σ : am_M} {N m h : Nat} {kd : Nat → Nat} {G : Nat → Nat → List Int32} (hN : N ≤ 40) (hd : rHD S σ N m kd G h) : ph S N h ≤ 40 := by
  obtain ⟨-, t, b, a1, a2, a3, a4, a5, a6, a7, a8, -⟩ := hd
  unfold ph
  rw [a5, a7, ps_tgt hN a1, nI_clamp (by omega)]
  rcases (show b = 0 ∨ b = 1 by omega) with rfl | rfl
  · omega
  · have := a4 rfl
    omega
theorem ph_room {S σ : am_M} {N m h t M : Nat} {kd : Nat → Nat} {G : Nat → Nat → List Int32} (hN : N ≤ 40) (m8 : m ≤ 8) (hh : h < m) (hd : ∀ h, h < m → rHD S σ N m kd G h) (a : act S σ N m kd G h t) (hM : M ≤ sumF (ph S N) m) : M < 320 := by
  have h1 := ph_act hN a
  have h2 := a.2.1
  have := sumF_lt (f := ph S N) (g := fun _ => 40) m (fun j hj => ph_le hN (hd j hj)) ⟨h, hh, by show ph S N h < 40; omega⟩
  have h3 := sumF_bd (f := fun _ => 40) (c := 40) m (fun _ _ => Nat.le_refl _)
  have : 40 * m ≤ 320 := by omega
  omega
/-- CLOCKS stand alike, none above B -/
def rClk (S σ : am_M) (M B : Nat) : Prop := (∀ h, h < 8 → ∃ a, a ≤ B ∧ S 8 h = nI a ∧ σ 17 h = nI a) ∧ (∀ h, h < 8 → S 9 h = σ 18 h) ∧ (∀ h, h < 8 → ∃ a, a ≤ B ∧ S 10 h = nI a ∧ σ 19 h = nI a) ∧ (∀ k, k < M → ∃ a, a ≤ B ∧ S 6 k = nI a ∧ σ 20 k = nI a) ∧ (∃ a, a ≤ 99 ∧ S 0 3 = nI a ∧ σ 0 5 = nI a) ∧ ∃ a, a ≤ 99 ∧ S 0 4 = nI a ∧ σ 0 6 = nI a
def anyR (S σ : am_M) (m N : Nat) (kd : Nat → Nat) : Prop := (S 0 12 = -1 ∧ σ 0 40 = -1) ∨ ∃ a s f : Nat, S 0 12 = nI a ∧ σ 0 40 = nI a ∧ S 0 13 = nI s ∧ σ 0 42 = nI s ∧ S 0 14 = nI f ∧ σ 0 41 = nI f ∧ a < m ∧ s < N ∧ kd s = 4 ∧ f < m
def zr (σ : am_M) (m : Nat) : Prop := ∀ j, 8 * m ≤ j → j < 64 → σ 15 j = 0
/-- what a MOVE leaves behind -/
def mvd (n : Nat) (τ : Nat → Int64) (S σ S' σ' : am_M) (N m : Nat) (kd nx ot : Nat → Nat) (G : Nat → Nat → List Int32) (M M' : Nat) : Prop := rB n τ S' σ' N m kd nx ot G ∧ rQ S' σ' N m kd G M' ∧ S' 0 15 = 0 ∧ zr σ' m ∧ sumF (ph S N) m < sumF (ph S' N) m ∧ M' ≤ M + 1 ∧ (∀ B, B ≤ 1000000 → rClk S σ M B → rClk S' σ' M' (B + 1000)) ∧ (∀ c, 11 ≤ c → S' c = S c) ∧ (∀ k, k ≤ 11 → S' 0 k = S 0 k) ∧ (∀ c, c ≠ 0 → c < 15 ∨ 20 < c → σ' c = σ c) ∧ (∀ k, k < 40 ∨ 42 < k → σ' 0 k = σ 0 k) ∧ anyR S' σ' m N kd
/-- one HAND goes on behind a MOVE -/
theorem fin1 (n : Nat) (hn : 2200 < n) {τ : Nat → Int64} {S1 σ1 : am_M} {N m h t M' : Nat} {kd nx ot : Nat → Nat} {G : Nat → Nat → List Int32} (hh : h < m) (hb : rB n τ S1 σ1 N m kd nx ot G) (hw : rW (am_sub S1 2) σ1 M') (hne : ∀ k, k < M' → σ1 15 (65 + 6 * k + 0) ≠ σ1 15 (65 + 6 * k + 1)) (hz : zr σ1 m) (hp : pend n τ S1 σ1 N m kd nx ot G h t) (hd : ∀ j, j < m → j ≠ h → rHD S1 σ1 N m kd G j) (h15 : S1 0 15 = nI (2 ^ h)) :
    ∃ f st g s, X2_goOn n τ S1 = some (sC (stS S1 f st) 0 (am_u (S1 0) 15 0)) ∧ X8_goOn n σ1 (nI h) = some (stM σ1 g s) ∧ rB n τ (sC (stS S1 f st) 0 (am_u (S1 0) 15 0)) (stM σ1 g s) N m kd nx ot G ∧ rQ (sC (stS S1 f st) 0 (am_u (S1 0) 15 0)) (stM σ1 g s) N m kd G M' ∧ zr (stM σ1 g s) m ∧ (∀ j, j < m → j ≠ h → ph (sC (stS S1 f st) 0 (am_u (S1 0) 15 0)) N j = ph S1 N j) ∧ t < ph (sC (stS S1 f st) 0 (am_u (S1 0) 15 0)) N h := by
  have m8 := hb.2.2.2.1
  have hN4 := hb.1.1
  have hpow : 2 ^ h < 256 := by
    have : 2 ^ h ≤ 2 ^ 7 := Nat.pow_le_pow_right (by omega) (by omega)
    omega
  obtain ⟨f, st, c1, c2, c3⟩ := goOn_cl n hn (τ := τ) (N := N) (kd := kd) (nx := nx) (ot := ot) (G := G) (show 0 < m by omega) m8 hb.2.2.2.2.1 hpow h15 (fun j hj hjb => by
    rw [Nat.testBit_two_pow, decide_eq_true_iff] at hjb
    subst hjb
    exact ⟨σ1, t, hp⟩)
  obtain ⟨g, s, d1, d2, d3, t', d4, d5, d6⟩ := c3 h hh (by rw [Nat.testBit_two_pow, decide_eq_true_iff]) σ1 t hp
  have ff : ∀ j, j < m → j ≠ h → ∀ i, i < 13 → f (13 * j + i) = S1 1 (13 * j + i) := fun j hj hjh i hi => c2 _ (fun q q1 q2 => by
    rw [Nat.testBit_two_pow, decide_eq_true_iff] at q2
    omega)
  refine ⟨f, st, g, s, c1, d1, ?_, ⟨fun j hj => ?_, ?_, fun k hk => ?_⟩, fun j h1 h2 => ?_, fun j hj hjh => ?_, ?_⟩
  · refine rB_congr (S := S1) (σ := σ1) (fun c q1 q2 => ?_) rfl rfl (fun c q1 q2 => ?_) rfl rfl hb
    · simp only [stS, sC_app]
      rw [if_neg (by omega), if_neg (by omega), if_neg (by omega)]
    · simp only [stM, sC_app]
      rw [if_neg (by omega), if_neg (by omega)]
  · by_cases e : j = h
    · subst e
      exact rHD_congr (S := stS S1 f st) (by omega) (fun _ _ => rfl) (fun _ _ => rfl) d3
    · exact rHD_congr (S := S1) (σ := σ1) (by omega) (ff j hj e) (fun i hi => d2 _ (by omega)) (hd j hj e)
  · refine rW_congr (σw := am_sub S1 2) (σ := σ1) (fun c hc => ?_) (fun j hj => d2 j (by omega)) hw
    rcases (show c = 0 ∨ c = 1 ∨ c = 2 ∨ c = 3 by omega) with rfl | rfl | rfl | rfl <;> rfl
  · show g _ ≠ g _
    rw [d2 _ (by omega), d2 _ (by omega)]
    exact hne k hk
  · show g j = 0
    rw [d2 _ (by omega)]
    exact hz j h1 h2
  · exact ph_congr (ff j hj hjh 0 (by omega)) (ff j hj hjh 1 (by omega))
  · unfold ph
    show t < ps N (f (13 * h + 0)) + _
    rw [d6, ps_tgt hN4 d5]
    omega
