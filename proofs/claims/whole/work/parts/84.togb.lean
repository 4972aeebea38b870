/-! ALL TOGETHER, GO ON -/
theorem tog_r1 (n : Nat) (hn : 2200 < n) {τ : Nat → Int64} {S σ : am_M} {N m k : Nat} {kd nx ot : Nat → Nat} {G : Nat → Nat → List Int32} (hb : rB n τ S σ N m kd nx ot G) (hk : k = 6 ∨ k = 7) (ha : ∀ j, j < m → ∃ t, act S σ N m kd G j t ∧ kd t = k) : ∀ (d i K : Nat) (L T : Int32) (st : Nat → Int32), i + d = m → d < K → ∃ st' T', X8_together_L7 n K (sC σ 16 st) (nI k) L T (nI i) = X8_together_L57 n n (sC σ 16 st') (nI k) (mxF (σ 17) L i d) T' 0 ∧ (k = 7 → T' = smF (fun j => S 1 (13 * j + 12)) T i d) := by
  have m8 := hb.2.2.2.1
  intro d
  induction d with
  | zero =>
    intro i K L T st hi hK
    obtain ⟨K, rfl⟩ : ∃ J, K = J + 1 := ⟨K - 1, by omega⟩
    refine ⟨st, T, ?_, fun _ => rfl⟩
    simp only [X8_together_L7, X8_together_B7, mxF]
    rw [show (sC σ 16 st) 0 3 = nI m from hb.2.2.2.2.2.1, if_pos (by rw [pu_le (by omega) (by omega)]; omega)]
  | succ d ih =>
    intro i K L T st hi hK
    obtain ⟨K, rfl⟩ : ∃ J, K = J + 1 := ⟨K - 1, by omega⟩
    obtain ⟨t, a1, a2⟩ := ha i (by omega)
    simp only [X8_together_L7, X8_together_B7, X8_together_J46, mxF, smF]
    rw [show (sC σ 16 st) 0 3 = nI m from hb.2.2.2.2.2.1, if_neg (by rw [pu_le (by omega) (by omega)]; omega), if_neg (pu_g (n := 8) (by omega) (by omega)), nI_clamp (by omega), nI_1]
    rcases hk with rfl | rfl
    · rw [if_neg (by decide)]
      obtain ⟨st', T', e1, e2⟩ := ih (i + 1) K (J9_max_7cf53 L (σ 17 i)) (T + 0) st (by omega) (by omega)
      exact ⟨st', T', e1, fun q => absurd q (by decide)⟩
    · rw [if_pos (show nI 7 = 7 from rfl)]
      obtain ⟨s1, e⟩ := askRs n hn hb (by omega) a1 a2 st
      rw [e]
      dsimp only [Option.bind]
      exact ih (i + 1) K _ _ s1 (by omega) (by omega)
theorem pend_M {n : Nat} {τ : Nat → Int64} {S σ : am_M} {N m : Nat} {kd nx ot : Nat → Nat} {G : Nat → Nat → List Int32} {h t : Nat} {g s : Nat → Int32} (hg : ∀ j, j < 8 → g (8 * h + j) = σ 15 (8 * h + j)) (p : pend n τ S σ N m kd nx ot G h t) : pend n τ S (stM σ g s) N m kd nx ot G h t := by
  obtain ⟨p1, p2, p3, p4, p5, p6, p7, p8, p9, p10⟩ := p
  refine ⟨rScr_congr (fun _ _ _ => rfl) (fun c h1 h2 => ?_) p1, p2, p3, rEv_congr (fun _ _ => rfl) hg p4, p5, p6, p7, (hg 0 (by omega)).trans p8, p9, (hg 1 (by omega)).trans p10⟩
  simp only [stM, sC_app]
  rw [if_neg (by omega), if_neg (by omega)]
/-- the reference: one after the other goes on -/
theorem tog_go (n : Nat) {τ : Nat → Int64} {S1 σ1 : am_M} {N m : Nat} {kd nx ot : Nat → Nat} {G : Nat → Nat → List Int32} {t : Nat → Nat} {f st : Nat → Int32} (m8 : m ≤ 8) (hm3 : σ1 0 3 = nI m) (hp : ∀ h, h < m → pend n τ S1 σ1 N m kd nx ot G h (t h))
    (hc : ∀ h, h < m → ∀ σ t, pend n τ S1 σ N m kd nx ot G h t → ∃ g s, X8_goOn n σ (nI h) = some (stM σ g s) ∧ owM g (σ 15) h ∧ rHD (stS S1 f st) (stM σ g s) N m kd G h ∧ ∃ t', t < t' ∧ t' ≤ N ∧ f (13 * h + 0) = tgt N t') :
    ∀ (d i K : Nat) (g s : Nat → Int32), i + d = m → d < K → (∀ x, (8 * i ≤ x) → g x = σ1 15 x) → (∀ h, h < i → rHD (stS S1 f st) (stM σ1 g s) N m kd G h) → ∃ g' s', X8_together_L120 n K (stM σ1 g s) (nI i) = some (stM σ1 g' s') ∧ (∀ x, 8 * m ≤ x → g' x = σ1 15 x) ∧ ∀ h, h < m → rHD (stS S1 f st) (stM σ1 g' s') N m kd G h := by
  intro d
  induction d with
  | zero =>
    intro i K g s hi hK h1 h2
    obtain ⟨K, rfl⟩ : ∃ J, K = J + 1 := ⟨K - 1, by omega⟩
    have e : i = m := by omega
    subst e
    refine ⟨g, s, ?_, h1, h2⟩
    simp only [X8_together_L120, X8_together_B120]
    rw [show (stM σ1 g s) 0 3 = nI i from hm3, if_pos (Int32.le_refl _)]
  | succ d ih =>
    intro i K g s hi hK h1 h2
    obtain ⟨K, rfl⟩ : ∃ J, K = J + 1 := ⟨K - 1, by omega⟩
    simp only [X8_together_L120, X8_together_B120]
    rw [show (stM σ1 g s) 0 3 = nI m from hm3, if_neg (by rw [pu_le (by omega) (by omega)]; omega)]
    obtain ⟨g1, s1, e1, e2, e3, -⟩ := hc i (by omega) (stM σ1 g s) (t i) (pend_M (fun j _ => h1 _ (by omega)) (hp i (by omega)))
    rw [stM_stM] at e1 e3
    rw [e1]
    dsimp only [Option.bind]
    rw [nI_1]
    refine ih (i + 1) K g1 s1 (by omega) (by omega) (fun x hx => ?_) (fun h hh => ?_)
    · rw [e2 x (by omega)]
      exact h1 x (by omega)
    · by_cases e : h = i
      · subst e; exact e3
      · exact rHD_congr (S := stS S1 f st) (σ := stM σ1 g s) (by omega) (fun _ _ => rfl) (fun j hj => e2 _ (by omega)) (h2 h (by omega))
theorem mx_both {f g : Nat → Int32} {B : Nat} (hB : B < 2 ^ 30) (h : ∀ j, j < 8 → ∃ a, a ≤ B ∧ f j = nI a ∧ g j = nI a) : ∀ (d i l : Nat), i + d ≤ 8 → l ≤ B → ∃ x, x ≤ B ∧ mxF f (nI l) i d = nI x ∧ mxF g (nI l) i d = nI x := by
  intro d
  induction d with
  | zero => intro i l _ hl; exact ⟨l, hl, rfl, rfl⟩
  | succ d ih =>
    intro i l hi hl
    obtain ⟨a, a1, a2, a3⟩ := h i (by omega)
    simp only [mxF]
    rw [a2, a3, max_nI (by omega) (by omega)]
    exact ih (i + 1) (max l a) (by omega) (by omega)
theorem rwC_at {k m j i : Nat} {f : Nat → Int32} {v : Nat → Nat} {T : Int32} (hj : j < m) (hi : i < 13) : rwC k f v T m (13 * j + i) = if k = 7 ∧ i = 2 + v j then T else f (13 * j + i) := by
  have e : (13 * j + i) / 13 = j := by omega
  have e2 : (13 * j + i) % 13 = i := by omega
  unfold rwC
  rw [e, e2]
  by_cases q : k = 7 ∧ i = 2 + v j
  · rw [if_pos q, if_pos ⟨q.1, hj, q.2⟩]
  · rw [if_neg q, if_neg (fun r => q ⟨r.1, r.2.2⟩)]
theorem rwM_at {k m j i : Nat} {f : Nat → Int32} {v : Nat → Nat} {T : Int32} (hj : j < m) (hi : i < 8) : rwM k f v T m (8 * j + i) = if k = 7 ∧ i = 2 + v j then T else f (8 * j + i) := by
  have e : (8 * j + i) / 8 = j := by omega
  have e2 : (8 * j + i) % 8 = i := by omega
  unfold rwM
  rw [e, e2]
  by_cases q : k = 7 ∧ i = 2 + v j
  · rw [if_pos q, if_pos ⟨q.1, hj, q.2⟩]
  · rw [if_neg q, if_neg (fun r => q ⟨r.1, r.2.2⟩)]
theorem rwM_hi {k m x : Nat} {f : Nat → Int32} {v : Nat → Nat} {T : Int32} (hx : 8 * m ≤ x) : rwM k f v T m x = f x := by
  unfold rwM
  rw [if_neg (fun q => by have := q.2.1; omega)]
