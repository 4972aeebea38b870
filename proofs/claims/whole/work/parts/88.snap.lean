/-! STATES KEPT: bringing one back -/
def snC (P : am_M) (m i M : Nat) (S : am_M) : Prop := (∀ k, k < 13 * m → P 20 (104 * i + k) = S 1 k) ∧ ∃ p, p + M ≤ 19900 ∧ P 22 i = nI p ∧ P 22 (i + 1) = nI (p + M) ∧ ∀ k, k < M → P 21 (3 * (p + k)) = S 3 k ∧ P 21 (3 * (p + k) + 1) = S 4 k ∧ P 21 (3 * (p + k) + 2) = S 5 k
def snR (R : am_M) (i M : Nat) (σ : am_M) : Prop := ∀ x, x < 65 + 6 * M → R 21 (1985 * i + x) = σ 15 x
def eqS (m : Nat) (S S' : am_M) (M : Nat) : Prop := (∀ k, k < 13 * m → S' 1 k = S 1 k) ∧ S' 2 4 = nI M ∧ ∀ k, k < M → S' 3 k = S 3 k ∧ S' 4 k = S 4 k ∧ S' 5 k = S 5 k
def eqR (σ σ' : am_M) (M : Nat) : Prop := ∀ x, x < 65 + 6 * M → σ' 15 x = σ 15 x
theorem nI_asub (p M : Nat) : nI (p + M) - nI p = nI M := by
  rw [Nat.add_comm, ← nI_add, Int32.add_sub_cancel]
theorem rW_pw {σw σw' σ σ' : am_M} {M : Nat} (h0 : σw' 0 4 = nI M) (h1 : ∀ k, k < M → σw' 1 k = σw 1 k ∧ σw' 2 k = σw 2 k ∧ σw' 3 k = σw 3 k) (h2 : ∀ j, 64 ≤ j → j < 65 + 6 * M → σ' 15 j = σ 15 j) (r : rW σw σ M) : rW σw' σ' M := by
  obtain ⟨a1, a2, a3, a4⟩ := r
  refine ⟨a1, h0, by rw [h2 64 (by omega) (by omega)]; exact a3, fun k hk => ?_⟩
  obtain ⟨g1, g2, g3⟩ := h1 k hk
  obtain ⟨bw, to, lo, be, b1, b2, b3, b4, e1, e2, e3, e4, e5, e6, e7⟩ := a4 k hk
  exact ⟨bw, to, lo, be, b1, b2, b3, b4, by rw [h2 _ (by omega) (by omega)]; exact e1, by rw [h2 _ (by omega) (by omega)]; exact e2, by rw [h2 _ (by omega) (by omega)]; exact e3, by rw [h2 _ (by omega) (by omega)]; exact e4, by rw [g1]; exact e5, by rw [g2, h2 _ (by omega) (by omega)]; exact e6, by rw [g3, h2 _ (by omega) (by omega)]; exact e7⟩
theorem rQ_pw {S S' σ σ' : am_M} {N m M : Nat} {kd : Nat → Nat} {G : Nat → Nat → List Int32} (m8 : m ≤ 8) (h1 : eqS m S S' M) (h2 : eqR σ σ' M) (q : rQ S σ N m kd G M) : rQ S' σ' N m kd G M := by
  obtain ⟨a, b, c⟩ := q
  obtain ⟨e1, e2, e3⟩ := h1
  refine ⟨fun h hh => rHD_congr (S := S) (σ := σ) (by omega) (fun j _ => e1 _ (by omega)) (fun j _ => h2 _ (by omega)) (a h hh), rW_pw (σw := am_sub S 2) (σ := σ) e2 e3 (fun j q1 q2 => h2 j (by omega)) b, fun k hk => ?_⟩
  rw [h2 _ (by omega), h2 _ (by omega)]
  exact c k hk
theorem sumF_congr {f g : Nat → Nat} : ∀ m, (∀ j, j < m → f j = g j) → sumF f m = sumF g m := by
  intro m
  induction m with
  | zero => intro _; rfl
  | succ m ih =>
    intro h
    show sumF f m + f m = sumF g m + g m
    rw [ih (fun j hj => h j (by omega)), h m (by omega)]
theorem ph_eqS {S S' : am_M} {N m M : Nat} (h1 : eqS m S S' M) : sumF (ph S' N) m = sumF (ph S N) m := sumF_congr m (fun j hj => ph_congr (h1.1 _ (by omega)) (h1.1 _ (by omega)))
theorem zr_eqR {σ σ' : am_M} {m M : Nat} (h2 : eqR σ σ' M) (z : zr σ m) : zr σ' m := fun j q1 q2 => by rw [h2 j (by omega)]; exact z j q1 q2
theorem load_loop (n : Nat) {M p : Nat} (hM : M ≤ 320) (hp : p + M ≤ 19900) : ∀ (d j K : Nat) (P : am_M), j + d = M → d < K → P 3 4 = nI M → ∃ P', X4_load_L69 n K P (nI p) (nI j) = some P' ∧ (∀ c, c < 4 ∨ 7 < c → P' c = P c) ∧ (∀ k, k < j → P' 4 k = P 4 k ∧ P' 5 k = P 5 k ∧ P' 6 k = P 6 k) ∧ ∀ k, j ≤ k → k < M → P' 4 k = P 21 (3 * (p + k)) ∧ P' 5 k = P 21 (3 * (p + k) + 1) ∧ P' 6 k = P 21 (3 * (p + k) + 2) := by
  intro d
  induction d with
  | zero =>
    intro j K P hj hK hP
    obtain ⟨K, rfl⟩ : ∃ J, K = J + 1 := ⟨K - 1, by omega⟩
    refine ⟨P, ?_, fun _ _ => rfl, fun _ _ => ⟨rfl, rfl, rfl⟩, fun k h1 h2 => by omega⟩
    simp only [X4_load_L69, X4_load_B69]
    rw [hP, if_pos (by rw [pu_le (by omega) (by omega)]; omega)]
  | succ d ih =>
    intro j K P hj hK hP
    obtain ⟨K, rfl⟩ : ∃ J, K = J + 1 := ⟨K - 1, by omega⟩
    simp only [X4_load_L69, X4_load_B69]
    rw [hP, if_neg (by rw [pu_le (by omega) (by omega)]; omega), nI_add, show nI (p + j) * 3 = nI ((p + j) * 3) from pk_mul (p + j) 3, show (1 : Int32) = nI 1 from rfl, show (2 : Int32) = nI 2 from rfl, nI_add, nI_add, nI_add, jat_nI (by omega) (by omega), jat_nI (by omega) (by omega), jat_nI (by omega) (by omega), jput_nI (by omega) (by omega), jput_nI (by omega) (by omega), jput_nI (by omega) (by omega), jput_nI (by omega) (by omega), show (p + j) * 3 = 3 * (p + j) by omega]
    obtain ⟨P', e1, e2, e3, e4⟩ := ih (j + 1) K (sC (sC (sC (sC P 4 (upd (P 4) j (P 21 (3 * (p + j))))) 5 (upd (P 5) j (P 21 (3 * (p + j) + 1)))) 6 (upd (P 6) j (P 21 (3 * (p + j) + 2)))) 7 (upd (P 7) j 0)) (by omega) (by omega) hP
    have old : ∀ k, k < j + 1 → P' 4 k = upd (P 4) j (P 21 (3 * (p + j))) k ∧ P' 5 k = upd (P 5) j (P 21 (3 * (p + j) + 1)) k ∧ P' 6 k = upd (P 6) j (P 21 (3 * (p + j) + 2)) k := e3
    refine ⟨P', e1, fun c hc => ?_, fun k hk => ?_, fun k h1 h2 => ?_⟩
    · rw [e2 c hc, sC_ne (by omega), sC_ne (by omega), sC_ne (by omega), sC_ne (by omega)]
    · obtain ⟨o1, o2, o3⟩ := old k (by omega)
      rw [upd_ne (by omega)] at o1 o2 o3
      exact ⟨o1, o2, o3⟩
    · by_cases q : k = j
      · subst q
        obtain ⟨o1, o2, o3⟩ := old k (by omega)
        rw [upd_eq] at o1 o2 o3
        exact ⟨o1, o2, o3⟩
      · exact e4 k (by omega) h2
theorem load_eq (n : Nat) (hn : 2200 < n) {P S : am_M} {m i M : Nat} (m8 : m ≤ 8) (hi : i < 200) (hM : M ≤ 320) (h : snC P m i M S) : ∃ P', X4_load n P (nI i) = some P' ∧ eqS m S (am_sub P' 1) M ∧ (∀ c, c < 2 ∨ 7 < c → P' c = P c) ∧ ∀ k, k ≠ 4 → P' 3 k = P 3 k := by
  obtain ⟨h1, p, h2, h3, h4, h5⟩ := h
  obtain ⟨Q, hQ⟩ : ∃ Q, Q = sC (sC P 2 (va_cpy (P 20) (P 2) (104 * i) 0 104)) 3 (am_u (P 3) 4 (nI M)) := ⟨_, rfl⟩
  have e : X4_load n P (nI i) = X4_load_L69 n n Q (nI p) (nI 0) := by
    unfold X4_load
    rw [if_neg (pu_nlt0 (by omega)), if_pos (show nI i < 200 by rw [show (200 : Int32) = nI 200 from rfl, pu_lt (by omega) (by omega)]; exact hi), show nI i * 104 = nI (i * 104) from pk_mul i 104, nI_clamp (by omega), show ((0 : Int32).toNatClampNeg) = 0 from rfl, show ((104 : Int32).toNatClampNeg) = 104 from rfl, if_neg (by
      rintro (q | q | q | q | q)
      · exact pu_nlt0 (by omega) q
      · exact absurd q (by decide)
      · exact absurd q (by decide)
      · omega
      · omega), nI_1, jat_nI (by omega) (by omega), jat_nI (by omega) (by omega), h3, h4, nI_asub, hQ, nI_0, show i * 104 = 104 * i by omega]
  obtain ⟨P', e1, e2, e3, e4⟩ := load_loop n hM h2 M 0 n Q (by omega) (by omega) (by rw [hQ])
  rw [← e] at e1
  have Q2 : Q 2 = va_cpy (P 20) (P 2) (104 * i) 0 104 := by rw [hQ]
  have Q3 : Q 3 = am_u (P 3) 4 (nI M) := by rw [hQ]
  have Q21 : Q 21 = P 21 := by rw [hQ]
  refine ⟨P', e1, ⟨fun k hk => ?_, ?_, fun k hk => ?_⟩, fun c hc => ?_, fun k hk => ?_⟩
  · show P' 2 k = S 1 k
    rw [e2 2 (by omega), Q2]
    unfold va_cpy
    rw [if_pos (by omega), Nat.sub_zero, h1 k hk]
  · show P' 3 4 = nI M
    rw [e2 3 (by omega), Q3]
  · show P' 4 k = S 3 k ∧ P' 5 k = S 4 k ∧ P' 6 k = S 5 k
    obtain ⟨o1, o2, o3⟩ := e4 k (Nat.zero_le _) hk
    obtain ⟨g1, g2, g3⟩ := h5 k hk
    rw [o1, o2, o3, Q21]
    exact ⟨g1, g2, g3⟩
  · rw [e2 c (by omega), hQ, sC_ne (by omega), sC_ne (by omega)]
  · rw [e2 3 (by omega), Q3, am_u_ne hk]
theorem bring_z (n : Nat) {e : Nat} (he : e ≤ 1985) : ∀ (d j K : Nat) (R : am_M), e ≤ j + d → (0 < d → j + d = e) → j ≤ 1985 → d < K → ∃ g, X8_bring_L55 n K R (nI e) (nI j) = some (sC R 15 g) ∧ ∀ x, x < j → g x = R 15 x := by
  intro d
  induction d with
  | zero =>
    intro j K R h1 h2 hj hK
    obtain ⟨K, rfl⟩ : ∃ J, K = J + 1 := ⟨K - 1, by omega⟩
    refine ⟨R 15, ?_, fun _ _ => rfl⟩
    simp only [X8_bring_L55, X8_bring_B55]
    rw [if_pos (by rw [pu_le (by omega) (by omega)]; omega), sC_self]
  | succ d ih =>
    intro j K R h1 h2 hj hK
    obtain ⟨K, rfl⟩ : ∃ J, K = J + 1 := ⟨K - 1, by omega⟩
    have h3 := h2 (by omega)
    simp only [X8_bring_L55, X8_bring_B55]
    rw [if_neg (by rw [pu_le (by omega) (by omega)]; omega), if_neg (pu_g (n := 1985) (by omega) (by omega)), nI_clamp (by omega), nI_1]
    obtain ⟨g, e1, e2⟩ := ih (j + 1) K (sC R 15 (upd (R 15) j 0)) (by omega) (fun _ => by omega) (by omega) (by omega)
    rw [sC_sC] at e1
    refine ⟨g, e1, fun x hx => ?_⟩
    rw [e2 x (by omega)]
    exact upd_ne (by omega)
theorem bring_loop (n : Nat) {i u e : Nat} (hi : i < 200) (hu : u ≤ 1985) (he : e ≤ 1985) (hn : 2200 < n) : ∀ (d j K : Nat) (R : am_M), j + d = u → d < K → ∃ g, X8_bring_L20 n K R (nI i) (nI u) (nI e) (nI j) = some (sC R 15 g) ∧ (∀ x, x < j → g x = R 15 x) ∧ ∀ x, j ≤ x → x < u → g x = R 21 (1985 * i + x) := by
  intro d
  induction d with
  | zero =>
    intro j K R hj hK
    obtain ⟨K, rfl⟩ : ∃ J, K = J + 1 := ⟨K - 1, by omega⟩
    simp only [X8_bring_L20, X8_bring_B20]
    rw [if_pos (by rw [pu_le (by omega) (by omega)]; omega)]
    obtain ⟨g, e1, e2⟩ := bring_z n he (e - u) u n R (by omega) (fun _ => by omega) hu (by omega)
    exact ⟨g, e1, fun x hx => e2 x (by omega), fun x h1 h2 => by omega⟩
  | succ d ih =>
    intro j K R hj hK
    obtain ⟨K, rfl⟩ : ∃ J, K = J + 1 := ⟨K - 1, by omega⟩
    simp only [X8_bring_L20, X8_bring_B20]
    rw [if_neg (by rw [pu_le (by omega) (by omega)]; omega), show (1985 : Int32) * nI i = nI (1985 * i) from pk_mul 1985 i, nI_add, if_neg (pu_g (n := 397000) (by omega) (by omega)), if_neg (pu_g (n := 1985) (by omega) (by omega)), nI_clamp (by omega), nI_clamp (by omega), nI_1]
    obtain ⟨g, e1, e2, e3⟩ := ih (j + 1) K (sC R 15 (upd (R 15) j (R 21 (1985 * i + j)))) (by omega) (by omega)
    rw [sC_sC] at e1
    refine ⟨g, e1, fun x hx => ?_, fun x h1 h2 => ?_⟩
    · rw [e2 x (by omega)]
      exact upd_ne (by omega)
    · by_cases q : x = j
      · subst q
        rw [e2 x (by omega)]
        exact upd_eq
      · exact e3 x (by omega) h2
theorem used_eq {R σ : am_M} {i M : Nat} (hi : i < 200) (hM : M ≤ 320) (h : snR R i M σ) (h64 : σ 15 64 = nI M) : X8_used R (nI i) = some (nI (65 + 6 * M)) := by
  unfold X8_used
  rw [show (1985 : Int32) * nI i = nI (1985 * i) from pk_mul 1985 i, show (64 : Int32) = nI 64 from rfl, nI_add, if_neg (pu_g (n := 397000) (by omega) (by omega)), nI_clamp (by omega), h 64 (by omega), h64, show (6 : Int32) * nI M = nI (6 * M) from pk_mul 6 M, show (65 : Int32) = nI 65 from rfl, nI_add]
theorem words_eq {R : am_M} {M : Nat} (h : R 15 64 = nI M) : (65 : Int32) + 6 * X8_words R = nI (65 + 6 * M) := by
  unfold X8_words
  rw [show R 15 (64 : Int32).toNatClampNeg = nI M from h, show (6 : Int32) * nI M = nI (6 * M) from pk_mul 6 M, show (65 : Int32) = nI 65 from rfl, nI_add]
theorem bring_eq (n : Nat) (hn : 2200 < n) {R σ : am_M} {i M M' : Nat} (hi : i < 200) (hM : M ≤ 320) (hM' : M' ≤ 320) (h : snR R i M σ) (h64 : σ 15 64 = nI M) (hR : R 15 64 = nI M') : ∃ g, X8_bring n R (nI i) = some (sC R 15 g) ∧ eqR σ (sC R 15 g) M := by
  obtain ⟨g, e1, e2, e3⟩ := bring_loop n hi (u := 65 + 6 * M) (e := 65 + 6 * M') (by omega) (by omega) hn (65 + 6 * M) 0 n R (by omega) (by omega)
  refine ⟨g, ?_, fun x hx => ?_⟩
  · unfold X8_bring
    rw [used_eq hi hM h h64]
    dsimp only [Option.bind]
    rw [words_eq hR, ← nI_0]
    exact e1
  · show g x = _
    rw [e3 x (Nat.zero_le _) hx]
    exact h x hx
