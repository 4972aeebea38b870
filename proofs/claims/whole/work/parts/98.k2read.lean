/-! A TEXT IS READ: by both -/
section READ
variable {n : Nat}
/-- the reference as it begins to read -/
def rT0 (ρ : am_M) (A : Nat) : am_M := sC (sC ρ 0 (am_u (am_u (am_u (am_u (am_u (am_u (am_u (ρ 0) 2 0) 10 0) 11 0) 12 (nI A)) 18 0) 20 (-1)) 21 0)) 4 (upd (ρ 4) 1 0)
/-- what a fine text leaves behind -/
def okTx (S R : am_M) (z q N : Nat) : Prop := S 0 2 = 0 ∧ R 0 18 = 0 ∧ S 0 3 = -1 ∧ S 6 7 = nI N ∧ S 6 8 = nI (anyN (anS S) N) ∧ S 6 9 = nI z ∧ z ≤ 900 ∧ N ≤ 40 ∧ q ≤ 1080 ∧ R 0 21 = nI q ∧ R 4 1 = nI N ∧ ∀ s, s < N → sF S R s z q ∧ ∃ tg, s < tg ∧ tg ≤ N ∧ lF S R s tg ∧ (tg < N → rch (bh R) 5 s (nI tg)) ∧ (tg = N → rch (bh R) 5 s (-1))
theorem read_all (hn : 2200 < n) {σ ρ : am_M} {A : Nat} (hA : A ≤ 700) (hby : byB (σ 2) A) (ht : ∀ x, x < A → ρ 3 x = σ 2 x) : ∃ S' R1 R' first, X1_read n σ (nI A) = some (S' 0 2, S') ∧ X8_stepOn n (rT0 ρ A) = some R1 ∧ X8_readStepsR n 6 R1 0 (-1) = some (first, R') ∧ fR0 (rT0 ρ A) R' ∧ (bN S' R' ∨ ∃ z q N, okTx S' R' z q N) := by
  obtain ⟨q1, hq1⟩ : ∃ q1, q1 = sC (am_sub σ 6) 0 (am_u (am_u (am_u ((am_sub σ 6) 0) 7 0) 8 0) 9 0) := ⟨_, rfl⟩
  have hc : X3_clear (am_sub σ 6) = some q1 := by rw [hq1] <;> rfl
  obtain ⟨U, hU⟩ : ∃ U, U = am_put σ 6 8 q1 := ⟨_, rfl⟩
  have hS1 : (am_sub U 1) 1 = σ 2 := by
    show U 2 = σ 2
    rw [hU]
  obtain ⟨S5, K0, s1, s2, s3, s4, s5, s6, s7, s8⟩ := scan_eq n hn hS1 hA
  have hK : KB (σ 2) A K0 := ⟨hA, hby, s2, s3, s4⟩
  obtain ⟨V, hV⟩ : ∃ V, V = am_put U 1 5 S5 := ⟨_, rfl⟩
  obtain ⟨S1, hS⟩ : ∃ S1, S1 = sC V 0 (am_u (am_u (am_u (V 0) 2 0) 3 (-1)) 6 0) := ⟨_, rfl⟩
  have v : ∀ c, c < 5 → V (1 + c) = S5 c := fun c hc => by
    rw [hV, am_put_in (by omega) (by omega), show 1 + c - 1 = c by omega]
  have so : ∀ c, c ≠ 0 → S1 c = V c := fun c hc => by rw [hS, sC_ne hc]
  have x6 : S1 6 = q1 0 := by
    rw [so 6 (by omega), hV, am_put_ne (by omega), hU, am_put_in (by omega) (by omega)]
  have rd : X1_read n σ (nI A) = X1_read_L32 n n S1 (nI 0) := by
    unfold X1_read
    rw [hc]
    dsimp only [Option.bind]
    rw [← hU, s1]
    dsimp only
    rw [← hV, ← hS] <;> rfl
  have hB : rB8 (σ 2) A (rT0 ρ A) := ⟨rfl, ht⟩
  obtain ⟨g, g1, g2, g3⟩ := stepOn_0 n hn hA hby hB (show (rT0 ρ A) 0 11 = 0 from rfl)
  have a : at2 (σ 2) A K0 0 0 0 S1 (sC (rT0 ρ A) 0 g) := by
    refine ⟨⟨?_, ?_, Nat.zero_le _, fun j hj => ?_⟩, ?_, ?_, g3, ?_, ?_, ?_⟩
    · rw [so 1 (by omega)]
      exact (congrFun (v 0 (by omega)) 5).trans s5
    · rw [so 1 (by omega)]
      exact (congrFun (v 0 (by omega)) 6).trans s6
    · obtain ⟨t1, t2, t3⟩ := s8 j hj
      rw [so 3 (by omega), so 4 (by omega), so 5 (by omega)]
      exact ⟨(congrFun (v 2 (by omega)) j).trans t1, (congrFun (v 3 (by omega)) j).trans t2, (congrFun (v 4 (by omega)) j).trans t3⟩
    · rw [hS] <;> rfl
    · rw [x6, hq1] <;> rfl
    · exact g2 18 (by omega)
    · exact g2 21 (by omega)
    · rw [hS] <;> rfl
  have bf : bF (σ 2) A K0 S1 (sC (rT0 ρ A) 0 g) 0 0 0 0 0 := ⟨a, by rw [x6, hq1] <;> rfl, by rw [x6, hq1] <;> rfl, by rw [hS] <;> rfl, by omega, rfl, by omega, by omega⟩
  obtain ⟨first, R', e1, e2⟩ := blk_all hn hK 4 0 (by omega) 6 S1 (sC (rT0 ρ A) 0 g) 0 0 0 0 0 0 (by omega) bf (by omega) (fun z => absurd rfl z)
  rw [if_pos rfl] at e1
  have fg : fR0 (rT0 ρ A) (sC (rT0 ρ A) 0 g) := fR0_g (fun j hj => g2 j (by omega))
  rcases e2 with ⟨t, S', k', z, q, N, r1, r2, r3, r4, r5, r6, r7, r8, r9, r10, r11⟩ | ⟨t, S', t1, t2, t3, t4⟩
  · have kk := bF_k r2
    obtain ⟨b1, b2, b3, b4, b5, b6, b7, b8⟩ := r2
    have t28 : SK (σ 2) A (tkB (σ 2) A k') = 28 := by
      rcases r9 with y | ⟨y, -⟩
      · exact y
      · exact absurd rfl y
    refine ⟨S', _, R', first, ?_, g1, e1, fR0_t fg (gR_0 r8), Or.inr ⟨z, q, N, b1.2.1, b1.2.2.2.2.1, b1.2.2.2.2.2.2, b2, b3, b1.2.2.1, by omega, b5, by omega, b1.2.2.2.2.2.1, b6, fun s hs => ?_⟩⟩
    · obtain ⟨K, hK'⟩ : ∃ K, n = (K + 1) + t := ⟨n - t - 1, by omega⟩
      have := r1 (K + 1)
      rw [← hK'] at this
      rw [rd, this]
      rw [X1_read_L32]
      simp only [X1_read_B32, X1_read_J117, X1_read_J129]
      rw [if_neg (show ¬ (700 : Int32) < nI (0 + t) from fun y => by have := (nI_ltN (a := 700) (by omega) (by omega)).mp y; omega), if_pos b1.2.1, sort_C hK b1.1, t28, if_pos (show (28 : Int32) = 28 from rfl), b4, if_pos (show nI 0 ≤ 0 by decide)]
    · obtain ⟨u1, tg, u2, u3, u4, u5, u6⟩ := r11 s (by omega) hs
      rw [if_pos rfl] at u6
      exact ⟨u1, tg, u2, u3, u4, u5, u6⟩
  · obtain ⟨K, hK'⟩ : ∃ K, n = K + t := ⟨n - t, by omega⟩
    have := t2 K
    rw [← hK'] at this
    exact ⟨S', _, R', first, rd.trans this, g1, e1, fR0_t fg t4, Or.inl t3⟩
/-- the reference takes a fine text over -/
theorem text_ok (hn : 2200 < n) {ρ R1 R' S : am_M} {A z q N : Nat} {first : Int32} (hA : A ≤ 700) {f : Nat} (hf : f ≤ 700) (h10 : ρ 0 10 = nI f) (hAf : A ≤ f) (e1 : X8_stepOn n (rT0 ρ A) = some R1) (e2 : X8_readStepsR n 6 R1 0 (-1) = some (first, R')) (ok : okTx S R' z q N) : ∃ T, X8_text n ρ (nI A) = some (0, T) ∧ T 4 0 = nI N ∧ (∀ c, c = 6 ∨ (9 ≤ c ∧ c ≤ 13) → ∀ j, j < N → T c j = R' c (40 + j)) ∧ (∀ j, j < 3 * N → T 7 j = R' 7 (120 + j) ∧ T 8 j = R' 8 (120 + j)) ∧ (∀ j, j < q → T 5 j = R' 5 (1080 + j)) ∧ (∀ c, c ≠ 0 → (c < 4 ∨ 13 < c) → T c = R' c) ∧ T 0 = am_u (am_u (R' 0) 7 (R' 0 7 + 1)) 8 (R' 0 8 + 1) := by
  obtain ⟨k1, k2, k3, k4, k5, k6, k7, k8, k9, k10, k11, k12⟩ := ok
  obtain ⟨R2, hR2⟩ : ∃ R2, R2 = sC R' 4 (upd (R' 4) 0 (nI N)) := ⟨_, rfl⟩
  obtain ⟨X', i1, j1, j2, j3, j4⟩ := l105 (R := R2) hn k8 (by rw [hR2]; exact upd_eq) N 0 n R2 (by omega) (by omega) ⟨fun _ _ => rfl, fun _ _ => ⟨fun j hj => absurd hj (Nat.not_lt_zero _), fun _ _ => rfl⟩, fun j hj => by omega, fun _ _ => ⟨rfl, rfl⟩⟩
  have x0 : X' 0 = R' 0 := by
    rw [j1 0 (by omega), hR2] <;> rfl
  have x5 : X' 5 = R' 5 := by
    rw [j1 5 (by omega), hR2] <;> rfl
  obtain ⟨T, t1, t2, t3, t4⟩ := l272 (n := n) (R := R') (q := q) k9 q 0 n X' (by omega) (by omega) (by rw [x0]; exact k10) (fun j hj => absurd hj (Nat.not_lt_zero _)) (fun j _ => by rw [x5])
  have rc : ∀ c, c ≠ 4 → R2 c = R' c := fun c hc => by rw [hR2, sC_ne hc]
  refine ⟨T, ?_, ?_, fun c hc j hj => ?_, fun j hj => ?_, t4, fun c c0 cc => ?_, by rw [t3, x0]⟩
  · have lt : nI A ≤ ρ 0 10 := by
      rw [h10]
      exact (nI_leI (by omega) (by omega)).mpr hAf
    have e1' : X8_stepOn n (sC (sC ρ 0 (am_u (am_u (am_u (am_u (am_u (am_u (am_u (ρ 0) 2 0) 10 0) 11 0) 12 (nI A)) 18 0) 20 (-1)) 21 0)) 4 (upd (ρ 4) (1 : Int32).toNatClampNeg 0)) = some R1 := e1
    have k11' : R' 4 (1 : Int32).toNatClampNeg = nI N := k11
    unfold X8_text
    rw [if_neg (nI_n0 (by omega)), if_pos lt, e1']
    dsimp only [Option.bind]
    rw [e2]
    dsimp only
    rw [if_pos k2, k11', show (0 : Int32).toNatClampNeg = 0 from rfl, ← hR2]
    rw [nI_0] at i1 t1
    exact i1.trans t1
  · rw [t2 4 (by omega) (by omega), j1 4 (by omega), hR2]
    exact upd_eq
  · rw [t2 c (by omega) (by omega), (j2 c hc).1 j hj, rc c (by omega)]
  · rw [t2 7 (by omega) (by omega), t2 8 (by omega) (by omega), (j3 j hj).1, (j3 j hj).2, rc 7 (by omega), rc 8 (by omega)]
    exact ⟨rfl, rfl⟩
  · rw [t2 c c0 (by omega), j1 c (by omega), rc c (by omega)]
/-- the reference tells a FAULT -/
theorem text_no (hn : 2200 < n) {ρ R1 R' : am_M} {A f : Nat} {first : Int32} (hA : A ≤ 700) (hf : f ≤ 700) (h10 : ρ 0 10 = nI f) (hAf : A ≤ f) (e1 : X8_stepOn n (rT0 ρ A) = some R1) (e2 : X8_readStepsR n 6 R1 0 (-1) = some (first, R')) (h : ¬ R' 0 18 = 0) : X8_text n ρ (nI A) = some (R' 0 18, sC R' 0 (am_u (R' 0) 20 (R' 0 19))) := by
  have lt : nI A ≤ ρ 0 10 := by
    rw [h10]
    exact (nI_leI (by omega) (by omega)).mpr hAf
  have e1' : X8_stepOn n (sC (sC ρ 0 (am_u (am_u (am_u (am_u (am_u (am_u (am_u (ρ 0) 2 0) 10 0) 11 0) 12 (nI A)) 18 0) 20 (-1)) 21 0)) 4 (upd (ρ 4) (1 : Int32).toNatClampNeg 0)) = some R1 := e1
  unfold X8_text
  rw [if_neg (nI_n0 (by omega)), if_pos lt, e1']
  dsimp only [Option.bind]
  rw [e2]
  dsimp only
  rw [if_neg h]
end READ
