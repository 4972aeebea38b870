/-! A STEP IS READ: what it asks -/
/-- both have the same FAULT -/
def bN (S R : am_M) : Prop := ¬ S 0 2 = 0 ∧ R 0 18 = S 0 2 ∧ R 0 19 = S 0 3
/-- the reference's script that stands is untouched -/
def fR0 (R R' : am_M) : Prop := (∀ c, c ≠ 0 → (c < 4 ∨ 13 < c) → R' c = R c) ∧ (∀ j, j < 11 ∨ j = 12 ∨ j = 20 ∨ 22 ≤ j → R' 0 j = R 0 j) ∧ R' 4 0 = R 4 0 ∧ (∀ c, c = 6 ∨ (9 ≤ c ∧ c ≤ 13) → ∀ j, j < 40 → R' c j = R c j) ∧ (∀ j, j < 120 → R' 7 j = R 7 j ∧ R' 8 j = R 8 j) ∧ ∀ i, i < 1080 → R' 5 i = R 5 i
/-- what a STEP's reading may change -/
def cC (s z0 : Nat) (S S' : am_M) : Prop := (∀ c, c ≠ 0 → c ≠ 1 → c ≠ 6 → c ≠ 10 → c ≠ 11 → c ≠ 12 → c ≠ 13 → c ≠ 16 → S' c = S c) ∧ (∀ j, j ≠ 2 → j ≠ 2 → j ≠ 8 → j ≠ 9 → j ≠ 10 → S' 0 j = S 0 j) ∧ (∀ j, j ≠ 9 → S' 6 j = S 6 j) ∧ (∀ j, j ≠ s → S' 10 j = S 10 j ∧ S' 11 j = S 11 j) ∧ (∀ j, (j < 3 * s ∨ 3 * s + 3 ≤ j) → S' 12 j = S 12 j) ∧ (∀ i, i < z0 → S' 13 i = S 13 i)
def cR (s q0 : Nat) (R R' : am_M) : Prop := (∀ c, c ≠ 0 → c ≠ 5 → c ≠ 7 → c ≠ 8 → c ≠ 9 → c ≠ 10 → R' c = R c) ∧ (∀ j, j < 11 ∨ j = 12 ∨ j = 20 ∨ 22 ≤ j → R' 0 j = R 0 j) ∧ (∀ j, (j < 120 + 3 * s ∨ 120 + 3 * s + 3 ≤ j) → R' 7 j = R 7 j ∧ R' 8 j = R 8 j) ∧ (∀ j, j ≠ 40 + s → R' 9 j = R 9 j ∧ R' 10 j = R 10 j) ∧ (∀ i, i < 1080 + q0 → R' 5 i = R 5 i)
/-- an EXPR that was read for a STEP, in both -/
def rA (S R : am_M) (s w k3 : Nat) (L : List Int32) (zz qq : Nat) : Prop := ∃ p q, S 12 (3 * s + w) = nI p ∧ p + L.length < zz ∧ (∀ i, i < L.length → S 13 (p + i) = L.getD i 0) ∧ S 13 (p + L.length) = -20 ∧ wfL L 0 ∧ R 7 (120 + 3 * s + k3) = nI q ∧ R 8 (120 + 3 * s + k3) = nI (q + (encL L).length) ∧ q + (encL L).length ≤ qq ∧ (∀ i, i < (encL L).length → R 5 (1080 + q + i) = (encL L).getD i 0) ∧ ∀ x ∈ L, okI x
/-- what is known of a STEP that is being read -/
def FF (s : Nat) (done : Nat → Bool) (mk : Nat → Nat) (bd : Bool) (us : Int32) (S R : am_M) (z q : Nat) : Prop := (∀ w, w < 3 → if done w = true then ∃ L, rA S R s w (mk w) L z q else S 12 (3 * s + w) = -1) ∧ (∃ v, v < 4 ∧ S 10 s = nI v ∧ R 9 (40 + s) = nI v) ∧ (if bd = true then ∃ bb, 1 ≤ bb ∧ bb ≤ 99 ∧ S 11 s = nI bb ∧ R 10 (40 + s) = nI bb else R 10 (40 + s) = us)
/-- both are at token k -/
def at2 (b : Nat → Int32) (A K0 k z q : Nat) (S R : am_M) : Prop := tkC b A K0 k S ∧ S 0 2 = 0 ∧ S 6 9 = nI z ∧ tkR b A k R ∧ R 0 18 = 0 ∧ R 0 21 = nI q ∧ S 0 3 = -1
def PS (b : Nat → Int32) (A K0 s z0 q0 k0 e : Nat) (S0 R0 : am_M) (done : Nat → Bool) (mk : Nat → Nat) (bd : Bool) (us : Int32) (S R : am_M) : Prop := ∃ k z q, at2 b A K0 k z q S R ∧ z + e ≤ k ∧ 2 * q + 3 * e ≤ 3 * k ∧ k0 ≤ k ∧ z0 ≤ z ∧ q0 ≤ q ∧ cC s z0 S0 S ∧ cR s q0 R0 R ∧ FF s done mk bd us S R z q
def PE (b : Nat → Int32) (A K0 s z0 q0 k0 e : Nat) (S0 R0 : am_M) (done : Nat → Bool) (mk : Nat → Nat) (bd : Bool) (us : Int32) (S R : am_M) : Prop := PS b A K0 s z0 q0 k0 e S0 R0 done mk bd us S R ∨ (bN S R ∧ fR0 R0 R)
section ASK
variable {n : Nat} {b : Nat → Int32} {A K0 s z0 q0 k0 e : Nat} {S0 R0 S R S' R' R'' : am_M} {done : Nat → Bool} {mk : Nat → Nat} {bd : Bool} {us : Int32}
theorem fR0_r : fR0 R R := ⟨fun _ _ _ => rfl, fun _ _ => rfl, rfl, fun _ _ _ _ => rfl, fun _ _ => ⟨rfl, rfl⟩, fun _ _ => rfl⟩
theorem fR0_t (x : fR0 R R') (y : fR0 R' R'') : fR0 R R'' := ⟨fun c h1 h2 => (y.1 c h1 h2).trans (x.1 c h1 h2), fun j h => (y.2.1 j h).trans (x.2.1 j h), y.2.2.1.trans x.2.2.1, fun c h j hj => (y.2.2.2.1 c h j hj).trans (x.2.2.2.1 c h j hj), fun j hj => ⟨(y.2.2.2.2.1 j hj).1.trans (x.2.2.2.2.1 j hj).1, (y.2.2.2.2.1 j hj).2.trans (x.2.2.2.2.1 j hj).2⟩, fun i hi => (y.2.2.2.2.2 i hi).trans (x.2.2.2.2.2 i hi)⟩
theorem cR_0 {q0 : Nat} (x : cR s q0 R R') : fR0 R R' := ⟨fun c h1 h2 => x.1 c h1 (by omega) (by omega) (by omega) (by omega) (by omega), x.2.1, by rw [x.1 4 (by omega) (by omega) (by omega) (by omega) (by omega) (by omega)], fun c h j hj => by
    by_cases c9 : c = 9
    · rw [c9]; exact (x.2.2.2.1 j (by omega)).1
    · by_cases c10 : c = 10
      · rw [c10]; exact (x.2.2.2.1 j (by omega)).2
      · rw [x.1 c (by omega) (by omega) (by omega) (by omega) c9 c10], fun j hj => x.2.2.1 j (by omega), fun i hi => x.2.2.2.2 i (by omega)⟩
theorem fE_0 {q0 : Nat} (x : fE q0 R R') : fR0 R R' := ⟨fun c h1 h2 => x.1 c h1 (by omega), x.2.1, by rw [x.1 4 (by omega) (by omega)], fun c h j hj => by rw [x.1 c (by omega) (by omega)], fun j hj => ⟨by rw [x.1 7 (by omega) (by omega)], by rw [x.1 8 (by omega) (by omega)]⟩, fun i hi => x.2.2 i (by omega)⟩
theorem cC_r {z0 : Nat} : cC s z0 S S := ⟨fun _ _ _ _ _ _ _ _ _ => rfl, fun _ _ _ _ _ _ => rfl, fun _ _ => rfl, fun _ _ => ⟨rfl, rfl⟩, fun _ _ => rfl, fun _ _ => rfl⟩
theorem cR_r {q0 : Nat} : cR s q0 R R := ⟨fun _ _ _ _ _ _ _ => rfl, fun _ _ => rfl, fun _ _ => ⟨rfl, rfl⟩, fun _ _ => ⟨rfl, rfl⟩, fun _ _ => rfl⟩
theorem cC_t {S1 : am_M} {z1 : Nat} (hz : z0 ≤ z1) (x : cC s z0 S S1) (y : cC s z1 S1 S') : cC s z0 S S' := ⟨fun c h1 h2 h3 h4 h5 h6 h7 h8 => (y.1 c h1 h2 h3 h4 h5 h6 h7 h8).trans (x.1 c h1 h2 h3 h4 h5 h6 h7 h8), fun j h1 h2 h3 h4 h5 => (y.2.1 j h1 h2 h3 h4 h5).trans (x.2.1 j h1 h2 h3 h4 h5), fun j h => (y.2.2.1 j h).trans (x.2.2.1 j h), fun j h => ⟨(y.2.2.2.1 j h).1.trans (x.2.2.2.1 j h).1, (y.2.2.2.1 j h).2.trans (x.2.2.2.1 j h).2⟩, fun j h => (y.2.2.2.2.1 j h).trans (x.2.2.2.2.1 j h), fun i h => (y.2.2.2.2.2 i (by omega)).trans (x.2.2.2.2.2 i h)⟩
theorem cR_t {R1 : am_M} {q1 : Nat} (hq : q0 ≤ q1) (x : cR s q0 R R1) (y : cR s q1 R1 R') : cR s q0 R R' := ⟨fun c h1 h2 h3 h4 h5 h6 => (y.1 c h1 h2 h3 h4 h5 h6).trans (x.1 c h1 h2 h3 h4 h5 h6), fun j h => (y.2.1 j h).trans (x.2.1 j h), fun j h => ⟨(y.2.2.1 j h).1.trans (x.2.2.1 j h).1, (y.2.2.1 j h).2.trans (x.2.2.1 j h).2⟩, fun j h => ⟨(y.2.2.2.1 j h).1.trans (x.2.2.2.1 j h).1, (y.2.2.2.1 j h).2.trans (x.2.2.2.1 j h).2⟩, fun i h => (y.2.2.2.2 i (by omega)).trans (x.2.2.2.2 i h)⟩
theorem rA_st {w k3 zz qq z' q' : Nat} {L : List Int32} (x : rA S R s w k3 L zz qq) (h12 : S' 12 (3 * s + w) = S 12 (3 * s + w)) (h13 : ∀ i, i < zz → S' 13 i = S 13 i) (h7 : R' 7 (120 + 3 * s + k3) = R 7 (120 + 3 * s + k3)) (h8 : R' 8 (120 + 3 * s + k3) = R 8 (120 + 3 * s + k3)) (h5 : ∀ i, i < 1080 + qq → R' 5 i = R 5 i) (hz : zz ≤ z') (hq : qq ≤ q') : rA S' R' s w k3 L z' q' := by
  obtain ⟨p, q, x1, x2, x3, x4, x5, x6, x7, x8, x9, x10⟩ := x
  exact ⟨p, q, h12.trans x1, by omega, fun i hi => (h13 _ (by omega)).trans (x3 i hi), (h13 _ (by omega)).trans x4, x5, h7.trans x6, h8.trans x7, by omega, fun i hi => (h5 _ (by omega)).trans (x9 i hi), x10⟩
theorem FF_st {z q z' q' : Nat} (x : FF s done mk bd us S R z q) (hm : ∀ w, w < 3 → done w = true → mk w < 3) (h10 : S' 10 s = S 10 s) (h11 : S' 11 s = S 11 s) (h12 : ∀ w, w < 3 → S' 12 (3 * s + w) = S 12 (3 * s + w)) (h13 : ∀ i, i < z → S' 13 i = S 13 i) (r9 : R' 9 (40 + s) = R 9 (40 + s)) (r10 : R' 10 (40 + s) = R 10 (40 + s)) (r78 : ∀ w, w < 3 → R' 7 (120 + 3 * s + w) = R 7 (120 + 3 * s + w) ∧ R' 8 (120 + 3 * s + w) = R 8 (120 + 3 * s + w)) (r5 : ∀ i, i < 1080 + q → R' 5 i = R 5 i) (hz : z ≤ z') (hq : q ≤ q') : FF s done mk bd us S' R' z' q' := by
  obtain ⟨x1, ⟨v, v1, v2, v3⟩, x3⟩ := x
  refine ⟨fun w hw => ?_, ⟨v, v1, h10.trans v2, r9.trans v3⟩, ?_⟩
  · have y := x1 w hw
    by_cases d : done w = true
    · rw [if_pos d] at y ⊢
      obtain ⟨L, y⟩ := y
      exact ⟨L, rA_st y (h12 w hw) h13 (r78 _ (hm w hw d)).1 (r78 _ (hm w hw d)).2 r5 hz hq⟩
    · rw [if_neg d] at y ⊢
      exact (h12 w hw).trans y
  · cases bd with
    | true =>
      obtain ⟨bb, c1, c2, c3, c4⟩ := x3
      exact ⟨bb, c1, c2, h11.trans c3, r10.trans c4⟩
    | false => exact r10.trans x3
theorem readInto_eq {k3 : Nat} (hs : s < 40) (hk3 : k3 < 3) (fl : Int32) : X8_readInto n R (nI s) (nI k3) fl = (if fl = 0 then X8_readSum n (X8_readExpressionR n 9) (sC R 7 (upd (R 7) (120 + 3 * s + k3) (R 0 21))) (nI 0) else X8_readExpressionR n 9 (sC R 7 (upd (R 7) (120 + 3 * s + k3) (R 0 21))) (nI 0)).bind (fun q => some (sC q 8 (upd (q 8) (120 + 3 * s + k3) (q 0 21)))) := by
  have e : (3 : Int32) * (40 + nI s) + nI k3 = nI (120 + 3 * s + k3) := by
    rw [show (40 : Int32) + nI s = nI (40 + s) from nI_add 40 s, show (3 : Int32) * nI (40 + s) = nI (3 * (40 + s)) from pk_mul 3 (40 + s), nI_add, show 3 * (40 + s) + k3 = 120 + 3 * s + k3 by omega]
  have g : ¬ (nI (120 + 3 * s + k3) < 0 ∨ 240 ≤ (nI (120 + 3 * s + k3)).toNatClampNeg) := pu_g (n := 240) (by omega) (by omega)
  have cl : (nI (120 + 3 * s + k3)).toNatClampNeg = 120 + 3 * s + k3 := nI_clamp (by omega)
  unfold X8_readInto X8_readInto_J34
  rw [e]
  simp only [if_neg g]
  simp only [cl]
  split <;> rfl
/-- the class's loop over an EXPR, from its start to its end -/
theorem ask_end (hn : 2200 < n) (hK : KB b A K0) {R1 : am_M} {w0 r z q k : Nat} (hr : r ≤ 1) (hw : r = 1 → w0.testBit 0 = true) (hk : k ≤ K0) (x : okO n b A K0 z q S k [] [] 0 w0 [] 0 r 0 R R1 ∨ noO n K0 q S k 0 1 R R1) : ∃ S', X1_ask_L51 n n S 1 0 = some S' ∧ ((∃ t L, wfL L 0 ∧ (∀ x ∈ L, okI x) ∧ tkC b A K0 (k + t) S' ∧ S' 0 2 = 0 ∧ S' 6 9 = nI (z + L.length + 1) ∧ (∀ i, i < L.length → S' 13 (z + i) = L.getD i 0) ∧ S' 13 (z + L.length) = -20 ∧ fA z S S' ∧ rI b A q (k + t) (encL L) R1 ∧ fE q R R1 ∧ z + L.length + 1 ≤ k + t ∧ 2 * (q + (encL L).length) ≤ 3 * (k + t)) ∨ (bN S' R1 ∧ fE q R R1)) := by
  have A7 := hK.1
  have K0A := hK.2.2.1
  rcases x with ⟨t, S1, C1, P, w', x1, x2, x3, x4, x5, x6, x7, x8, x9, x10, x11, x12, x13⟩ | ⟨t, S1, κ, π, x1, x2, x3, x4, x5, ⟨h, x6, x6'⟩, x7, x8, x9⟩
  · rw [List.nil_append] at x2 x4 x10 x11
    rw [List.append_nil] at x2
    have kk := x2.1.2.2.1
    have p0 : pnd [] = 0 := rfl
    rw [p0] at x10 x11
    obtain ⟨K, hK'⟩ : ∃ K, n = (K + 1) + t := ⟨n - t - 1, by omega⟩
    have st0 : stp 0 (SK b A (tkB b A (k + t))) (w'.testBit 0) := by
      rcases (show r = 0 ∨ r = 1 by omega) with q0 | q1
      · rw [q0] at x12; exact x12
      · rw [q1] at x12 x13
        have b1 : w'.testBit 0 = true := (x13 0 (by omega) (Or.inr ⟨rfl, by omega⟩)).trans (hw q1)
        exact ⟨fun _ => x12.1 (by omega), fun _ => x12.2.1 (by omega), fun _ z => absurd (b1.symm.trans z) (by decide)⟩
    obtain ⟨j, j1, j2⟩ := SK_n A7 hK.2.1 (p := tkB b A (k + t))
    rw [j2] at st0
    have j0 : X1_jointOf S1 (nI j) = 0 := by
      rw [jointOf_C x2]
      exact jo_stop j1 st0
    have h9 := x2.2.2.2.2.2.2.1
    have x2' : aI b A K0 z (k + t) C1 (P ++ []) 0 w' S1 := by rw [List.append_nil]; exact x2
    obtain ⟨S2, g1, g2, g3⟩ := pop_C n 0 (J := []) (fun x hx => absurd hx (by simp)) P C1 n S1 x2' (fun x hx z => (x6 x hx).1 (Int32.lt_of_lt_of_le z (Int32.not_lt.mp (nI_n0 (by omega))))) (by rw [List.append_nil]; omega) (by omega) (by omega)
    obtain ⟨S3, e1, e2, e3, e4⟩ := aI_emit g2 (by rw [List.length_append]; omega) (-20)
    have fin : X1_ask_J140 n S1 = some S3 := by
      unfold X1_ask_J140 X1_ask_J152 X1_popDownTo
      rw [h9, if_pos (show nI 0 ≤ 0 by decide), g1]
      dsimp only [Option.bind]
      rw [e1]
      dsimp only
      rw [put_6, ← e2]
    obtain ⟨y1, y2, y3, y4, y5, y6, y7, y8, y9, y10⟩ := e3
    refine ⟨S3, ?_, Or.inl ⟨t, C1 ++ P, ?_, x9, y1, y2, ?_, fun i hi => ?_, ?_, fA_t x3 (fA_t g3 e4), x4, x5, ?_, by omega⟩⟩
    · have e0 : X1_ask_L51 n (K + 1) S1 0 (nI t) = some S3 := by
        simp only [X1_ask_L51, X1_ask_B51]
        rw [if_neg (show ¬ (700 : Int32) < nI t from fun y => by have := (nI_ltN (a := 700) (by omega) (by omega)).mp y; omega), if_pos x2.2.1, if_pos True.intro, sort_C hK x2.1, j2, j0, if_pos (show (0 : Int32) = 0 from rfl), h9, if_pos (show nI 0 ≤ 0 by decide), fin]
        split <;> rfl
      have := x1 (K + 1)
      rw [Nat.zero_add, e0, ← hK'] at this
      exact this
    · have := x8 [] (show wfL [] (0 + 1) from Nat.le_refl 1)
      rw [List.append_nil] at this
      exact this
    · rw [y3, List.length_append]
      rfl
    · rw [y4 i (by rw [List.length_append]; omega), gD_app hi]
    · rw [y4 (C1 ++ P).length (by rw [List.length_append (bs := [(-20 : Int32)])]; exact Nat.lt_succ_self _), gD_last]
    · rw [List.length_append]
      omega
  · obtain ⟨S2, g1, g2⟩ := end_any n hn x6 x6'
    refine ⟨S2, ?_, Or.inr ⟨⟨by rw [g2.1, x4]; exact x3, by rw [g2.1, x4, x7], by rw [g2.2, x5, x8]⟩, x9⟩⟩
    obtain ⟨K, hK'⟩ : ∃ K, n = K + t := ⟨n - t, by omega⟩
    have := x1 K
    rw [← hK'] at this
    exact this.trans g1
theorem ask_op (hn : 2200 < n) (hK : KB b A K0) {w k3 : Nat} (hs : s < 40) (hw : w < 3) (hk3 : k3 < 3) {fl : Int32} (hf : fl = 0 ∨ fl = 1) (hm : ∀ w, w < 3 → mk w < 3) (hd : ∀ w', w' < 3 → done w' = true → w' ≠ w ∧ mk w' ≠ k3) (hmk : mk w = k3) (h : PE b A K0 s z0 q0 k0 1 S0 R0 done mk bd us S R) : ∃ S' R', X1_ask n S (nI s) (nI w) fl = some S' ∧ X8_readInto n R (nI s) (nI k3) fl = some R' ∧ PE b A K0 s z0 q0 k0 0 S0 R0 (fun x => x == w || done x) mk bd us S' R' := by
  have A7 := hK.1
  have K0A := hK.2.2.1
  rcases h with ⟨k, z, q, ⟨a1, a2, a3, a4, a5, a6, a7⟩, b1, b2, b3, b4, b5, c1, c2, c3⟩ | ⟨hb, hf0⟩
  · have kk := a1.2.2.1
    obtain ⟨w0, hw0⟩ : ∃ w0 : Nat, w0 = if fl = 0 then 1 else 0 := ⟨_, rfl⟩
    have w1 : w0 ≤ 1 := by rw [hw0]; split <;> omega
    obtain ⟨S2, hS2⟩ : ∃ S2, S2 = sC (sC (sC S 0 (am_u (am_u (S 0) 8 0) 9 0)) 12 (upd (S 12) (3 * s + w) (nI z))) 0 (am_u ((sC (sC S 0 (am_u (am_u (S 0) 8 0) 9 0)) 12 (upd (S 12) (3 * s + w) (nI z))) 0) 10 (nI w0)) := ⟨_, rfl⟩
    obtain ⟨R2, hR2⟩ : ∃ R2, R2 = sC R 7 (upd (R 7) (120 + 3 * s + k3) (R 0 21)) := ⟨_, rfl⟩
    have pre : preO b A K0 z q S2 k [] [] 0 w0 [] 0 0 0 R2 := by
      rw [hS2, hR2]
      refine ⟨⟨a1, a2, a3, fun i hi => absurd hi (Nat.not_lt_zero _), rfl, fun i hi => absurd hi (Nat.not_lt_zero _), rfl, by omega, rfl, by omega⟩, ⟨a4, a5, a6, fun i hi => absurd hi (Nat.not_lt_zero _)⟩, by omega, fun x hx => absurd hx (by simp), by show 0 ≤ _; omega, by omega, ?_, ?_⟩
      · show z + 0 + 0 + 1 ≤ k
        omega
      · show 2 * (q + 0 + 0) + 3 ≤ 3 * k
        omega
    have cl : X1_ask n S (nI s) (nI w) fl = X1_ask_L51 n n S2 1 0 := by
      unfold X1_ask X1_ask_J42
      rw [show nI s * 3 = nI (s * 3) from pk_mul s 3, nI_add, show s * 3 + w = 3 * s + w by omega, jput_nI (by omega) (by omega), a3, hS2, hw0]
      rcases hf with rfl | rfl
      · rw [if_pos rfl, if_pos rfl]; rfl
      · rw [if_neg (by decide), if_neg (by decide)]; rfl
    have key : ∃ R1, (if fl = 0 then X8_readSum n (X8_readExpressionR n 9) R2 (nI 0) else X8_readExpressionR n 9 R2 (nI 0)) = some R1 ∧ ∃ r, r ≤ 1 ∧ (r = 1 → w0.testBit 0 = true) ∧ (okO n b A K0 z q S2 k [] [] 0 w0 [] 0 r 0 R2 R1 ∨ noO n K0 q S2 k 0 1 R2 R1) := by
      rcases hf with rfl | rfl
      · rw [if_pos rfl] at hw0 ⊢
        obtain ⟨R1, u1, u2⟩ := spec_sum hn hK (d := 0) (by omega) (spec_all hn hK 6 1 (by omega)) (preO_up (by omega) pre) (g := 9) (by omega)
        exact ⟨R1, u1, 1, by omega, fun _ => by rw [hw0]; decide, u2⟩
      · rw [if_neg (by decide)] at hw0 ⊢
        obtain ⟨R1, u1, u2⟩ := spec_all hn hK 7 0 (by omega) z q S2 k [] [] w0 [] 0 0 9 R2 pre (by rw [hw0]; decide) (by omega)
        exact ⟨R1, u1, 0, by omega, fun z => by omega, u2⟩
    obtain ⟨R1, u1, r, r1, r2, u2⟩ := key
    obtain ⟨S', v1, v2⟩ := ask_end hn hK r1 r2 kk u2
    refine ⟨S', sC R1 8 (upd (R1 8) (120 + 3 * s + k3) (R1 0 21)), cl.trans v1, ?_, ?_⟩
    · rw [readInto_eq hs hk3, ← hR2, u1]
      rfl
    · rcases v2 with ⟨t, L, l1, l2, l3, l4, l5, l6, l7, ⟨f1, f2, f3, f4, f5⟩, ⟨m1, m2, m3, m4⟩, ⟨g1, g2, g3⟩, l8, l9⟩ | ⟨v3, v4⟩
      · have s12 : S' 12 = upd (S 12) (3 * s + w) (nI z) := by
          rw [f1 12 (by omega) (by omega) (by omega) (by omega) (by omega), hS2]
        have r7 : R1 7 = upd (R 7) (120 + 3 * s + k3) (R 0 21) := by
          rw [g1 7 (by omega) (by omega), hR2]
        have r8 : R1 8 = R 8 := by
          rw [g1 8 (by omega) (by omega), hR2]
        refine Or.inl ⟨k + t, z + L.length + 1, q + (encL L).length, ⟨l3, l4, l5, ⟨⟨m1.1.1, m1.1.2⟩, m1.2⟩, m2, m3, by rw [f2 3 (by omega) (by omega) (by omega) (by omega) (by omega), hS2]; exact a7⟩, by omega, by omega, by omega, by omega, by omega, cC_t b4 c1 (z1 := z) ⟨fun c h1 h2 h3 h4 h5 h6 h7 h8 => ?_, fun j h1 h2 h3 h4 h5 => ?_, fun j h => ?_, fun j h => ⟨?_, ?_⟩, fun j h => ?_, fun i h => ?_⟩, cR_t b5 c2 (q1 := q) ⟨fun c h1 h2 h3 h4 h5 h6 => ?_, fun j h => ?_, fun j h => ⟨?_, ?_⟩, fun j h => ⟨?_, ?_⟩, fun i h => ?_⟩, ?_⟩
        · rw [f1 c h1 h2 h3 h7 h8, hS2, sC_ne h1, sC_ne h6, sC_ne h1]
        · rw [f2 j h1 h2 h3 h4 h5, hS2]
          show am_u (am_u (am_u (S 0) 8 0) 9 0) 10 (nI w0) j = _
          rw [am_u_ne h5, am_u_ne h4, am_u_ne h3]
        · rw [f4 j h, hS2]
        · rw [f1 10 (by omega) (by omega) (by omega) (by omega) (by omega), hS2]
        · rw [f1 11 (by omega) (by omega) (by omega) (by omega) (by omega), hS2]
        · rw [s12, upd_ne (by omega)]
        · rw [f5 i h, hS2]
        · rw [sC_ne h4, g1 c h1 h2, hR2, sC_ne h3]
        · show R1 0 j = _
          rw [g2 j h, hR2]
        · show R1 7 j = _
          rw [r7, upd_ne (by omega)]
        · show upd (R1 8) (120 + 3 * s + k3) (R1 0 21) j = _
          rw [upd_ne (by omega), r8]
        · show R1 9 j = _
          rw [g1 9 (by omega) (by omega), hR2]
        · show R1 10 j = _
          rw [g1 10 (by omega) (by omega), hR2]
        · show R1 5 i = _
          rw [g3 i h, hR2]
        · obtain ⟨x1, ⟨v, y1, y2, y3⟩, x3⟩ := c3
          have s10 : S' 10 = S 10 := by
            rw [f1 10 (by omega) (by omega) (by omega) (by omega) (by omega), hS2]
          have s11 : S' 11 = S 11 := by
            rw [f1 11 (by omega) (by omega) (by omega) (by omega) (by omega), hS2]
          have r9 : R1 9 = R 9 := by
            rw [g1 9 (by omega) (by omega), hR2]
          have r10 : R1 10 = R 10 := by
            rw [g1 10 (by omega) (by omega), hR2]
          refine ⟨fun w' hw' => ?_, ⟨v, y1, by rw [s10]; exact y2, by show R1 9 _ = _; rw [r9]; exact y3⟩, ?_⟩
          · by_cases qw : w' = w
            · rw [if_pos (by rw [qw]; simp)]
              refine ⟨L, z, q, ?_, by omega, l6, l7, l1, ?_, ?_, by omega, m4, l2⟩
              · rw [s12, qw, upd_eq]
              · show R1 7 _ = _
                rw [r7, qw, hmk, upd_eq, a6]
              · show upd (R1 8) (120 + 3 * s + k3) (R1 0 21) _ = _
                rw [qw, hmk, upd_eq, m3]
            · have y := x1 w' hw'
              have hd' : ((w' == w) || done w') = done w' := by
                rw [show (w' == w) = false from beq_eq_false_iff_ne.mpr qw, Bool.false_or]
              by_cases d : done w' = true
              · rw [if_pos d] at y
                rw [if_pos (show ((w' == w) || done w') = true by rw [hd']; exact d)]
                obtain ⟨L', y⟩ := y
                have ne := (hd w' hw' d).2
                have l3' := hm w' hw'
                refine ⟨L', rA_st y (by rw [s12, upd_ne (by omega)]) (fun i hi => ?_) (by show R1 7 _ = _; rw [r7, upd_ne (by omega)]) (by show upd (R1 8) (120 + 3 * s + k3) (R1 0 21) _ = _; rw [upd_ne (by omega), r8]) (fun i hi => ?_) (by omega) (by omega)⟩
                · rw [f5 i hi, hS2]
                · show R1 5 i = _
                  rw [g3 i hi, hR2]
              · rw [if_neg d] at y
                rw [if_neg (show ¬ ((w' == w) || done w') = true by rw [hd']; exact d), s12, upd_ne (by omega)]
                exact y
          · rw [s11]
            show if bd = true then (∃ bb, 1 ≤ bb ∧ bb ≤ 99 ∧ S 11 s = nI bb ∧ R1 10 (40 + s) = nI bb) else R1 10 (40 + s) = us
            rw [r10]
            exact x3
      · refine Or.inr ⟨v3, fR0_t (cR_0 c2) (fR0_t (R' := R2) ?_ (fR0_t (fE_0 v4) ⟨fun c h1 h2 => sC_ne (by omega), fun _ _ => rfl, rfl, fun c h j hj => by rw [sC_ne (by omega)], fun j hj => ⟨rfl, upd_ne (by omega)⟩, fun _ _ => rfl⟩))⟩
        rw [hR2]
        exact ⟨fun c h1 h2 => sC_ne (by omega), fun _ _ => rfl, rfl, fun c h j hj => by rw [sC_ne (by omega)], fun j hj => ⟨upd_ne (by omega), rfl⟩, fun _ _ => rfl⟩
  · obtain ⟨S', e1, e2⟩ := ask_f n hn hb.1 (nI s) (nI w) fl
    have hr : ¬ R 0 18 = 0 := by rw [hb.2.1]; exact hb.1
    refine ⟨S', sC (sC R 7 (upd (R 7) (120 + 3 * s + k3) (R 0 21))) 8 (upd (R 8) (120 + 3 * s + k3) (R 0 21)), e1, ?_, Or.inr ⟨⟨kp_n e2 hb.1, hb.2.1.trans e2.1.symm, hb.2.2.trans e2.2.symm⟩, fR0_t hf0 ⟨fun c h1 h2 => ?_, fun _ _ => rfl, rfl, fun c h j hj => ?_, fun j hj => ⟨upd_ne (by omega), upd_ne (by omega)⟩, fun _ _ => rfl⟩⟩⟩
    · rw [readInto_eq hs hk3]
      have z1 : X8_readSum n (X8_readExpressionR n 9) (sC R 7 (upd (R 7) (120 + 3 * s + k3) (R 0 21))) (nI 0) = some (sC R 7 (upd (R 7) (120 + 3 * s + k3) (R 0 21))) := sum_f n hn _ (R := sC R 7 (upd (R 7) (120 + 3 * s + k3) (R 0 21))) hr (nI 0)
      have z2 : X8_readExpressionR n 9 (sC R 7 (upd (R 7) (120 + 3 * s + k3) (R 0 21))) (nI 0) = some (sC R 7 (upd (R 7) (120 + 3 * s + k3) (R 0 21))) := expr_f n 8 (R := sC R 7 (upd (R 7) (120 + 3 * s + k3) (R 0 21))) hr (nI 0)
      rw [z1, z2]
      split <;> rfl
    · rw [sC_ne (by omega), sC_ne (by omega)]
    · rw [sC_ne (by omega), sC_ne (by omega)]
end ASK
