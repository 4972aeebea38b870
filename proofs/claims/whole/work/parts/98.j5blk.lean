/-! STEPS ARE READ: what is known of a block -/
def anS (S : am_M) : Nat → Nat := fun s => (S 7 s).toNatClampNeg
/-- both are at token k, fine, N STEPS so far, within f 'if's -/
def bF (b : Nat → Int32) (A K0 : Nat) (S R : am_M) (k z q N f : Nat) : Prop := at2 b A K0 k z q S R ∧ S 6 7 = nI N ∧ S 6 8 = nI (anyN (anS S) N) ∧ S 0 6 = nI f ∧ N ≤ 40 ∧ R 4 1 = nI N ∧ z ≤ k ∧ 2 * q ≤ 3 * k
/-- a STEP that was read, but for where it leads -/
def sF (S R : am_M) (s z q : Nat) : Prop := ∃ kd us, kd ≤ 10 ∧ S 7 s = nI kd ∧ R 6 (40 + s) = nI kd ∧ FF s (hasA kd) (mkA kd) (decide (kd ≤ 4)) us S R z q
/-- where a STEP leads to that has tg behind it -/
def lF (S R : am_M) (s tg : Nat) : Prop := (S 7 s ≠ 10 → S 8 s = nI tg) ∧ (S 7 s = 10 → ∃ nx ot, S 8 s = nI nx ∧ S 9 s = nI ot ∧ ((R 12 (40 + s) = -1 ∧ nx = tg) ∨ (R 12 (40 + s) = nI nx ∧ s < nx ∧ nx < tg)) ∧ ((R 13 (40 + s) = -1 ∧ ot = tg) ∨ (R 13 (40 + s) = nI ot ∧ s < ot ∧ ot < tg)))
def gC (N z f : Nat) (S S' : am_M) : Prop := (∀ c, 7 ≤ c → c ≤ 11 → ∀ j, j < N → S' c j = S c j) ∧ (∀ j, j < 3 * N → S' 12 j = S 12 j) ∧ (∀ i, i < z → S' 13 i = S 13 i) ∧ ∀ j, j < f → S' 14 j = S 14 j ∧ S' 15 j = S 15 j
def gR (N q : Nat) (R R' : am_M) : Prop := (∀ c, c ≠ 0 → (c < 4 ∨ 13 < c) → R' c = R c) ∧ (∀ j, j < 11 ∨ j = 12 ∨ j = 20 ∨ 22 ≤ j → R' 0 j = R 0 j) ∧ R' 4 0 = R 4 0 ∧ (∀ c, c = 6 ∨ (9 ≤ c ∧ c ≤ 13) → ∀ j, j < 40 + N → R' c j = R c j) ∧ (∀ j, j < 120 + 3 * N → R' 7 j = R 7 j ∧ R' 8 j = R 8 j) ∧ ∀ i, i < 1080 + q → R' 5 i = R 5 i
/-- the class's loop over STEPS runs t times -/
def run (n : Nat) (S : am_M) (i t : Nat) (S' : am_M) : Prop := ∀ K, X1_read_L32 n (K + t) S (nI i) = X1_read_L32 n K S' (nI (i + t))
/-- it ends with a FAULT, the reference's -/
def failO (n K0 : Nat) (S : am_M) (i k : Nat) (R R' : am_M) : Prop := ∃ t S', t + k ≤ K0 + 3 ∧ (∀ K, X1_read_L32 n (K + t) S (nI i) = some (S' 0 2, S')) ∧ bN S' R' ∧ fR0 R R'
def okB (n : Nat) (b : Nat → Int32) (A K0 : Nat) (S R : am_M) (k i z q N0 f a : Nat) (first : Int32) (R' : am_M) : Prop := ∃ t S' k' z' q' N1, run n S i t S' ∧ bF b A K0 S' R' k' z' q' N1 f ∧ N0 ≤ N1 ∧ k + t ≤ k' ∧ z ≤ z' ∧ q ≤ q' ∧ gC N0 z f S S' ∧ gR N0 q R R' ∧ (SK b A (tkB b A k') = 28 ∨ (f ≠ 0 ∧ (SK b A (tkB b A k') = 24 ∨ SK b A (tkB b A k') = 25))) ∧ first = (if N0 = N1 then -1 else nI N0) ∧ ∀ s, N0 ≤ s → s < N1 → sF S' R' s z' q' ∧ ∃ tg, s < tg ∧ tg ≤ N1 ∧ lF S' R' s tg ∧ (tg < N1 → rch (bh R') (5 - f) s (nI tg)) ∧ (tg = N1 → if f = 0 then rch (bh R') (5 - f) s (-1) else pch (bh R') (5 - f) s a)
def SpecB (n : Nat) (b : Nat → Int32) (A K0 f : Nat) : Prop := ∀ (g : Nat) (S R : am_M) (k i z q N0 a : Nat), 5 ≤ g + f → bF b A K0 S R k z q N0 f → i ≤ k → (f ≠ 0 → a < N0) → ∃ first R', X8_readStepsR n g R (nI f) (if f = 0 then -1 else nI a) = some (first, R') ∧ (okB n b A K0 S R k i z q N0 f a first R' ∨ failO n K0 S i k R R')
def okSt (n : Nat) (b : Nat → Int32) (A K0 : Nat) (S R : am_M) (k i z q N f : Nat) (R' : am_M) : Prop := ∃ t S' k' z' q' N2, run n S i t S' ∧ bF b A K0 S' R' k' z' q' N2 f ∧ N < N2 ∧ k + t ≤ k' ∧ k < k' ∧ z ≤ z' ∧ q ≤ q' ∧ gC N z f S S' ∧ gR N q R R' ∧ sF S' R' N z' q' ∧ lF S' R' N N2 ∧ bh R' N = -1 ∧ ∀ s, N < s → s < N2 → sF S' R' s z' q' ∧ ∃ tg, s < tg ∧ tg ≤ N2 ∧ lF S' R' s tg ∧ (tg < N2 → rch (bh R') (4 - f) s (nI tg)) ∧ (tg = N2 → pch (bh R') (4 - f) s N)
section BLK
variable {n : Nat} {b : Nat → Int32} {A K0 : Nat} {S R S' R' S1 R1 : am_M}
theorem gC_t {N z f N1 z1 f1 : Nat} (hN : N ≤ N1) (hz : z ≤ z1) (hf : f ≤ f1) (x : gC N z f S S1) (y : gC N1 z1 f1 S1 S') : gC N z f S S' := ⟨fun c h1 h2 j hj => (y.1 c h1 h2 j (by omega)).trans (x.1 c h1 h2 j hj), fun j hj => (y.2.1 j (by omega)).trans (x.2.1 j hj), fun i hi => (y.2.2.1 i (by omega)).trans (x.2.2.1 i hi), fun j hj => ⟨(y.2.2.2 j (by omega)).1.trans (x.2.2.2 j hj).1, (y.2.2.2 j (by omega)).2.trans (x.2.2.2 j hj).2⟩⟩
theorem gR_t {N q N1 q1 : Nat} (hN : N ≤ N1) (hq : q ≤ q1) (x : gR N q R R1) (y : gR N1 q1 R1 R') : gR N q R R' := ⟨fun c h1 h2 => (y.1 c h1 h2).trans (x.1 c h1 h2), fun j h => (y.2.1 j h).trans (x.2.1 j h), y.2.2.1.trans x.2.2.1, fun c h j hj => (y.2.2.2.1 c h j (by omega)).trans (x.2.2.2.1 c h j hj), fun j hj => ⟨(y.2.2.2.2.1 j (by omega)).1.trans (x.2.2.2.2.1 j hj).1, (y.2.2.2.2.1 j (by omega)).2.trans (x.2.2.2.2.1 j hj).2⟩, fun i hi => (y.2.2.2.2.2 i (by omega)).trans (x.2.2.2.2.2 i hi)⟩
theorem gC_r {N z f : Nat} : gC N z f S S := ⟨fun _ _ _ _ _ => rfl, fun _ _ => rfl, fun _ _ => rfl, fun _ _ => ⟨rfl, rfl⟩⟩
theorem gR_r {N q : Nat} : gR N q R R := ⟨fun _ _ _ => rfl, fun _ _ => rfl, rfl, fun _ _ _ _ => rfl, fun _ _ => ⟨rfl, rfl⟩, fun _ _ => rfl⟩
theorem gR_0 {N q : Nat} (x : gR N q R R') : fR0 R R' := ⟨x.1, x.2.1, x.2.2.1, fun c h j hj => x.2.2.2.1 c h j (by omega), fun j hj => x.2.2.2.2.1 j (by omega), fun i hi => x.2.2.2.2.2 i (by omega)⟩
theorem gR_g {N q : Nat} {g : Nat → Int32} (hg : ∀ j, j < 11 ∨ j = 12 ∨ j = 20 ∨ 22 ≤ j → g j = R 0 j) : gR N q R (sC R 0 g) := ⟨fun c h1 h2 => sC_ne h1, hg, rfl, fun c h j hj => by rw [sC_ne (by omega)], fun _ _ => ⟨rfl, rfl⟩, fun _ _ => rfl⟩
theorem cC_g {N z f : Nat} (x : cC N z S S') : gC N z f S S' := ⟨fun c h1 h2 j hj => by
    by_cases c10 : c = 10
    · rw [c10]; exact (x.2.2.2.1 j (by omega)).1
    · by_cases c11 : c = 11
      · rw [c11]; exact (x.2.2.2.1 j (by omega)).2
      · rw [x.1 c (by omega) (by omega) (by omega) c10 c11 (by omega) (by omega) (by omega)], fun j hj => x.2.2.2.2.1 j (by omega), fun i hi => x.2.2.2.2.2 i hi, fun j hj => ⟨by rw [x.1 14 (by omega) (by omega) (by omega) (by omega) (by omega) (by omega) (by omega) (by omega)], by rw [x.1 15 (by omega) (by omega) (by omega) (by omega) (by omega) (by omega) (by omega) (by omega)]⟩⟩
theorem cR_g {N q : Nat} (x : cR N q R R') : gR N q R R' := ⟨fun c h1 h2 => x.1 c h1 (by omega) (by omega) (by omega) (by omega) (by omega), x.2.1, by rw [x.1 4 (by omega) (by omega) (by omega) (by omega) (by omega) (by omega)], fun c h j hj => by
    by_cases c9 : c = 9
    · rw [c9]; exact (x.2.2.2.1 j (by omega)).1
    · by_cases c10 : c = 10
      · rw [c10]; exact (x.2.2.2.1 j (by omega)).2
      · rw [x.1 c (by omega) (by omega) (by omega) (by omega) c9 c10], fun j hj => x.2.2.1 j (by omega), fun i hi => x.2.2.2.2 i hi⟩
theorem mkA_3 (kd w : Nat) (hw : w < 3) : mkA kd w < 3 := by
  unfold mkA
  split <;> omega
theorem sF_st {s z q z' q' : Nat} (x : sF S R s z q) (h7 : S' 7 s = S 7 s) (h10 : S' 10 s = S 10 s) (h11 : S' 11 s = S 11 s) (h12 : ∀ w, w < 3 → S' 12 (3 * s + w) = S 12 (3 * s + w)) (h13 : ∀ i, i < z → S' 13 i = S 13 i) (r6 : R' 6 (40 + s) = R 6 (40 + s)) (r9 : R' 9 (40 + s) = R 9 (40 + s)) (r10 : R' 10 (40 + s) = R 10 (40 + s)) (r78 : ∀ w, w < 3 → R' 7 (120 + 3 * s + w) = R 7 (120 + 3 * s + w) ∧ R' 8 (120 + 3 * s + w) = R 8 (120 + 3 * s + w)) (r5 : ∀ i, i < 1080 + q → R' 5 i = R 5 i) (hz : z ≤ z') (hq : q ≤ q') : sF S' R' s z' q' := by
  obtain ⟨kd, us, k1, k2, k3, k4⟩ := x
  exact ⟨kd, us, k1, h7.trans k2, r6.trans k3, FF_st k4 (fun w hw _ => mkA_3 kd w hw) h10 h11 h12 h13 r9 r10 r78 r5 hz hq⟩
theorem sF_g {s z q z' q' N f : Nat} (x : sF S R s z q) (hs : s < N) (c : gC N z f S S') (r : gR N q R R') (hz : z ≤ z') (hq : q ≤ q') : sF S' R' s z' q' := sF_st x (c.1 7 (by omega) (by omega) s hs) (c.1 10 (by omega) (by omega) s hs) (c.1 11 (by omega) (by omega) s hs) (fun w hw => c.2.1 _ (by omega)) c.2.2.1 (r.2.2.2.1 6 (by omega) _ (by omega)) (r.2.2.2.1 9 (by omega) _ (by omega)) (r.2.2.2.1 10 (by omega) _ (by omega)) (fun w hw => r.2.2.2.2.1 _ (by omega)) r.2.2.2.2.2 hz hq
theorem lF_g {s tg N z q f : Nat} (x : lF S R s tg) (hs : s < N) (c : gC N z f S S') (r : gR N q R R') : lF S' R' s tg := by
  unfold lF
  rw [c.1 7 (by omega) (by omega) s hs, c.1 8 (by omega) (by omega) s hs, c.1 9 (by omega) (by omega) s hs, r.2.2.2.1 12 (by omega) (40 + s) (by omega), r.2.2.2.1 13 (by omega) (40 + s) (by omega)]
  exact x
theorem bh_g {N q : Nat} (r : gR N q R R') : ∀ x, x < N → bh R' x = bh R x := fun x hx => r.2.2.2.1 11 (by omega) (40 + x) (by omega)
theorem run_t {i t1 t2 : Nat} {S2 : am_M} (x : run n S i t1 S1) (y : run n S1 (i + t1) t2 S2) : run n S i (t1 + t2) S2 := fun K => by
  rw [show K + (t1 + t2) = (K + t2) + t1 by omega, x, y, show i + t1 + t2 = i + (t1 + t2) by omega]
theorem run_0 {i : Nat} : run n S i 0 S := fun _ => rfl
theorem fail_t {i k t1 k1 : Nat} {R2 : am_M} (x : run n S i t1 S1) (hk : k + t1 ≤ k1) (hR : fR0 R R1) (y : failO n K0 S1 (i + t1) k1 R1 R2) : failO n K0 S i k R R2 := by
  obtain ⟨t, S', y1, y2, y3, y4⟩ := y
  exact ⟨t1 + t, S', by omega, fun K => by rw [show K + (t1 + t) = (K + t) + t1 by omega, x, y2], y3, fR0_t hR y4⟩
/-- after a FAULT the class's loop ends -/
theorem loop32_f (h : ¬ S 0 2 = 0) (K : Nat) (x : Int32) : X1_read_L32 n (K + 1) S x = some (S 0 2, S) := by
  have j : X1_read_J117 n S = some (S 0 2, S) := by
    unfold X1_read_J117 X1_read_J129
    rw [refuse_f h]
    split <;> rfl
  simp only [X1_read_L32, X1_read_B32]
  rw [if_neg h, j]
  split <;> rfl
theorem fail_of {i k : Nat} (hk : k ≤ K0) (x : run n S i 1 S') (h1 : bN S' R') (h2 : fR0 R R') : failO n K0 S i k R R' := ⟨2, S', by omega, fun K => by
  rw [show K + 2 = (K + 1) + 1 by omega, x, loop32_f h1.1], h1, h2⟩
theorem anyN_congr {kd kd' : Nat → Nat} : ∀ N, (∀ s, s < N → kd s = kd' s) → anyN kd N = anyN kd' N := by
  intro N
  induction N with
  | zero => exact fun _ => rfl
  | succ N ih =>
    intro h
    show anyN kd N + _ = anyN kd' N + _
    rw [ih (fun s hs => h s (by omega)), h N (by omega)]
/-- the class's loop comes to a STEP, an 'else', an 'end', or what can't stand -/
theorem L32_go {k z q i : Nat} (hK : KB b A K0) (h : at2 b A K0 k z q S R) (hi : i ≤ 700) {j : Nat} (hj : j < 356) (hs : SK b A (tkB b A k) = nI j) (j28 : j ≠ 28) (K : Nat) : X1_read_L32 n (K + 1) S (nI i) = (if 10 < j then (if j = 24 then (X1_turnIf S).bind (fun q => X1_read_L32 n K q (nI (i + 1))) else if j = 25 then (X1_closeIf n S).bind (fun q => X1_read_L32 n K q (nI (i + 1))) else (X1_refuse S 1).bind (fun q => X1_read_L32 n K q (nI (i + 1)))) else (X1_oneStep n S (nI j)).bind (fun q => X1_read_L32 n K q (nI (i + 1)))) := by
  rw [X1_read_L32]
  simp only [X1_read_B32, X1_read_J111]
  rw [if_neg (show ¬ (700 : Int32) < nI i from fun y => by have := (nI_ltN (a := 700) (by omega) (by omega)).mp y; omega), if_pos h.2.1, sort_C hK h.1, hs, if_neg (show ¬ nI j = (28 : Int32) from fun y => j28 ((nI_eq (b := 28) (by omega) (by omega)).mp y)), nI_1]
  by_cases q10 : 10 < j
  · rw [if_pos q10, if_pos (show (10 : Int32) < nI j from (nI_ltN (a := 10) (by omega) (by omega)).mpr q10)]
    by_cases q24 : j = 24
    · rw [if_pos q24, if_pos (show nI j = (24 : Int32) by rw [q24] <;> rfl)]
    · rw [if_neg q24, if_neg (show ¬ nI j = (24 : Int32) from fun y => q24 ((nI_eq (b := 24) (by omega) (by omega)).mp y))]
      by_cases q25 : j = 25
      · rw [if_pos q25, if_pos (show nI j = (25 : Int32) by rw [q25] <;> rfl)]
      · rw [if_neg q25, if_neg (show ¬ nI j = (25 : Int32) from fun y => q25 ((nI_eq (b := 25) (by omega) (by omega)).mp y))]
  · rw [if_neg q10, if_neg (show ¬ (10 : Int32) < nI j from fun y => q10 ((nI_ltN (a := 10) (by omega) (by omega)).mp y))]
/-- a ';' that must stand -/
theorem sign2 (hn : 2200 < n) (hK : KB b A K0) {k z q : Nat} (a : at2 b A K0 k z q S R) : ∃ S' R', X1_need S 159 = some S' ∧ X8_need n R 59 = some R' ∧ ((∃ v g, S' = sC S 1 v ∧ R' = sC R 0 g ∧ (∀ j, j < 11 ∨ j = 12 ∨ j = 20 ∨ 22 ≤ j → g j = R 0 j) ∧ at2 b A K0 (k + 1) z q S' R') ∨ (bN S' R' ∧ fR0 R R')) := by
  have sg : X8_isSign R 59 = _ := isSign_eq hK.1 hK.2.1 (c := 59) a.2.2.2.1 a.2.2.2.2.1 (by omega) (by unfold lst; decide)
  unfold X1_need X8_need X8_need_J20
  rw [sort_C hK a.1, if_pos a.2.2.2.2.1, sg]
  by_cases t : SK b A (tkB b A k) = nI (100 + 59)
  · obtain ⟨d1, g, d2, d3, d4⟩ := at2_adv hn hK a (at2_end hK a (by rw [t]; decide))
    rw [if_pos (show SK b A (tkB b A k) = 159 from t), decide_eq_true t, if_pos rfl, if_pos a.2.2.2.2.1, d1, d2]
    dsimp only [Option.bind]
    rw [put_1]
    exact ⟨_, _, rfl, rfl, Or.inl ⟨_, g, rfl, rfl, fun j hj => d3 j (by omega), d4⟩⟩
  · obtain ⟨f1, f2, f3, f4, f5⟩ := bN_of hK a (a := 1) (by decide)
    rw [if_neg (show ¬ SK b A (tkB b A k) = 159 from t), decide_eq_false t, if_neg Bool.false_ne_true, f1, f2]
    dsimp only [Option.bind]
    rw [if_neg f5]
    exact ⟨_, _, rfl, rfl, Or.inr ⟨f3, f4⟩⟩
end BLK
