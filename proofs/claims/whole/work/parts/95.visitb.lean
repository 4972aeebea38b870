/-! FROM A STATE: the loops -/
def mvr (mv : Int32) (P R : am_M) (i : Nat) : Prop := (mv = 0 ∧ R 23 i = 1 ∧ P 0 11 = 0) ∨ (mv = 1 ∧ R 23 i = 0)
theorem b2i_c {b : Bool} {α : Sort _} {x y : α} : (if b2i b = 0 then x else y) = (if b = true then y else x) := by
  cases b
  · rw [if_pos (show b2i false = 0 from rfl), if_neg (by decide)]
  · rw [if_neg (show ¬ b2i true = 0 by decide), if_pos rfl]
theorem vin (n : Nat) (hn : 2200 < n) {τ : Nat → Int64} {N m i h cnt : Nat} {kd nx ot : Nat → Nat} {G : Nat → Nat → List Int32} {b : Bool} (hh : h < m) (hcnt : cnt = if b = true then m else 1) (kc : am_M → Int32 → Int32 → Int32 → Option am_M) (kr : am_M → Int32 → Int32 → Option am_M) : ∀ (d o K K' : Nat) (mv : Int32) (P R : am_M) (Sf σf : Nat → am_M) (Mf : Nat → Nat) (s : Nat), o + d = cnt → d < K → d < K' → vI n τ P R N m kd nx ot G Sf σf Mf s i → mvr mv P R i →
    ∃ P' R' Sf' σf' Mf' s' mv', X4_visit_L42 n τ kc K P (nI i) mv (nI h) (nI cnt) (nI o) = kc P' (nI i) mv' (nI (h + 1)) ∧ X8_from_L39 n kr K' R (nI i) (nI h) (b2i b) (nI o) = kr R' (nI i) (nI (h + 1)) ∧ vI n τ P' R' N m kd nx ot G Sf' σf' Mf' s' i ∧ ext Sf σf Mf s Sf' σf' Mf' s' ∧ vF P P' R R' i ∧ mvr mv' P' R' i := by
  intro d
  induction d with
  | zero =>
    intro o K K' mv P R Sf σf Mf s ho hK hK' hI hm
    obtain ⟨K, rfl⟩ : ∃ J, K = J + 1 := ⟨K - 1, by omega⟩
    obtain ⟨K', rfl⟩ : ∃ J, K' = J + 1 := ⟨K' - 1, by omega⟩
    have m8 := hI.2.1.2.2.2.1
    have hR3 := hI.2.1.2.2.2.2.2.1
    have hc8 : cnt ≤ 8 := by rw [hcnt]; split <;> omega
    refine ⟨P, R, Sf, σf, Mf, s, mv, ?_, ?_, hI, ext_r, vF_r, hm⟩
    · simp only [X4_visit_L42, X4_visit_B42, X4_visit_J107]
      rw [if_pos (by rw [pu_le (by omega) (by omega)]; omega), nI_1]
    · simp only [X8_from_L39, X8_from_B39, b2i_c, hR3]
      have e : (if b = true then X8_from_J53 n kr (X8_from_L39 n kr K') R (nI i) (nI h) (b2i b) (nI o) (nI m) (nI o) else X8_from_J53 n kr (X8_from_L39 n kr K') R (nI i) (nI h) (b2i b) (nI o) 1 (nI o)) = X8_from_J53 n kr (X8_from_L39 n kr K') R (nI i) (nI h) (b2i b) (nI o) (nI cnt) (nI o) := by
        rw [hcnt]
        split <;> rfl
      rw [e]
      simp only [X8_from_J53, X8_from_J139]
      rw [if_pos (by rw [pu_le (by omega) (by omega)]; omega), nI_1]
  | succ d ih =>
    intro o K K' mv P R Sf σf Mf s ho hK hK' hI hm
    obtain ⟨K, rfl⟩ : ∃ J, K = J + 1 := ⟨K - 1, by omega⟩
    obtain ⟨K', rfl⟩ : ∃ J, K' = J + 1 := ⟨K' - 1, by omega⟩
    have hI0 := hI
    obtain ⟨h1, h2, h3, h4, h5, h6, h7, h8, h9⟩ := hI
    have m8 := h2.2.2.2.1
    have m2 := h2.2.2.1
    have hR3 := h2.2.2.2.2.2.1
    have s200 := h1.1
    have hc8 : cnt ≤ m := by rw [hcnt]; split <;> omega
    have e39 : X8_from_L39 n kr (K' + 1) R (nI i) (nI h) (b2i b) (nI o) = X8_from_J53 n kr (X8_from_L39 n kr K') R (nI i) (nI h) (b2i b) (nI o) (nI cnt) (nI o) := by
      simp only [X8_from_L39, X8_from_B39, b2i_c, hR3]
      rw [hcnt]
      split <;> rfl
    have nle : ¬ nI cnt ≤ nI o := by rw [pu_le (by omega) (by omega)]; omega
    rcases h9 with ⟨z1, z2⟩ | ⟨z1, z2⟩
    · obtain ⟨g, b1, b2, b3, b4, b5, b6⟩ := vbring n hn hI0
      obtain ⟨x, c1, c2⟩ := can_cl n hn b2 b3 hh (show o < m by omega)
      obtain ⟨y, st, d1, d2⟩ := can_rf n hn b2 b3 hh (show o < m by omega) (sC R 15 g 16)
      rw [sC_self] at d1
      have d2' : y = true ↔ CN n (am_sub P 1) m (Mf i) h (-1) (nI o) := by
        rw [show (sC R 15 g) 0 35 = -1 from h7] at d2
        exact d2
      have ec : X4_visit_L42 n τ kc (K + 1) P (nI i) mv (nI h) (nI cnt) (nI o) = (X2_can n (am_sub P 1) (nI h) (nI o)).bind (fun q3 => if q3 = true then (X2_move n (am_sub P 1) (nI h) (nI o)).bind (fun q5 => (X2_goOn n (am_sub τ 1) (am_sub (am_put P 1 19 q5) 1)).bind (fun q6 => (X4_noteTaker (am_put (am_put P 1 19 q5) 1 19 q6)).bind (fun q7 => (X4_keep n q7).bind (fun q8 => (X4_load n q8 (nI i)).bind (fun q9 => X4_visit_L42 n τ kc K q9 (nI i) 1 (nI h) (nI cnt) (nI o + 1)))))) else X4_visit_L42 n τ kc K P (nI i) mv (nI h) (nI cnt) (nI o + 1)) := by
        simp only [X4_visit_L42, X4_visit_B42, X4_visit_J101, X4_visit_J107]
        rw [if_neg nle, if_pos z1]
      have er : X8_from_L39 n kr (K' + 1) R (nI i) (nI h) (b2i b) (nI o) = (if y = true then (X8_move n (sC (sC (sC R 15 g) 16 st) 23 (upd (sC (sC R 15 g) 16 st 23) i 0)) (nI h) (nI o)).bind (fun q7 => if (q7 0 40) = (-1) then (X8_from_J129 n (X8_from_L39 n kr K') q7 (nI i) (nI h) (b2i b) (nI o)) else (if ((40 * (q7 0 40)) + (q7 0 42)) < 0 ∨ 320 ≤ ((40 * (q7 0 40)) + (q7 0 42)).toNatClampNeg then none else (if ((40 * (q7 0 40)) + (q7 0 42)) < 0 ∨ 320 ≤ ((40 * (q7 0 40)) + (q7 0 42)).toNatClampNeg then none else (X8_from_J129 n (X8_from_L39 n kr K') (sC q7 24 (upd (q7 24) ((40 * (q7 0 40)) + (q7 0 42)).toNatClampNeg ((q7 24 ((40 * (q7 0 40)) + (q7 0 42)).toNatClampNeg) ||| (1 <<< ((q7 0 41) &&& 31))))) (nI i) (nI h) (b2i b) (nI o))))) else X8_from_L39 n kr K' (sC (sC R 15 g) 16 st) (nI i) (nI h) (b2i b) (nI o + 1)) := by
        rw [e39]
        simp only [X8_from_J53, X8_from_J133]
        rw [if_neg nle, if_pos z2, b1]
        dsimp only [Option.bind]
        rw [d1]
        dsimp only
        rw [if_neg (pu_g (n := 201) (by omega) (by omega)), nI_clamp (by omega)]
      have f16 : vF P P R (sC (sC R 15 g) 16 st) i := ⟨fun _ _ _ _ => rfl, fun _ _ _ => rfl, fun _ _ => rfl, fun c q1 q2 => by rw [sC_ne (by omega), sC_ne (by omega)], fun _ _ => rfl, fun _ _ => rfl⟩
      rw [ec, er, c1]
      dsimp only [Option.bind]
      by_cases hx : x = true
      · have hC := c2.mp hx
        rw [if_pos hx, if_pos (d2'.mpr hC)]
        obtain ⟨S1, S', q8, q9, r7, r9, Sf', σf', Mf', s', w1, w2, w3, w4, w5, w6, w7, w8, w9, w10, w11, w12⟩ := vmove n hn (vI_16 (st := st) b6) (rQ_16 m8 b3) b4 b5 hh (show o < m by omega) hC
        rw [w1]
        dsimp only
        rw [w2]
        dsimp only
        rw [w3]
        dsimp only
        rw [w4]
        dsimp only
        rw [w5]
        dsimp only
        rw [w6]
        dsimp only
        have e7 : (if (r7 0 40) = (-1) then (X8_from_J129 n (X8_from_L39 n kr K') r7 (nI i) (nI h) (b2i b) (nI o)) else (if ((40 * (r7 0 40)) + (r7 0 42)) < 0 ∨ 320 ≤ ((40 * (r7 0 40)) + (r7 0 42)).toNatClampNeg then none else (if ((40 * (r7 0 40)) + (r7 0 42)) < 0 ∨ 320 ≤ ((40 * (r7 0 40)) + (r7 0 42)).toNatClampNeg then none else (X8_from_J129 n (X8_from_L39 n kr K') (sC r7 24 (upd (r7 24) ((40 * (r7 0 40)) + (r7 0 42)).toNatClampNeg ((r7 24 ((40 * (r7 0 40)) + (r7 0 42)).toNatClampNeg) ||| (1 <<< ((r7 0 41) &&& 31))))) (nI i) (nI h) (b2i b) (nI o))))) = X8_from_L39 n kr K' r9 (nI i) (nI h) (b2i b) (nI (o + 1)) := by
          unfold ntr at w8
          by_cases z : r7 0 40 = -1
          · rw [if_pos z] at w8 ⊢
            simp only [X8_from_J129, X8_from_J133]
            rw [w8]
            dsimp only [Option.bind]
            rw [nI_1]
          · rw [if_neg z] at w8 ⊢
            obtain ⟨a, t, u1, u2, u3, u4⟩ := w7.resolve_left z
            have gd : ¬ (((40 * (r7 0 40)) + (r7 0 42)) < 0 ∨ 320 ≤ ((40 * (r7 0 40)) + (r7 0 42)).toNatClampNeg) := by
              rw [u3, u4, show (40 : Int32) * nI a = nI (40 * a) from pk_mul 40 a, nI_add]
              exact pu_g (n := 320) (by omega) (by omega)
            rw [if_neg gd, if_neg gd]
            simp only [X8_from_J129, X8_from_J133]
            rw [w8]
            dsimp only [Option.bind]
            rw [nI_1]
        rw [e7, nI_1]
        obtain ⟨P', R', Sg, σg, Mg, sg, mv', y1, y2, y3, y4, y5, y6⟩ := ih (o + 1) K K' 1 q9 r9 Sf' σf' Mf' s' (by omega) (by omega) (by omega) w9 (Or.inr ⟨rfl, w12⟩)
        exact ⟨P', R', Sg, σg, Mg, sg, mv', y1, y2, y3, ext_t w10 y4, vF_t f16 (vF_t w11 y5), y6⟩
      · rw [if_neg hx, if_neg (fun q => hx (c2.mpr (d2'.mp q))), nI_1]
        obtain ⟨P', R', Sg, σg, Mg, sg, mv', y1, y2, y3, y4, y5, y6⟩ := ih (o + 1) K K' mv P (sC (sC R 15 g) 16 st) Sf σf Mf s (by omega) (by omega) (by omega) (vI_16 b6) hm
        exact ⟨P', R', Sg, σg, Mg, sg, mv', y1, y2, y3, y4, vF_t f16 y5, y6⟩
    · refine ⟨P, R, Sf, σf, Mf, s, mv, ?_, ?_, hI0, ext_r, vF_r, hm⟩
      · simp only [X4_visit_L42, X4_visit_B42, X4_visit_J107]
        rw [if_neg nle, if_neg (by rw [z1]; decide), nI_1]
      · rw [e39]
        simp only [X8_from_J53, X8_from_J139]
        rw [if_neg nle, if_neg (by rw [z2]; decide), nI_1]
def vfin (n : Nat) (P : am_M) (i mv : Int32) : Option am_M := if mv = 0 then (X2_outcome n (am_sub P 1)).bind (fun q3 => (X4_addEnding n (sC P 25 (jput 200 (P 25) i q3)) i).bind (fun q4 => some q4)) else some P
theorem vspent (n : Nat) (hn : 2200 < n) {τ : Nat → Int64} {P : am_M} {m i : Nat} {mv : Int32} (m8 : m ≤ 8) (m2 : 2 ≤ m) (h13 : P 0 13 = nI m) (h11 : P 0 11 = 1) : ∀ (d h K : Nat), h + d = m → d < K → X4_visit_L9 n τ K P (nI i) mv (nI h) = vfin n P (nI i) mv := by
  intro d
  induction d with
  | zero =>
    intro h K hd hK
    obtain ⟨K, rfl⟩ : ∃ J, K = J + 1 := ⟨K - 1, by omega⟩
    simp only [X4_visit_L9, X4_visit_B9]
    rw [h13, if_pos (by rw [pu_le (by omega) (by omega)]; omega)]
    rfl
  | succ d ih =>
    intro h K hd hK
    obtain ⟨K, rfl⟩ : ∃ J, K = J + 1 := ⟨K - 1, by omega⟩
    have key : ∀ (c : Nat) (K2 : Nat), 0 < c → c ≤ 8 → 0 < K2 → X4_visit_L42 n τ (X4_visit_L9 n τ K) K2 P (nI i) mv (nI h) (nI c) 0 = vfin n P (nI i) mv := fun c K2 hc hc8 hK2 => by
      obtain ⟨K2, rfl⟩ : ∃ J, K2 = J + 1 := ⟨K2 - 1, by omega⟩
      simp only [X4_visit_L42, X4_visit_B42, X4_visit_J107]
      rw [← nI_0, if_neg (by rw [pu_le (by omega) (by omega)]; omega), h11, if_neg (by decide), nI_1]
      exact ih (h + 1) K (by omega) (by omega)
    simp only [X4_visit_L9, X4_visit_B9, X4_visit_J37]
    rw [h13, if_neg (by rw [pu_le (by omega) (by omega)]; omega)]
    split
    · exact key m n (by omega) (by omega) (by omega)
    · exact key 1 n (by omega) (by omega) (by omega)
theorem vout (n : Nat) (hn : 2200 < n) {τ : Nat → Int64} {N m i : Nat} {kd nx ot : Nat → Nat} {G : Nat → Nat → List Int32} : ∀ (d h K K' : Nat) (mv : Int32) (P R : am_M) (Sf σf : Nat → am_M) (Mf : Nat → Nat) (s : Nat), h + d = m → d < K → d < K' → vI n τ P R N m kd nx ot G Sf σf Mf s i → mvr mv P R i →
    ∃ P' R' Sf' σf' Mf' s' mv', X4_visit_L9 n τ K P (nI i) mv (nI h) = vfin n P' (nI i) mv' ∧ X8_from_L9 n K' R (nI i) (nI h) = some R' ∧ vI n τ P' R' N m kd nx ot G Sf' σf' Mf' s' i ∧ ext Sf σf Mf s Sf' σf' Mf' s' ∧ vF P P' R R' i ∧ mvr mv' P' R' i := by
  intro d
  induction d with
  | zero =>
    intro h K K' mv P R Sf σf Mf s hd hK hK' hI hm
    obtain ⟨K, rfl⟩ : ∃ J, K = J + 1 := ⟨K - 1, by omega⟩
    obtain ⟨K', rfl⟩ : ∃ J, K' = J + 1 := ⟨K' - 1, by omega⟩
    have m8 := hI.2.1.2.2.2.1
    refine ⟨P, R, Sf, σf, Mf, s, mv, ?_, ?_, hI, ext_r, vF_r, hm⟩
    · simp only [X4_visit_L9, X4_visit_B9]
      rw [hI.1.2.2.2.1, if_pos (by rw [pu_le (by omega) (by omega)]; omega)]
      rfl
    · simp only [X8_from_L9, X8_from_B9]
      rw [hI.2.1.2.2.2.2.2.1, if_pos (by rw [pu_le (by omega) (by omega)]; omega)]
  | succ d ih =>
    intro h K K' mv P R Sf σf Mf s hd hK hK' hI hm
    obtain ⟨K, rfl⟩ : ∃ J, K = J + 1 := ⟨K - 1, by omega⟩
    obtain ⟨K', rfl⟩ : ∃ J, K' = J + 1 := ⟨K' - 1, by omega⟩
    have m8 := hI.2.1.2.2.2.1
    have m2 := hI.2.1.2.2.1
    have hR3 := hI.2.1.2.2.2.2.2.1
    have h13 := hI.1.2.2.2.1
    rcases hI.2.2.2.2.2.2.2.2 with ⟨z1, z2⟩ | ⟨z1, z2⟩
    · obtain ⟨g, b1, b2, b3, b4, b5, b6⟩ := vbring n hn hI
      have hA := isAt_eq (k := 4) (st := sC R 15 g 16) b2 (show h < m by omega) (b3.1 h (by omega)) (by omega)
      rw [sC_self] at hA
      obtain ⟨bb, hbb⟩ : ∃ bb : Bool, bb = decide (dg (am_sub P 1) h = nI 4) := ⟨_, rfl⟩
      rw [← hbb] at hA
      obtain ⟨P1, R1, Sf1, σf1, Mf1, s1, mv1, y1, y2, y3, y4, y5, y6⟩ := vin n hn (b := bb) (cnt := if bb = true then m else 1) (show h < m by omega) rfl (X4_visit_L9 n τ K) (X8_from_L9 n K') (if bb = true then m else 1) 0 n n mv P (sC R 15 g) Sf σf Mf s (by omega) (by split <;> omega) (by split <;> omega) b6 hm
      obtain ⟨P2, R2, Sf2, σf2, Mf2, s2, mv2, x1, x2, x3, x4, x5, x6⟩ := ih (h + 1) K K' mv1 P1 R1 Sf1 σf1 Mf1 s1 (by omega) (by omega) (by omega) y3 y6
      have f15 : vF P P R (sC R 15 g) i := ⟨fun _ _ _ _ => rfl, fun _ _ _ => rfl, fun _ _ => rfl, fun c q1 q2 => sC_ne (by omega), fun _ _ => rfl, fun _ _ => rfl⟩
      refine ⟨P2, R2, Sf2, σf2, Mf2, s2, mv2, ?_, ?_, x3, ext_t y4 x4, vF_t f15 (vF_t y5 x5), x6⟩
      · rw [← x1, ← y1]
        simp only [X4_visit_L9, X4_visit_B9, X4_visit_J37]
        rw [h13, if_neg (by rw [pu_le (by omega) (by omega)]; omega), nI_0]
        by_cases q : X2_doing (am_sub P 1) (nI h) = 4
        · rw [if_pos q, hbb, if_pos (show decide (dg (am_sub P 1) h = nI 4) = true from decide_eq_true q)]
        · rw [if_neg q, hbb, if_neg (show ¬ decide (dg (am_sub P 1) h = nI 4) = true by rw [decide_eq_true_eq]; exact q)]
          rfl
      · rw [← x2, ← y2]
        simp only [X8_from_L9, X8_from_B9]
        rw [hR3, if_neg (by rw [pu_le (by omega) (by omega)]; omega), if_pos z2, b1]
        dsimp only [Option.bind]
        rw [show (4 : Int32) = nI 4 from rfl, hA, nI_0]
    · refine ⟨P, R, Sf, σf, Mf, s, mv, vspent n hn m8 m2 h13 z1 (d + 1) h (K + 1) (by omega) (by omega), ?_, hI, ext_r, vF_r, hm⟩
      simp only [X8_from_L9, X8_from_B9]
      rw [hR3, if_neg (by rw [pu_le (by omega) (by omega)]; omega), if_neg (by rw [z2]; decide)]
/-- on the way through the STATES -/
def xI (n : Nat) (τ : Nat → Int64) (P R : am_M) (N m : Nat) (kd nx ot : Nat → Nat) (G : Nat → Nat → List Int32) (Sf σf : Nat → am_M) (Mf : Nat → Nat) (s : Nat) : Prop := spI n P R N m kd G Sf σf Mf s ∧ rB n (am_sub τ 1) (am_sub P 1) R N m kd nx ot G ∧ P 1 15 = 0 ∧ (∃ M', M' ≤ 320 ∧ R 15 64 = nI M') ∧ R 0 35 = -1 ∧ (∀ x, x < 320 → P 27 x = R 24 x) ∧ ((P 0 11 = 0 ∧ R 0 48 = 0) ∨ (P 0 11 = 1 ∧ R 0 48 = 1))
theorem visit_both (n : Nat) (hn : 2200 < n) {τ : Nat → Int64} {P R : am_M} {N m s i : Nat} {kd nx ot : Nat → Nat} {G : Nat → Nat → List Int32} {Sf σf : Nat → am_M} {Mf : Nat → Nat} (hX : xI n τ P R N m kd nx ot G Sf σf Mf s) (hi : i < s) (h11 : P 0 11 = 0) :
    ∃ P' R' Sf' σf' Mf' s' mv, X4_visit n τ P (nI i) = vfin n P' (nI i) mv ∧ X8_from n R (nI i) = some R' ∧ vI n τ P' R' N m kd nx ot G Sf' σf' Mf' s' i ∧ ext Sf σf Mf s Sf' σf' Mf' s' ∧ vF P P' R R' i ∧ mvr mv P' R' i := by
  obtain ⟨h1, h2, h3, h4, h5, h6, h7⟩ := hX
  have m8 := h2.2.2.2.1
  have s200 := h1.1
  obtain ⟨sn1, sn2⟩ := spI_sn h1 hi
  obtain ⟨P1, l1, l2, l3, l4⟩ := load_eq n hn m8 (show i < 200 by omega) sn2 sn1
  obtain ⟨R1, hR1⟩ : ∃ R1, R1 = sC R 23 (upd (R 23) i 1) := ⟨_, rfl⟩
  have c01 : ∀ c, c ≠ 23 → R1 c = R c := fun c hc => by rw [hR1, sC_ne hc]
  have hI1 : vI n τ P1 R1 N m kd nx ot G Sf σf Mf s i := by
    refine ⟨spI_congr (fun c q1 q2 => l3 c (by omega)) (by rw [l3 0 (by omega)]) (by rw [l3 0 (by omega)]) (c01 21 (by omega)) (c01 22 (by omega)) (by rw [c01 0 (by omega)]) h1, rB_congr (S := am_sub P 1) (σ := R) (fun c q1 q2 => l3 (1 + c) (by omega)) (congrFun (l3 1 (by omega)) 1) (congrFun (l3 1 (by omega)) 2) (fun c q1 q2 => c01 c (by omega)) (congrFun (c01 0 (by omega)) 3) (congrFun (c01 0 (by omega)) 4) h2, by rw [l3 1 (by omega)]; exact h3, hi, l2, by rw [c01 15 (by omega)]; exact h4, by rw [c01 0 (by omega)]; exact h5, fun x hx => by rw [l3 27 (by omega), c01 24 (by omega)]; exact h6 x hx, by rw [l3 0 (by omega), c01 0 (by omega)]; exact h7⟩
  have f1 : vF P P1 R R1 i := by
    refine ⟨fun c q1 q2 q3 => l3 c (by omega), fun k q1 q2 => by rw [l3 0 (by omega)], fun k q => by rw [l3 1 (by omega)], fun c q1 q2 => c01 c (by omega), fun k q => by rw [c01 0 (by omega)], fun j q => ?_⟩
    rw [hR1]
    exact upd_ne q
  obtain ⟨P2, R2, Sf2, σf2, Mf2, s2, mv, x1, x2, x3, x4, x5, x6⟩ := vout n hn m 0 n n 0 P1 R1 Sf σf Mf s (by omega) (by omega) (by omega) hI1 (Or.inl ⟨rfl, by rw [hR1]; exact upd_eq, by rw [l3 0 (by omega)]; exact h11⟩)
  refine ⟨P2, R2, Sf2, σf2, Mf2, s2, mv, ?_, ?_, x3, x4, vF_t f1 x5, x6⟩
  · unfold X4_visit
    rw [l1]
    dsimp only [Option.bind]
    rw [← nI_0] at x1 ⊢
    exact x1
  · unfold X8_from
    rw [if_neg (pu_g (n := 201) (by omega) (by omega)), nI_clamp (by omega), ← hR1, ← nI_0]
    exact x2
