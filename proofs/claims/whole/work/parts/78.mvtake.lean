/-! A MOVE THAT TAKES A WORD; one that ends with 'done' -/
theorem am_sub_eq {S S' : am_M} (h : ∀ c, 2 ≤ c → S' c = S c) : am_sub S' 2 = am_sub S 2 := by
  funext k
  exact h (2 + k) (by omega)
theorem take_tail (n : Nat) (hn : 2200 < n) {τ : Nat → Int64} {S σ q4 r4 : am_M} {N m h t M a src : Nat} {kd nx ot : Nat → Nat} {G : Nat → Nat → List Int32} (hb : rB n τ S σ N m kd nx ot G) (hq : rQ S σ N m kd G M) (hg : S 0 15 = 0) (hz : zr σ m) (hh : h < m) (ha : act S σ N m kd G h t) (hk : kd t = 3 ∨ kd t = 4) (hsrc : src < m) (haM : a < M)
    (q4c : ∀ c, c ≠ 0 → ¬ (8 ≤ c ∧ c ≤ 10) → q4 c = S c) (q40 : ∀ k, k ≠ 12 → q4 0 k = S 0 k) (q412 : q4 0 12 = -1)
    (r4c : ∀ c, c ≠ 0 → ¬ (16 ≤ c ∧ c ≤ 19) → r4 c = σ c) (r40 : ∀ k, k < 40 ∨ 42 < k → r4 0 k = σ 0 k) (rany : (kd t = 4 → r4 0 40 = nI h ∧ r4 0 41 = nI src ∧ r4 0 42 = nI t) ∧ (kd t ≠ 4 → r4 0 40 = -1))
    (hclk : ∀ B, B ≤ 1000000 → rClk S σ M B → ∀ j, j < 8 → (∃ a, a ≤ B + 1000 ∧ q4 8 j = nI a ∧ r4 17 j = nI a) ∧ q4 9 j = r4 18 j ∧ ∃ a, a ≤ B + 1000 ∧ q4 10 j = nI a ∧ r4 19 j = nI a) :
    ∃ S1 S' σ', X2_take_J77 n q4 (nI h) (nI src) (nI a) = some S1 ∧ X2_goOn n τ S1 = some S' ∧ X8_take_J95 n r4 (nI h) (nI src) (nI a) (σ 15 (65 + 6 * a + 3)) (σ 15 (65 + 6 * a + 4)) = some σ' ∧ mvd n τ S σ S' σ' N m kd nx ot G M (M - 1) := by
  have m8 := hb.2.2.2.1
  have hN4 := hb.1.1
  have htN := ha.2.1
  obtain ⟨⟨k1, k2, k3⟩, -, ⟨v, v1, v2, v3⟩, -, -, -, bd⟩ := hb.1.2.2.2 t htN
  obtain ⟨bb, g1, g2, g3, g4⟩ := bd (by omega)
  have hw := hq.2.1
  have hsub : ∀ c, c ≤ 4 → (am_sub q4 2) c = (am_sub S 2) c := fun c hc => q4c (2 + c) (by omega) (by omega)
  have hM3 := hw.1
  obtain ⟨bw, to, lo, be, z1, z2, z3, z4, e1, e2, e3, e4, e5, e6, e7⟩ := hw.2.2.2 a haM
  have hw4 : rW (am_sub q4 2) r4 M := rW_congr (σw := am_sub S 2) (σ := σ) (fun c hc => hsub c (by omega)) (fun j _ => by rw [r4c 15 (by omega) (by omega)]) hw
  have hwt := rW_take hw4 haM
  -- the class
  obtain ⟨W, hW⟩ : ∃ W, W = sC (mvW (am_sub q4 2) a M) 0 (am_u ((am_sub q4 2) 0) 4 (nI (M - 1))) := ⟨_, rfl⟩
  rw [← hW] at hwt
  obtain ⟨R, hR⟩ : ∃ R, R = am_put q4 2 5 W := ⟨_, rfl⟩
  have R1 : R 1 = S 1 := by rw [hR]; exact q4c 1 (by omega) (by omega)
  have R0 : R 0 = q4 0 := by rw [hR]
  have Rc : ∀ c, 11 ≤ c → R c = S c := fun c hc => by
    rw [hR, am_put_ne (by omega)]
    exact q4c c (by omega) (by omega)
  have Rw : ∀ c, c ≤ 4 → R (2 + c) = W c := fun c hc => by
    rw [hR]
    rcases (show c = 0 ∨ c = 1 ∨ c = 2 ∨ c = 3 ∨ c = 4 by omega) with rfl | rfl | rfl | rfl | rfl <;> rfl
  have R8 : R 8 = q4 8 ∧ R 9 = q4 9 ∧ R 10 = q4 10 := by rw [hR]; exact ⟨rfl, rfl, rfl⟩
  have hkind : X3_kindOf (am_sub R 11) (nI t) = nI (kd t) := kindOf_eq (N := N) (by rw [Rc 11 (by omega)]; exact hb.1.2.1) hN4 htN (by rw [Rc 12 (by omega)]; exact k2)
  have hrec := receive_eq (R := R) (h := h) (t := t) (k := kd t) (v := v) (b := bb) (sz := lo) (src := nI src) (val := σ 15 (65 + 6 * a + 3)) (by omega) (by omega) (by rw [R1]; exact ha.2.2.2.1) (by omega) hkind v1 (by rw [Rc 15 (by omega)]; exact v2) (by omega) (by rw [Rc 16 (by omega)]; exact g3) (by omega)
  have c1 : X2_take_J77 n q4 (nI h) (nI src) (nI a) = X2_receive R (nI h) (nI src) (σ 15 (65 + 6 * a + 3)) (nI lo) := by
    unfold X2_take_J77
    rw [X6_remove_eq n (am_sub q4 2) M a hw4.2.1 hM3 haM (by omega)]
    dsimp only [Option.bind]
    rw [← hW, ← hR, jat_nI (by omega) (by omega), rWd_size (σw := am_sub q4 2) (show a < 320 by omega) (by rw [hsub 1 (by omega)]; exact e5) z1 z2 z3 z4, show q4 5 a = σ 15 (65 + 6 * a + 3) by rw [q4c 5 (by omega) (by omega)]; exact e7]
    cases X2_receive R (nI h) (nI src) (σ 15 (65 + 6 * a + 3)) (nI lo) <;> rfl
  -- the reference
  obtain ⟨Q, hQ⟩ : ∃ Q, Q = stN r4 (tkN (r4 15) M a) (mvT (r4 20) a (M - 1)) := ⟨_, rfl⟩
  rw [← hQ] at hwt
  have Qc : ∀ c, c ≠ 15 → c ≠ 20 → Q c = r4 c := fun c h1 h2 => by
    rw [hQ]
    unfold stN
    rw [sC_ne h2, sC_ne h1]
  have Q15 : Q 15 = tkN (σ 15) M a := by
    rw [hQ]
    show tkN (r4 15) M a = _
    rw [r4c 15 (by omega) (by omega)]
  have Q20 : Q 20 = mvT (σ 20) a (M - 1) := by
    rw [hQ]
    show mvT (r4 20) a (M - 1) = _
    rw [r4c 20 (by omega) (by omega)]
  have hQ64 : ∀ j, j < 64 → tkN (σ 15) M a j = σ 15 j := fun j hj => by
    unfold tkN zrN
    rw [if_neg (by omega), upd_ne (by omega)]
    unfold mvN
    rw [if_neg (by omega)]
  have hne : ∀ k, k < M - 1 → tkN (σ 15) M a (65 + 6 * k + 0) ≠ tkN (σ 15) M a (65 + 6 * k + 1) := fun k hk => by
    have hN : ∀ j, j < 6 → tkN (σ 15) M a (65 + 6 * k + j) = if a ≤ k then σ 15 (65 + 6 * (k + 1) + j) else σ 15 (65 + 6 * k + j) := fun j hj => by
      unfold tkN zrN upd mvN
      rw [if_neg (by omega), if_neg (by omega)]
      by_cases hak : a ≤ k
      · rw [if_pos (by omega), if_pos hak]
        congr 1
        omega
      · rw [if_neg (by omega), if_neg hak]
    rw [hN 0 (by omega), hN 1 (by omega)]
    by_cases hak : a ≤ k
    · rw [if_pos hak, if_pos hak]; exact hq.2.2 (k + 1) (by omega)
    · rw [if_neg hak, if_neg hak]; exact hq.2.2 k (by omega)
  have hasE := has_eq n (R := Q) (h := h) (t := t) (v := v) (b := bb) (sz := lo) (src := nI src) (val := σ 15 (65 + 6 * a + 3)) (by omega) (by omega) (by rw [Q15, hQ64 _ (by omega)]; exact ha.2.2.2.2.1) v1 (by rw [Qc 9 (by omega) (by omega), r4c 9 (by omega) (by omega)]; exact v3) (by omega) (by rw [Qc 10 (by omega) (by omega), r4c 10 (by omega) (by omega)]; exact g4) (by omega)
  have c2 : X8_take_J95 n r4 (nI h) (nI src) (nI a) (σ 15 (65 + 6 * a + 3)) (σ 15 (65 + 6 * a + 4)) = X8_has n Q (nI h) (nI src) (σ 15 (65 + 6 * a + 3)) (nI lo) := by
    unfold X8_take_J95
    rw [X8_takeAway_eq n r4 M a hw4.2.2.1 hM3 haM (by omega)]
    dsimp only [Option.bind]
    rw [← hQ, e3]
    cases X8_has n Q (nI h) (nI src) (σ 15 (65 + 6 * a + 3)) (nI lo) <;> rfl
  -- the clocks
  have clkT : ∀ (S1 σ1 : am_M), (∀ c, 6 ≤ c → c ≤ 10 → S1 c = R c) → (∀ k, k ≤ 11 → S1 0 k = S 0 k) → (∀ c, 17 ≤ c → c ≤ 20 → σ1 c = Q c) → (∀ k, k < 40 → σ1 0 k = σ 0 k) → ∀ B, B ≤ 1000000 → rClk S σ M B → rClk S1 σ1 (M - 1) (B + 1000) := by
    intro S1 σ1 h1 h2 h3 h4 B hB hc
    have hcc := hclk B hB hc
    obtain ⟨r1, r2, r3, r4', ⟨x, x1, x2, x3⟩, ⟨y, y1, y2, y3⟩⟩ := hc
    refine ⟨fun j hj => ?_, fun j hj => ?_, fun j hj => ?_, fun k hk => ?_, ⟨x, x1, ?_, ?_⟩, ⟨y, y1, ?_, ?_⟩⟩
    · rw [h1 8 (by omega) (by omega), h3 17 (by omega) (by omega), R8.1, Qc 17 (by omega) (by omega)]; exact (hcc j hj).1
    · rw [h1 9 (by omega) (by omega), h3 18 (by omega) (by omega), R8.2.1, Qc 18 (by omega) (by omega)]; exact (hcc j hj).2.1
    · rw [h1 10 (by omega) (by omega), h3 19 (by omega) (by omega), R8.2.2, Qc 19 (by omega) (by omega)]; exact (hcc j hj).2.2
    · rw [h1 6 (by omega) (by omega), h3 20 (by omega) (by omega), show R 6 = W 4 from Rw 4 (by omega), Q20, hW, sC_ne (by omega)]
      unfold mvW mvT
      rw [if_pos (by omega), hsub 4 (by omega)]
      show ∃ a, a ≤ B + 1000 ∧ (if _ ≤ k ∧ k + 1 < M then S 6 (k + 1) else S 6 k) = nI a ∧ _
      by_cases hak : a ≤ k
      · obtain ⟨z, z1, z2, z3⟩ := r4' (k + 1) (by omega)
        exact ⟨z, by omega, by rw [if_pos ⟨hak, by omega⟩]; exact z2, by rw [if_pos ⟨hak, by omega⟩]; exact z3⟩
      · obtain ⟨z, z1, z2, z3⟩ := r4' k (by omega)
        exact ⟨z, by omega, by rw [if_neg (fun q => hak q.1)]; exact z2, by rw [if_neg (fun q => hak q.1)]; exact z3⟩
    · rw [h2 3 (by omega)]; exact x2
    · rw [h4 5 (by omega)]; exact x3
    · rw [h2 4 (by omega)]; exact y2
    · rw [h4 6 (by omega)]; exact y3
  -- the fields
  obtain ⟨F0, hF0⟩ : ∃ F0, F0 = rcF (R 0) (kd t) h t (nI src) := ⟨_, rfl⟩
  rw [← hF0] at hrec
  have F0k : ∀ k, k < 12 ∨ 14 < k → F0 k = S 0 k := fun k hk => by
    rw [hF0, R0]
    unfold rcF
    by_cases c : kd t = 4
    · rw [if_pos c, am_u_ne (by omega), am_u_ne (by omega), am_u_ne (by omega)]; exact q40 k (by omega)
    · rw [if_neg c]; exact q40 k (by omega)
  have anyT : ∀ (S1 σ1 : am_M), S1 0 12 = F0 12 → S1 0 13 = F0 13 → S1 0 14 = F0 14 → σ1 0 = r4 0 → anyR S1 σ1 m N kd := by
    intro S1 σ1 h1 h2 h3 h4
    unfold anyR
    rw [h1, h2, h3, h4, hF0, R0]
    unfold rcF
    by_cases c : kd t = 4
    · rw [if_pos c]
      obtain ⟨x1, x2, x3⟩ := rany.1 c
      exact Or.inr ⟨h, t, src, rfl, x1, rfl, x3, rfl, x2, hh, htN, c, hsrc⟩
    · rw [if_neg c]
      exact Or.inl ⟨q412, rany.2 c⟩
  by_cases hlo : lo ≤ bb
  · rw [if_pos hlo] at hrec hasE
    obtain ⟨S1, hS1⟩ : ∃ S1, S1 = sC (sC R 1 (rcS (R 1) h v (σ 15 (65 + 6 * a + 3)) (nI src))) 0 (am_u F0 15 (F0 15 ||| (1 <<< (nI h &&& 31)))) := ⟨_, rfl⟩
    rw [← hS1] at hrec
    obtain ⟨σ1, hσ1⟩ : ∃ σ1, σ1 = sC Q 15 (rcM (Q 15) h v (σ 15 (65 + 6 * a + 3)) (nI src)) := ⟨_, rfl⟩
    rw [← hσ1] at hasE
    have S1c : ∀ c, 2 ≤ c → S1 c = R c := fun c hc => by rw [hS1, sC_ne (by omega), sC_ne (by omega)]
    have S1f : ∀ k, k ≠ 15 → S1 0 k = F0 k := fun k hk => by
      rw [hS1]
      exact am_u_ne hk
    have S1r : S1 1 = rcS (S 1) h v (σ 15 (65 + 6 * a + 3)) (nI src) := by rw [hS1, ← R1]
    have S115 : S1 0 15 = nI (2 ^ h) := by
      rw [hS1]
      show F0 15 ||| (1 <<< (nI h &&& 31)) = _
      rw [F0k 15 (by omega), hg, ← nI_0, (bit_or 0 (by omega) h (by omega)).1, Nat.zero_or]
    have σ15 : σ1 15 = rcM (tkN (σ 15) M a) h v (σ 15 (65 + 6 * a + 3)) (nI src) := by rw [hσ1, ← Q15]
    have σ1c : ∀ c, c ≠ 15 → σ1 c = Q c := fun c hc => by rw [hσ1, sC_ne hc]
    have σc : ∀ c, c ≠ 0 → c < 15 ∨ 20 < c → σ1 c = σ c := fun c h1 h2 => by
      rw [σ1c c (by omega), Qc c (by omega) (by omega)]
      exact r4c c h1 (by omega)
    have σ10 : σ1 0 = r4 0 := by rw [σ1c 0 (by omega), Qc 0 (by omega) (by omega)]
    have hrow : ∀ j, j < 8 → σ1 15 (8 * h + j) = rcM (σ 15) h v (σ 15 (65 + 6 * a + 3)) (nI src) (8 * h + j) := fun j hj => by
      rw [σ15]
      unfold rcM upd
      rw [hQ64 _ (by omega)]
    have S1cS : ∀ c, 11 ≤ c → S1 c = S c := fun c hc => by rw [S1c c (by omega)]; exact Rc c hc
    have hb1 : rB n τ S1 σ1 N m kd nx ot G := rB_congr (S := S) (σ := σ) (fun c q1 _ => S1cS c q1) ((S1f 1 (by omega)).trans (F0k 1 (by omega))) ((S1f 2 (by omega)).trans (F0k 2 (by omega))) (fun c q1 q2 => σc c (by omega) (by omega)) (by rw [σ10]; exact r40 3 (by omega)) (by rw [σ10]; exact r40 4 (by omega)) hb
    have rcMne : ∀ (g : Nat → Int32) (x : Nat) (val src : Int32), ¬ (8 * h ≤ x ∧ x < 8 * h + 8) → rcM g h v val src x = g x := fun g x val src hx => by
      unfold rcM
      rw [upd_ne (by omega), upd_ne (by omega)]
    obtain ⟨S', σ', d1, d2, d3⟩ := fin1m n hn (S1 := S1) (σ1 := σ1) (M' := M - 1) hh hb hq hz ha S1cS (fun k hk => (S1f k (by omega)).trans (F0k k (by omega))) (fun j hj hjh i hi => by
        rw [S1r]
        unfold rcS
        rw [upd_ne (by omega), upd_ne (by omega)]) σc (fun k hk => by rw [σ10]; exact r40 k hk) (fun x hx hxh => by
        rw [σ15, rcMne _ _ _ _ hxh]
        exact hQ64 x hx) (rW_congr (σw := W) (σ := Q) (fun c hc => by rw [show (am_sub S1 2) c = S1 (2 + c) from rfl, S1c _ (by omega)]; exact Rw c (by omega)) (fun j hj => by rw [σ15, rcMne _ _ _ _ (by omega), Q15]) hwt) (fun k hk => by
        rw [σ15, rcMne _ _ _ _ (by omega), rcMne _ _ _ _ (by omega)]
        exact hne k hk) (by omega) (fun B hB hc => clkT S1 σ1 (fun c h1 h2 => S1c c (by omega)) (fun k hk => (S1f k (by omega)).trans (F0k k (by omega))) (fun c h1 h2 => σ1c c (by omega)) (fun k hk => by rw [σ10]; exact r40 k (by omega)) B hB hc) (anyT S1 σ1 (S1f 12 (by omega)) (S1f 13 (by omega)) (S1f 14 (by omega)) σ10) (rec_pend v1 ha hb1 (fun j _ => by rw [S1r]) hrow) S115
    exact ⟨S1, S', σ', c1.trans hrec, d1, (c2.trans hasE).trans d2, d3⟩
  · rw [if_neg hlo] at hrec hasE
    obtain ⟨S1, hS1⟩ : ∃ S1, S1 = sC (sC R 1 (stop4 (rcS (R 1) h v (σ 15 (65 + 6 * a + 3)) (nI src)) h)) 0 F0 := ⟨_, rfl⟩
    rw [← hS1] at hrec
    obtain ⟨σ1, hσ1⟩ : ∃ σ1, σ1 = sC Q 15 (upd (rcM (Q 15) h v (σ 15 (65 + 6 * a + 3)) (nI src)) (8 * h + 1) 1) := ⟨_, rfl⟩
    rw [← hσ1] at hasE
    have S1c : ∀ c, 2 ≤ c → S1 c = R c := fun c hc => by rw [hS1, sC_ne (by omega), sC_ne (by omega)]
    have S1f : S1 0 = F0 := by rw [hS1]
    have S1r : S1 1 = stop4 (rcS (S 1) h v (σ 15 (65 + 6 * a + 3)) (nI src)) h := by rw [hS1, ← R1]
    have σ15 : σ1 15 = upd (rcM (tkN (σ 15) M a) h v (σ 15 (65 + 6 * a + 3)) (nI src)) (8 * h + 1) 1 := by rw [hσ1, ← Q15]
    have σ1c : ∀ c, c ≠ 15 → σ1 c = Q c := fun c hc => by rw [hσ1, sC_ne hc]
    have σc : ∀ c, c ≠ 0 → c < 15 ∨ 20 < c → σ1 c = σ c := fun c h1 h2 => by
      rw [σ1c c (by omega), Qc c (by omega) (by omega)]
      exact r4c c h1 (by omega)
    have σ10 : σ1 0 = r4 0 := by rw [σ1c 0 (by omega), Qc 0 (by omega) (by omega)]
    have hrow : ∀ j, j < 8 → σ1 15 (8 * h + j) = upd (rcM (σ 15) h v (σ 15 (65 + 6 * a + 3)) (nI src)) (8 * h + 1) 1 (8 * h + j) := fun j hj => by
      rw [σ15]
      unfold rcM upd
      rw [hQ64 _ (by omega)]
    have S1cS : ∀ c, 11 ≤ c → S1 c = S c := fun c hc => by rw [S1c c (by omega)]; exact Rc c hc
    have rcMne : ∀ (g : Nat → Int32) (x : Nat) (val src : Int32), ¬ (8 * h ≤ x ∧ x < 8 * h + 8) → upd (rcM g h v val src) (8 * h + 1) 1 x = g x := fun g x val src hx => by
      unfold rcM
      rw [upd_ne (by omega), upd_ne (by omega), upd_ne (by omega)]
    obtain ⟨hst, hph⟩ := rec_stop (S1 := S1) (σ1 := σ1) hN4 v1 ha (fun j _ => by rw [S1r]) hrow
    obtain ⟨S', d1, d3⟩ := fin0m n hn (S1 := S1) (σ1 := σ1) (M' := M - 1) (τ := τ) (nx := nx) (ot := ot) hh hb hq hz ha S1cS (fun k hk => by rw [S1f]; exact F0k k (by omega)) (fun j hj hjh i hi => by
        rw [S1r]
        unfold stop4 rcS
        rw [upd_ne (by omega), upd_ne (by omega), upd_ne (by omega), upd_ne (by omega), upd_ne (by omega), upd_ne (by omega)]) σc (fun k hk => by rw [σ10]; exact r40 k hk) (fun x hx hxh => by
        rw [σ15, rcMne _ _ _ _ hxh]
        exact hQ64 x hx) (rW_congr (σw := W) (σ := Q) (fun c hc => by rw [show (am_sub S1 2) c = S1 (2 + c) from rfl, S1c _ (by omega)]; exact Rw c (by omega)) (fun j hj => by rw [σ15, rcMne _ _ _ _ (by omega), Q15]) hwt) (fun k hk => by
        rw [σ15, rcMne _ _ _ _ (by omega), rcMne _ _ _ _ (by omega)]
        exact hne k hk) (by omega) (fun B hB hc => clkT S1 σ1 (fun c h1 h2 => S1c c (by omega)) (fun k hk => by rw [S1f]; exact F0k k (by omega)) (fun c h1 h2 => σ1c c (by omega)) (fun k hk => by rw [σ10]; exact r40 k (by omega)) B hB hc) (anyT S1 σ1 (by rw [S1f]) (by rw [S1f]) (by rw [S1f]) σ10) hst (by omega) (by rw [S1f, F0k 15 (by omega)]; exact hg)
    exact ⟨S1, S', σ1, c1.trans hrec, d1, c2.trans hasE, d3⟩
