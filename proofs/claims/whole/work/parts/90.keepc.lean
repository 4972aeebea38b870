/-! KEEPING: the class -/
theorem hsh_w (n : Nat) {P P' : am_M} {M : Nat} (hM : M ≤ 320) (h : P 3 4 = nI M) (h' : P' 3 4 = nI M) (he : ∀ k, k < M → P' 4 k = P 4 k ∧ P' 5 k = P 5 k ∧ P' 6 k = P 6 k) : ∀ (d j K : Nat) (a : Int32), j + d = M → d < K → ∃ v, X4_hashOfScene_L49 n P K a (nI j) = some v ∧ X4_hashOfScene_L49 n P' K a (nI j) = some v := by
  intro d
  induction d with
  | zero =>
    intro j K a hj hK
    obtain ⟨K, rfl⟩ : ∃ J, K = J + 1 := ⟨K - 1, by omega⟩
    refine ⟨a ^^^ (am_ushr a 15), ?_, ?_⟩
    · simp only [X4_hashOfScene_L49, X4_hashOfScene_B49]
      rw [h, if_pos (by rw [pu_le (by omega) (by omega)]; omega)]
    · simp only [X4_hashOfScene_L49, X4_hashOfScene_B49]
      rw [h', if_pos (by rw [pu_le (by omega) (by omega)]; omega)]
  | succ d ih =>
    intro j K a hj hK
    obtain ⟨K, rfl⟩ : ∃ J, K = J + 1 := ⟨K - 1, by omega⟩
    obtain ⟨e1, e2, e3⟩ := he j (by omega)
    simp only [X4_hashOfScene_L49, X4_hashOfScene_B49]
    rw [h, h', if_neg (by rw [pu_le (by omega) (by omega)]; omega), if_neg (by rw [pu_le (by omega) (by omega)]; omega), jat_nI (by omega) (by omega), jat_nI (by omega) (by omega), jat_nI (by omega) (by omega), jat_nI (by omega) (by omega), jat_nI (by omega) (by omega), jat_nI (by omega) (by omega), e1, e2, e3, nI_1]
    exact ih (j + 1) K _ (by omega) (by omega)
theorem hsh_r (n : Nat) (hn : 2200 < n) {P P' : am_M} {m M : Nat} (m8 : m ≤ 8) (hM : M ≤ 320) (hm : P 0 13 = nI m) (hm' : P' 0 13 = nI m) (h : P 3 4 = nI M) (h' : P' 3 4 = nI M) (hr : ∀ k, k < 13 * m → P' 2 k = P 2 k) (he : ∀ k, k < M → P' 4 k = P 4 k ∧ P' 5 k = P 5 k ∧ P' 6 k = P 6 k) : ∀ (d j K : Nat) (a : Int32), j + d = 13 * m → d < K → ∃ v, X4_hashOfScene_L13 n P K a (nI j) = some v ∧ X4_hashOfScene_L13 n P' K a (nI j) = some v := by
  intro d
  induction d with
  | zero =>
    intro j K a hj hK
    obtain ⟨K, rfl⟩ : ∃ J, K = J + 1 := ⟨K - 1, by omega⟩
    simp only [X4_hashOfScene_L13, X4_hashOfScene_B13]
    rw [hm, hm', show nI m * 13 = nI (m * 13) from pk_mul m 13, if_pos (by rw [pu_le (by omega) (by omega)]; omega), if_pos (by rw [pu_le (by omega) (by omega)]; omega), ← nI_0]
    exact hsh_w n hM h h' he M 0 n a (by omega) (by omega)
  | succ d ih =>
    intro j K a hj hK
    obtain ⟨K, rfl⟩ : ∃ J, K = J + 1 := ⟨K - 1, by omega⟩
    simp only [X4_hashOfScene_L13, X4_hashOfScene_B13]
    rw [hm, hm', show nI m * 13 = nI (m * 13) from pk_mul m 13, if_neg (by rw [pu_le (by omega) (by omega)]; omega), if_neg (by rw [pu_le (by omega) (by omega)]; omega), jat_nI (by omega) (by omega), jat_nI (by omega) (by omega), hr j (by omega), nI_1]
    exact ih (j + 1) K _ (by omega) (by omega)
theorem hash_eq (n : Nat) (hn : 2200 < n) {P : am_M} {m M : Nat} (m8 : m ≤ 8) (hM : M ≤ 320) (hm : P 0 13 = nI m) (h : P 3 4 = nI M) : ∃ v, X4_hashOfScene n P = some v ∧ ∀ Q, Q 0 13 = nI m → eqS m (am_sub P 1) (am_sub Q 1) M → X4_hashOfScene n Q = some v := by
  obtain ⟨v, v1, -⟩ := hsh_r n hn m8 hM hm hm h h (fun _ _ => rfl) (fun _ _ => ⟨rfl, rfl, rfl⟩) (13 * m) 0 n (nI M) (by omega) (by omega)
  refine ⟨v, ?_, fun Q hQ ⟨q1, q2, q3⟩ => ?_⟩
  · unfold X4_hashOfScene
    rw [h, ← nI_0]
    exact v1
  · obtain ⟨w, w1, w2⟩ := hsh_r n hn m8 hM hm hQ h q2 q1 q3 (13 * m) 0 n (nI M) (by omega) (by omega)
    unfold X4_hashOfScene
    rw [show Q 3 4 = nI M from q2, ← nI_0, w2, ← w1, v1]
/-- the scene is the STATE that stands at i -/
def isS (m : Nat) (S P : am_M) (Mi M : Nat) : Prop := Mi = M ∧ eqS m S (am_sub P 1) M
theorem isw_loop (n : Nat) {P S : am_M} {p M : Nat} (hM : M ≤ 320) (hp : p + M ≤ 19900) (h : P 3 4 = nI M) (hw : ∀ k, k < M → P 21 (3 * (p + k)) = S 3 k ∧ P 21 (3 * (p + k) + 1) = S 4 k ∧ P 21 (3 * (p + k) + 2) = S 5 k) : ∀ (d j K : Nat), j + d = M → d < K → X4_hasWordsOfScene_L23 n P K (nI p) (nI j) = ifP (∀ k, j ≤ k → k < M → P 4 k = S 3 k ∧ P 5 k = S 4 k ∧ P 6 k = S 5 k) (some true) (some false) := by
  intro d
  induction d with
  | zero =>
    intro j K hj hK
    obtain ⟨K, rfl⟩ : ∃ J, K = J + 1 := ⟨K - 1, by omega⟩
    simp only [X4_hasWordsOfScene_L23, X4_hasWordsOfScene_B23]
    rw [h, if_pos (by rw [pu_le (by omega) (by omega)]; omega), ifP_pos (fun k h1 h2 => by omega)]
  | succ d ih =>
    intro j K hj hK
    obtain ⟨K, rfl⟩ : ∃ J, K = J + 1 := ⟨K - 1, by omega⟩
    obtain ⟨w1, w2, w3⟩ := hw j (by omega)
    simp only [X4_hasWordsOfScene_L23, X4_hasWordsOfScene_B23]
    rw [h, if_neg (by rw [pu_le (by omega) (by omega)]; omega), nI_add, show nI (p + j) * 3 = nI ((p + j) * 3) from pk_mul (p + j) 3, show (1 : Int32) = nI 1 from rfl, show (2 : Int32) = nI 2 from rfl, nI_add, nI_add, nI_add, jat_nI (by omega) (by omega), jat_nI (by omega) (by omega), jat_nI (by omega) (by omega), jat_nI (by omega) (by omega), jat_nI (by omega) (by omega), jat_nI (by omega) (by omega), show (p + j) * 3 = 3 * (p + j) by omega, w1, w2, w3, ih (j + 1) K (by omega) (by omega)]
    by_cases c1 : S 3 j = P 4 j
    · rw [if_pos c1]
      by_cases c2 : S 4 j = P 5 j
      · rw [if_pos c2]
        by_cases c3 : S 5 j = P 6 j
        · rw [if_pos c3]
          by_cases q : ∀ k, j + 1 ≤ k → k < M → P 4 k = S 3 k ∧ P 5 k = S 4 k ∧ P 6 k = S 5 k
          · rw [ifP_pos q, ifP_pos (fun k h1 h2 => by
              by_cases e : k = j
              · subst e; exact ⟨c1.symm, c2.symm, c3.symm⟩
              · exact q k (by omega) h2)]
          · rw [ifP_neg q, ifP_neg (fun r => q (fun k h1 h2 => r k (by omega) h2))]
        · rw [if_neg c3, ifP_neg (fun r => c3 (r j (Nat.le_refl _) (by omega)).2.2.symm)]
      · rw [if_neg c2, ifP_neg (fun r => c2 (r j (Nat.le_refl _) (by omega)).2.1.symm)]
    · rw [if_neg c1, ifP_neg (fun r => c1 (r j (Nat.le_refl _) (by omega)).1.symm)]
theorem isr_loop (n : Nat) (hn : 2200 < n) {P S : am_M} {m i Mi M : Nat} (m8 : m ≤ 8) (hi : i < 200) (hMi : Mi ≤ 320) (hM : M ≤ 320) (hm : P 0 13 = nI m) (h : P 3 4 = nI M) (hs : snC P m i Mi S) : ∀ (d j K : Nat), j + d = 13 * m → d < K → ∃ b, X4_isScene_L2 n P K (nI i) (nI j) = some b ∧ (b = true ↔ (∀ k, j ≤ k → k < 13 * m → P 2 k = S 1 k) ∧ Mi = M ∧ ∀ k, k < M → P 4 k = S 3 k ∧ P 5 k = S 4 k ∧ P 6 k = S 5 k) := by
  obtain ⟨s1, p, s2, s3, s4, s5⟩ := hs
  intro d
  induction d with
  | zero =>
    intro j K hj hK
    obtain ⟨K, rfl⟩ : ∃ J, K = J + 1 := ⟨K - 1, by omega⟩
    simp only [X4_isScene_L2, X4_isScene_B2]
    rw [hm, show nI m * 13 = nI (m * 13) from pk_mul m 13, if_pos (by rw [pu_le (by omega) (by omega)]; omega), nI_1, jat_nI (by omega) (by omega), jat_nI (by omega) (by omega), s3, s4]
    unfold X4_hasWordsOfScene
    rw [nI_asub, h]
    by_cases e : Mi = M
    · subst e
      rw [if_pos rfl, ← nI_0, isw_loop n hM s2 h s5 Mi 0 n (by omega) (by omega)]
      by_cases q : ∀ k, 0 ≤ k → k < Mi → P 4 k = S 3 k ∧ P 5 k = S 4 k ∧ P 6 k = S 5 k
      · rw [ifP_pos q]
        exact ⟨true, rfl, ⟨fun _ => ⟨fun k h1 h2 => by omega, rfl, fun k hk => q k (Nat.zero_le _) hk⟩, fun _ => rfl⟩⟩
      · rw [ifP_neg q]
        exact ⟨false, rfl, ⟨fun r => absurd r (by decide), fun r => absurd (fun k _ hk => r.2.2 k hk) q⟩⟩
    · rw [if_neg (fun q => e ((nI_eq (by omega) (by omega)).mp q))]
      exact ⟨false, rfl, ⟨fun r => absurd r (by decide), fun r => absurd r.2.1 e⟩⟩
  | succ d ih =>
    intro j K hj hK
    obtain ⟨K, rfl⟩ : ∃ J, K = J + 1 := ⟨K - 1, by omega⟩
    simp only [X4_isScene_L2, X4_isScene_B2]
    rw [hm, show nI m * 13 = nI (m * 13) from pk_mul m 13, if_neg (by rw [pu_le (by omega) (by omega)]; omega), show nI i * 104 = nI (i * 104) from pk_mul i 104, nI_add, jat_nI (by omega) (by omega), jat_nI (by omega) (by omega), show i * 104 + j = 104 * i + j by omega, s1 j (by omega), nI_1]
    by_cases c : S 1 j = P 2 j
    · rw [if_pos c]
      obtain ⟨b, b1, b2⟩ := ih (j + 1) K (by omega) (by omega)
      refine ⟨b, b1, b2.trans ⟨fun q => ⟨fun k h1 h2 => ?_, q.2⟩, fun q => ⟨fun k h1 h2 => q.1 k (by omega) h2, q.2⟩⟩⟩
      by_cases e : k = j
      · subst e; exact c.symm
      · exact q.1 k (by omega) h2
    · rw [if_neg c]
      exact ⟨false, rfl, ⟨fun r => absurd r (by decide), fun r => absurd (r.1 j (Nat.le_refl _) (by omega)).symm c⟩⟩
theorem isScene_eq (n : Nat) (hn : 2200 < n) {P S : am_M} {m i Mi M : Nat} (m8 : m ≤ 8) (hi : i < 200) (hMi : Mi ≤ 320) (hM : M ≤ 320) (hm : P 0 13 = nI m) (h : P 3 4 = nI M) (hs : snC P m i Mi S) : ∃ b, X4_isScene n P (nI i) = some b ∧ (b = true ↔ isS m S P Mi M) := by
  obtain ⟨b, b1, b2⟩ := isr_loop n hn m8 hi hMi hM hm h hs (13 * m) 0 n (by omega) (by omega)
  refine ⟨b, b1, b2.trans ⟨fun q => ⟨q.2.1, fun k hk => q.1 k (Nat.zero_le _) hk, h, q.2.2⟩, fun q => ⟨fun k _ hk => q.2.1 k hk, q.1, q.2.2.2⟩⟩⟩
/-! the table -/
def cntF (T : Nat → Int32) : Nat → Nat
  | 0 => 0
  | k + 1 => cntF T k + (if T k = 0 then 0 else 1)
theorem cntF_all {T : Nat → Int32} : ∀ k, (∀ p, p < k → T p ≠ 0) → cntF T k = k := by
  intro k
  induction k with
  | zero => intro _; rfl
  | succ k ih =>
    intro h
    show cntF T k + _ = k + 1
    rw [ih (fun p hp => h p (by omega)), if_neg (h k (by omega))]
theorem cntF_upd {T : Nat → Int32} {q : Nat} {x : Int32} (h0 : T q = 0) : ∀ k, cntF (upd T q x) k ≤ cntF T k + (if q < k then 1 else 0) := by
  intro k
  induction k with
  | zero => exact Nat.zero_le _
  | succ k ih =>
    show cntF (upd T q x) k + (if upd T q x k = 0 then 0 else 1) ≤ cntF T k + (if T k = 0 then 0 else 1) + (if q < k + 1 then 1 else 0)
    by_cases e : k = q
    · subst e
      rw [if_neg (show ¬ k < k by omega)] at ih
      rw [if_pos h0, if_pos (show k < k + 1 by omega)]
      split <;> omega
    · rw [upd_ne e]
      by_cases q2 : q < k
      · rw [if_pos q2] at ih
        rw [if_pos (show q < k + 1 by omega)]
        omega
      · rw [if_neg q2] at ih
        rw [if_neg (show ¬ q < k + 1 by omega)]
        omega
theorem step511 : ∀ q, q < 512 → (nI q + 1) &&& 511 = nI ((q + 1) % 512) := by decide +kernel
theorem and511 (v : Int32) : ∃ a, a < 512 ∧ v &&& 511 = nI a := by
  refine ⟨v.toBitVec.toNat % 512, Nat.mod_lt _ (by decide), ?_⟩
  rw [← Int32.toBitVec_inj, Int32.toBitVec_and]
  apply BitVec.eq_of_toNat_eq
  rw [BitVec.toNat_and, show ((511 : Int32).toBitVec.toNat) = 2 ^ 9 - 1 from rfl, Nat.and_two_pow_sub_one_eq_mod]
  show _ = (Int32.ofNat _).toBitVec.toNat
  rw [Int32.toBitVec_ofNat', BitVec.toNat_ofNat]
  have : v.toBitVec.toNat % 512 < 512 := Nat.mod_lt _ (by decide)
  omega
theorem sub1 (i : Nat) : nI (i + 1) - 1 = nI i := by
  rw [← nI_1, Int32.add_sub_cancel]
/-- the slot that is found -/
theorem slot_loop (n : Nat) (hn : 2200 < n) {P : am_M} {Sf : Nat → am_M} {Mf : Nat → Nat} {m s M : Nat} {hv : Int32} (m8 : m ≤ 8) (hs : s ≤ 200) (hM : M ≤ 320) (hm : P 0 13 = nI m) (h : P 3 4 = nI M) (hst : ∀ i, i < s → snC P m i (Mf i) (Sf i) ∧ Mf i ≤ 320) (hT : ∀ p, p < 512 → P 24 p = 0 ∨ ∃ i, i < s ∧ P 24 p = nI (i + 1)) : ∀ (d t K q : Nat), t + d = 512 → d < K → q < 512 → ∃ e, e ≤ d ∧ X4_slotOf_L8 n P K hv (nI q) (nI t) = some (nI ((q + e) % 512)) ∧ (∀ e', e' < e → ∃ i, i < s ∧ P 24 ((q + e') % 512) = nI (i + 1) ∧ ¬ (P 23 i = hv ∧ isS m (Sf i) P (Mf i) M)) ∧ (e < d → P 24 ((q + e) % 512) = 0 ∨ ∃ i, i < s ∧ P 24 ((q + e) % 512) = nI (i + 1) ∧ P 23 i = hv ∧ isS m (Sf i) P (Mf i) M) := by
  intro d
  induction d with
  | zero =>
    intro t K q ht hK hq
    obtain ⟨K, rfl⟩ : ∃ J, K = J + 1 := ⟨K - 1, by omega⟩
    refine ⟨0, Nat.le_refl _, ?_, fun e' he' => by omega, fun he => by omega⟩
    simp only [X4_slotOf_L8, X4_slotOf_B8]
    rw [if_pos (by rw [show (512 : Int32) = nI 512 from rfl, pu_le (by omega) (by omega)]; omega), Nat.add_zero, Nat.mod_eq_of_lt hq]
  | succ d ih =>
    intro t K q ht hK hq
    obtain ⟨K, rfl⟩ : ∃ J, K = J + 1 := ⟨K - 1, by omega⟩
    simp only [X4_slotOf_L8, X4_slotOf_B8, X4_slotOf_J56]
    rw [if_neg (by rw [show (512 : Int32) = nI 512 from rfl, pu_le (by omega) (by omega)]; omega), jat_nI (by omega) (by omega)]
    have q0 : (q + 0) % 512 = q := by rw [Nat.add_zero, Nat.mod_eq_of_lt hq]
    rcases hT q hq with hz | ⟨i, hi, hz⟩
    · rw [hz, if_pos (by decide)]
      exact ⟨0, Nat.zero_le _, by rw [q0], fun e' he' => by omega, fun _ => Or.inl (by rw [q0]; exact hz)⟩
    · obtain ⟨s1, s2⟩ := hst i hi
      rw [hz, sub1, if_neg (pu_nlt0 (by omega)), jat_nI (by omega) (by omega)]
      have next : ¬ (P 23 i = hv ∧ isS m (Sf i) P (Mf i) M) → ∃ e, e ≤ d + 1 ∧ X4_slotOf_L8 n P K hv ((nI q + 1) &&& 511) (nI t + 1) = some (nI ((q + e) % 512)) ∧ (∀ e', e' < e → ∃ i, i < s ∧ P 24 ((q + e') % 512) = nI (i + 1) ∧ ¬ (P 23 i = hv ∧ isS m (Sf i) P (Mf i) M)) ∧ (e < d + 1 → P 24 ((q + e) % 512) = 0 ∨ ∃ i, i < s ∧ P 24 ((q + e) % 512) = nI (i + 1) ∧ P 23 i = hv ∧ isS m (Sf i) P (Mf i) M) := by
        intro no
        obtain ⟨e, e1, e2, e3, e4⟩ := ih (t + 1) K ((q + 1) % 512) (by omega) (by omega) (Nat.mod_lt _ (by decide))
        have sh : ∀ x, ((q + 1) % 512 + x) % 512 = (q + (x + 1)) % 512 := fun x => by omega
        refine ⟨e + 1, by omega, ?_, fun e' he' => ?_, fun he => ?_⟩
        · rw [step511 q hq, nI_1, e2, sh]
        · by_cases z : e' = 0
          · subst z
            exact ⟨i, hi, by rw [q0]; exact hz, no⟩
          · obtain ⟨j, j1, j2, j3⟩ := e3 (e' - 1) (by omega)
            rw [sh, show e' - 1 + 1 = e' by omega] at j2
            exact ⟨j, j1, j2, j3⟩
        · have := e4 (by omega)
          rw [sh] at this
          exact this
      by_cases c : P 23 i = hv
      · rw [if_pos c]
        obtain ⟨b, b1, b2⟩ := isScene_eq n hn m8 (by omega) s2 hM hm h s1
        rw [b1]
        dsimp only [Option.bind]
        by_cases hb : b = true
        · rw [if_pos hb]
          exact ⟨0, Nat.zero_le _, by rw [q0], fun e' he' => by omega, fun _ => Or.inr ⟨i, hi, by rw [q0]; exact hz, c, b2.mp hb⟩⟩
        · rw [if_neg hb]
          exact next (fun r => hb (b2.mpr r.2))
      · rw [if_neg c]
        exact next (fun r => c r.1)
/-- the table stands -/
def tabI (n : Nat) (P : am_M) (Sf : Nat → am_M) (Mf : Nat → Nat) (m s : Nat) : Prop := (∀ p, p < 512 → P 24 p = 0 ∨ ∃ i, i < s ∧ P 24 p = nI (i + 1)) ∧ cntF (P 24) 512 ≤ s ∧ (∀ i, i < s → ∃ a e, a < 512 ∧ e < 512 ∧ P 23 i &&& 511 = nI a ∧ P 24 ((a + e) % 512) = nI (i + 1) ∧ ∀ e', e' < e → P 24 ((a + e') % 512) ≠ 0) ∧ ∀ i, i < s → ∀ Q, Q 0 13 = nI m → eqS m (Sf i) (am_sub Q 1) (Mf i) → X4_hashOfScene n Q = some (P 23 i)
theorem slot_eq (n : Nat) (hn : 2200 < n) {P : am_M} {Sf : Nat → am_M} {Mf : Nat → Nat} {m s M : Nat} (m8 : m ≤ 8) (hs : s ≤ 200) (hM : M ≤ 320) (hm : P 0 13 = nI m) (h : P 3 4 = nI M) (hst : ∀ i, i < s → snC P m i (Mf i) (Sf i) ∧ Mf i ≤ 320) (hT : tabI n P Sf Mf m s) : ∃ hv a e, a < 512 ∧ e < 512 ∧ hv &&& 511 = nI a ∧ X4_hashOfScene n P = some hv ∧ X4_slotOf n P hv = some (nI ((a + e) % 512)) ∧ (∀ e', e' < e → P 24 ((a + e') % 512) ≠ 0) ∧ ((P 24 ((a + e) % 512) = 0 ∧ ∀ i, i < s → ¬ isS m (Sf i) P (Mf i) M) ∨ (P 24 ((a + e) % 512) ≠ 0 ∧ ∃ i, i < s ∧ isS m (Sf i) P (Mf i) M)) := by
  obtain ⟨t1, t2, t3, t4⟩ := hT
  obtain ⟨hv, v1, v2⟩ := hash_eq n hn m8 hM hm h
  obtain ⟨a, a1, a2⟩ := and511 hv
  obtain ⟨e, e1, e2, e3, e4⟩ := slot_loop n hn (hv := hv) m8 hs hM hm h hst t1 512 0 n a (by omega) (by omega) a1
  have nz : ∀ i, i < 200 → nI (i + 1) ≠ 0 := fun i hi q => by
    rw [← nI_0] at q
    have := (nI_eq (by omega) (by omega)).mp q
    omega
  have e3' : ∀ e', e' < e → P 24 ((a + e') % 512) ≠ 0 := fun e' he' => by
    obtain ⟨i, i1, i2, -⟩ := e3 e' he'
    rw [i2]
    exact nz i (by omega)
  have he : e < 512 := by
    rcases Nat.lt_or_ge e 512 with q | q
    · exact q
    · exfalso
      have := cntF_all (T := P 24) 512 (fun p hp => by
        have := e3' ((p + 512 - a) % 512) (by omega)
        rw [show (a + (p + 512 - a) % 512) % 512 = p by omega] at this
        exact this)
      omega
  refine ⟨hv, a, e, a1, he, a2, v1, ?_, e3', ?_⟩
  · unfold X4_slotOf
    rw [a2, ← nI_0]
    exact e2
  · rcases e4 he with q | ⟨i, i1, i2, i3, i4⟩
    · refine Or.inl ⟨q, fun i hi hS => ?_⟩
      obtain ⟨c, c1⟩ := hS
      have hh := t4 i hi P hm (by rw [c]; exact c1)
      rw [v1] at hh
      have hh := Option.some.inj hh
      obtain ⟨b, f, b1, f1, b2, f2, f3⟩ := t3 i hi
      rw [← hh, a2] at b2
      have hab : a = b := (nI_eq (by omega) (by omega)).mp b2
      subst hab
      rcases Nat.lt_trichotomy f e with r | r | r
      · obtain ⟨j, j1, j2, j3⟩ := e3 f r
        rw [f2] at j2
        have : i = j := by have := (nI_eq (by omega) (by omega)).mp j2; omega
        subst this
        exact j3 ⟨hh.symm, c, c1⟩
      · subst r
        rw [q] at f2
        exact nz i (by omega) f2.symm
      · exact f3 e r q
    · exact Or.inr ⟨by rw [i2]; exact nz i (by omega), i, i1, i4⟩
