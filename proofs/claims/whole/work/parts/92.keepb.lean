/-! KEEPING A STATE: both sides -/
theorem sumF_mono {f : Nat → Nat} {i : Nat} : ∀ s, i < s → sumF f i + f i ≤ sumF f s := by
  intro s
  induction s with
  | zero => intro h; omega
  | succ s ih =>
    intro h
    show _ ≤ sumF f s + f s
    by_cases e : i = s
    · subst e; omega
    · have := ih (by omega); omega
def tri : Nat → Nat
  | 0 => 0
  | k + 1 => tri k + k
theorem tri_le : ∀ k, k ≤ 200 → tri k ≤ 19900 := by decide +kernel
theorem sumF_tri {f : Nat → Nat} : ∀ s, (∀ i, i < s → f i ≤ i) → sumF f s ≤ tri s := by
  intro s
  induction s with
  | zero => intro _; exact Nat.le_refl _
  | succ s ih =>
    intro h
    show sumF f s + f s ≤ tri s + s
    have := ih (fun i hi => h i (by omega))
    have := h s (by omega)
    omega
theorem store_loop (n : Nat) {s p M : Nat} (hs : s < 200) (hM : M ≤ 320) (hp : p + M ≤ 19900) : ∀ (d j K : Nat) (P : am_M), j + d = M → d < K → P 3 4 = nI M → ∃ g, X4_store_L53 n K P (nI s) (nI p) (nI j) = some (sC (sC P 21 g) 22 (upd (P 22) (s + 1) (nI (p + M)))) ∧ (∀ x, x < 3 * (p + j) → g x = P 21 x) ∧ ∀ k, j ≤ k → k < M → g (3 * (p + k)) = P 4 k ∧ g (3 * (p + k) + 1) = P 5 k ∧ g (3 * (p + k) + 2) = P 6 k := by
  intro d
  induction d with
  | zero =>
    intro j K P hj hK hP
    obtain ⟨K, rfl⟩ : ∃ J, K = J + 1 := ⟨K - 1, by omega⟩
    refine ⟨P 21, ?_, fun _ _ => rfl, fun k h1 h2 => by omega⟩
    simp only [X4_store_L53, X4_store_B53]
    rw [hP, if_pos (by rw [pu_le (by omega) (by omega)]; omega), nI_1, jput_nI (by omega) (by omega), nI_add, sC_self]
  | succ d ih =>
    intro j K P hj hK hP
    obtain ⟨K, rfl⟩ : ∃ J, K = J + 1 := ⟨K - 1, by omega⟩
    simp only [X4_store_L53, X4_store_B53]
    rw [hP, if_neg (by rw [pu_le (by omega) (by omega)]; omega), nI_add, show nI (p + j) * 3 = nI ((p + j) * 3) from pk_mul (p + j) 3, show (1 : Int32) = nI 1 from rfl, show (2 : Int32) = nI 2 from rfl, nI_add, nI_add, nI_add, jat_nI (by omega) (by omega), jat_nI (by omega) (by omega), jat_nI (by omega) (by omega), jput_nI (by omega) (by omega), jput_nI (by omega) (by omega), jput_nI (by omega) (by omega), show (p + j) * 3 = 3 * (p + j) by omega]
    obtain ⟨g, e1, e2, e3⟩ := ih (j + 1) K (sC P 21 (upd (upd (upd (P 21) (3 * (p + j)) (P 4 j)) (3 * (p + j) + 1) (P 5 j)) (3 * (p + j) + 2) (P 6 j))) (by omega) (by omega) hP
    rw [sC_sC] at e1
    have e2' : ∀ x, x < 3 * (p + (j + 1)) → g x = upd (upd (upd (P 21) (3 * (p + j)) (P 4 j)) (3 * (p + j) + 1) (P 5 j)) (3 * (p + j) + 2) (P 6 j) x := e2
    refine ⟨g, e1, fun x hx => ?_, fun k h1 h2 => ?_⟩
    · rw [e2' x (by omega), upd_ne (by omega), upd_ne (by omega), upd_ne (by omega)]
    · by_cases q : k = j
      · subst q
        refine ⟨?_, ?_, ?_⟩
        · rw [e2' _ (by omega), upd_ne (by omega), upd_ne (by omega), upd_eq]
        · rw [e2' _ (by omega), upd_ne (by omega), upd_eq]
        · rw [e2' _ (by omega), upd_eq]
      · exact e3 k (by omega) h2
theorem store_eq (n : Nat) (hn : 2200 < n) {P : am_M} {s p M : Nat} (hs : s < 200) (hM : M ≤ 320) (hp : p + M ≤ 19900) (h : P 3 4 = nI M) (h22 : P 22 s = nI p) : ∃ g, X4_store n P (nI s) = some (sC (sC (sC P 20 (va_cpy (P 2) (P 20) 0 (104 * s) 104)) 21 g) 22 (upd (P 22) (s + 1) (nI (p + M)))) ∧ (∀ x, x < 3 * p → g x = P 21 x) ∧ ∀ k, k < M → g (3 * (p + k)) = P 4 k ∧ g (3 * (p + k) + 1) = P 5 k ∧ g (3 * (p + k) + 2) = P 6 k := by
  obtain ⟨g, e1, e2, e3⟩ := store_loop n hs hM hp M 0 n (sC P 20 (va_cpy (P 2) (P 20) 0 (104 * s) 104)) (by omega) (by omega) h
  refine ⟨g, ?_, fun x hx => e2 x (by omega), fun k hk => e3 k (Nat.zero_le _) hk⟩
  unfold X4_store
  rw [if_neg (pu_nlt0 (by omega)), if_pos (show nI s < 200 by rw [show (200 : Int32) = nI 200 from rfl, pu_lt (by omega) (by omega)]; exact hs), show nI s * 104 = nI (s * 104) from pk_mul s 104, nI_clamp (by omega), show ((0 : Int32).toNatClampNeg) = 0 from rfl, show ((104 : Int32).toNatClampNeg) = 104 from rfl, if_neg (by
      rintro (q | q | q | q | q)
      · exact absurd q (by decide)
      · exact pu_nlt0 (by omega) q
      · exact absurd q (by decide)
      · omega
      · omega), jat_nI (by omega) (by omega), h22, show s * 104 = 104 * s by omega, ← nI_0]
  exact e1
/-- the class's contents when a STATE was kept -/
def KP (P : am_M) (s p M : Nat) (hv : Int32) (q : Nat) (g : Nat → Int32) : am_M := sC (sC (sC (sC (sC (sC P 23 (upd (P 23) s hv)) 24 (upd (P 24) q (nI (s + 1)))) 20 (va_cpy (P 2) (P 20) 0 (104 * s) 104)) 21 g) 22 (upd (P 22) (s + 1) (nI (p + M)))) 0 (am_u (P 0) 9 (nI (s + 1)))
theorem keep_cl (n : Nat) (hn : 2200 < n) {P : am_M} {Sf : Nat → am_M} {Mf : Nat → Nat} {m s M p : Nat} (m8 : m ≤ 8) (hs : s ≤ 200) (hM : M ≤ 320) (hm : P 0 13 = nI m) (h9 : P 0 9 = nI s) (h : P 3 4 = nI M) (hst : ∀ i, i < s → snC P m i (Mf i) (Sf i) ∧ Mf i ≤ 320) (hT : tabI n P Sf Mf m s) (hp : P 22 s = nI p) (hpM : s < 200 → p + M ≤ 19900) :
    ((∃ i, i < s ∧ isS m (Sf i) P (Mf i) M) ∧ X4_keep n P = some P) ∨ ((∀ i, i < s → ¬ isS m (Sf i) P (Mf i) M) ∧ (s = 200 → X4_keep n P = some (sC P 0 (am_u (P 0) 11 1))) ∧ (s < 200 → ∃ hv a e g, a < 512 ∧ e < 512 ∧ hv &&& 511 = nI a ∧ X4_hashOfScene n P = some hv ∧ P 24 ((a + e) % 512) = 0 ∧ (∀ e', e' < e → P 24 ((a + e') % 512) ≠ 0) ∧ X4_keep n P = some (KP P s p M hv ((a + e) % 512) g) ∧ (∀ x, x < 3 * p → g x = P 21 x) ∧ ∀ k, k < M → g (3 * (p + k)) = P 4 k ∧ g (3 * (p + k) + 1) = P 5 k ∧ g (3 * (p + k) + 2) = P 6 k)) := by
  obtain ⟨hv, a, e, a1, e1, a2, h1, h2, h3, h4⟩ := slot_eq n hn m8 hs hM hm h hst hT
  have hq : (a + e) % 512 < 512 := Nat.mod_lt _ (by decide)
  have ek : X4_keep n P = if P 24 ((a + e) % 512) = 0 then (if 200 ≤ nI s then X4_keep_J61 n P else (if ((jat 201 (P 22) (nI s)) + nI M) ≤ 19900 then (X4_store n (sC (sC P 23 (jput 200 (P 23) (nI s) hv)) 24 (jput 512 (P 24) (nI ((a + e) % 512)) (nI s + 1))) (nI s)).bind (fun q6 => some (sC q6 0 (am_u (q6 0) 9 ((q6 0 9) + 1)))) else X4_keep_J61 n P)) else some P := by
    unfold X4_keep
    rw [h1]
    dsimp only [Option.bind]
    rw [h2]
    dsimp only
    rw [jat_nI hq (by omega), h9, h]
  rcases h4 with ⟨z, h4⟩ | ⟨z, h4⟩
  · refine Or.inr ⟨h4, fun hs2 => ?_, fun hs2 => ?_⟩
    · rw [ek, if_pos z, if_pos (by rw [show (200 : Int32) = nI 200 from rfl, pu_le (by omega) (by omega)]; omega)]
      rfl
    · obtain ⟨g, g1, g2, g3⟩ := store_eq n hn (P := sC (sC P 23 (upd (P 23) s hv)) 24 (upd (P 24) ((a + e) % 512) (nI (s + 1)))) hs2 hM (hpM hs2) h hp
      refine ⟨hv, a, e, g, a1, e1, a2, h1, z, h3, ?_, g2, g3⟩
      rw [ek, if_pos z, if_neg (by rw [show (200 : Int32) = nI 200 from rfl, pu_le (by omega) (by omega)]; omega), jat_nI (by omega) (by omega), hp, nI_add, if_pos (by
        rw [show (19900 : Int32) = nI 19900 from rfl, pu_le (by have := hpM hs2; omega) (by omega)]; exact hpM hs2), jput_nI (by omega) (by omega), nI_1, jput_nI hq (by omega), g1]
      dsimp only [Option.bind]
      have e9 : (P 0 9 + 1) = nI (s + 1) := by rw [h9, nI_1]
      exact congrArg some (by
        unfold KP
        rw [← e9])
  · refine Or.inl ⟨h4, ?_⟩
    rw [ek, if_neg z]
theorem va_lo {f g : Nat → Int32} {sp dp k x : Nat} (h : x < dp) : va_cpy f g sp dp k x = g x := by
  unfold va_cpy
  rw [if_neg (by omega)]
theorem va_in {f g : Nat → Int32} {dp k j : Nat} (h : j < k) : va_cpy f g 0 dp k (dp + j) = f j := by
  unfold va_cpy
  rw [if_pos (by omega)]
  congr 1
  omega
/-- the STATES kept stand alike in both -/
def spI (n : Nat) (P R : am_M) (N m : Nat) (kd : Nat → Nat) (G : Nat → Nat → List Int32) (Sf σf : Nat → am_M) (Mf : Nat → Nat) (s : Nat) : Prop := s ≤ 200 ∧ P 0 9 = nI s ∧ R 0 46 = nI s ∧ P 0 13 = nI m ∧ (∀ i, i ≤ s → P 22 i = nI (sumF Mf i)) ∧ (∀ i, i < s → (∀ k, k < 13 * m → P 20 (104 * i + k) = Sf i 1 k) ∧ (∀ k, k < Mf i → P 21 (3 * (sumF Mf i + k)) = Sf i 3 k ∧ P 21 (3 * (sumF Mf i + k) + 1) = Sf i 4 k ∧ P 21 (3 * (sumF Mf i + k) + 2) = Sf i 5 k) ∧ snR R i (Mf i) (σf i) ∧ rQ (Sf i) (σf i) N m kd G (Mf i) ∧ zr (σf i) m ∧ Mf i ≤ sumF (ph (Sf i) N) m ∧ Mf i ≤ i ∧ R 22 i = mkF (σf i 15) 7 0 (65 + 6 * Mf i)) ∧ tabI n P Sf Mf m s
theorem spI_sn {n : Nat} {P R : am_M} {N m s i : Nat} {kd : Nat → Nat} {G : Nat → Nat → List Int32} {Sf σf : Nat → am_M} {Mf : Nat → Nat} (h : spI n P R N m kd G Sf σf Mf s) (hi : i < s) : snC P m i (Mf i) (Sf i) ∧ Mf i ≤ 320 := by
  obtain ⟨h1, h2, h3, h4, h5, h6, h7⟩ := h
  obtain ⟨a1, a2, a3, a4, a5, a6, a7, a8⟩ := h6 i hi
  have hb : sumF Mf (i + 1) ≤ 19900 := Nat.le_trans (sumF_tri (i + 1) (fun j hj => (h6 j (by omega)).2.2.2.2.2.2.1)) (tri_le _ (by omega))
  have hb' : sumF Mf i + Mf i ≤ 19900 := hb
  exact ⟨⟨a1, sumF Mf i, hb', h5 i (by omega), h5 (i + 1) (by omega), a2⟩, by omega⟩
theorem spI_congr {n : Nat} {P R P' R' : am_M} {N m s : Nat} {kd : Nat → Nat} {G : Nat → Nat → List Int32} {Sf σf : Nat → am_M} {Mf : Nat → Nat} (hP : ∀ c, 20 ≤ c → c ≤ 24 → P' c = P c) (h9 : P' 0 9 = P 0 9) (h13 : P' 0 13 = P 0 13) (h21 : R' 21 = R 21) (h22 : R' 22 = R 22) (h46 : R' 0 46 = R 0 46) (h : spI n P R N m kd G Sf σf Mf s) : spI n P' R' N m kd G Sf σf Mf s := by
  obtain ⟨g1, g2, g3, g4, g5, g6, g7⟩ := h
  refine ⟨g1, h9.trans g2, h46.trans g3, h13.trans g4, by rw [hP 22 (by omega) (by omega)]; exact g5, fun i hi => ?_, ?_⟩
  · obtain ⟨a1, a2, a3, a4, a5, a6, a7, a8⟩ := g6 i hi
    refine ⟨by rw [hP 20 (by omega) (by omega)]; exact a1, by rw [hP 21 (by omega) (by omega)]; exact a2, ?_, a4, a5, a6, a7, by rw [h22]; exact a8⟩
    intro x hx
    rw [h21]
    exact a3 x hx
  · unfold tabI
    rw [hP 23 (by omega) (by omega), hP 24 (by omega) (by omega)]
    exact g7
theorem spI_step {n : Nat} (hn : 2200 < n) {P R : am_M} {N m s M a e : Nat} {hv mk : Int32} {kd : Nat → Nat} {G : Nat → Nat → List Int32} {Sf σf : Nat → am_M} {Mf : Nat → Nat} {g gR : Nat → Int32} (m8 : m ≤ 8) (hs : s < 200) (hI : spI n P R N m kd G Sf σf Mf s) (hw : P 3 4 = nI M) (hq : rQ (am_sub P 1) R N m kd G M) (hz : zr R m) (hps : M ≤ sumF (ph (am_sub P 1) N) m) (hMs : M ≤ s)
    (ha : a < 512) (he : e < 512) (hva : hv &&& 511 = nI a) (hh : X4_hashOfScene n P = some hv) (h0 : P 24 ((a + e) % 512) = 0) (hne : ∀ e', e' < e → P 24 ((a + e') % 512) ≠ 0) (hg1 : ∀ x, x < 3 * sumF Mf s → g x = P 21 x) (hg2 : ∀ k, k < M → g (3 * (sumF Mf s + k)) = P 4 k ∧ g (3 * (sumF Mf s + k) + 1) = P 5 k ∧ g (3 * (sumF Mf s + k) + 2) = P 6 k) (hr1 : ∀ x, x < 1985 * s → gR x = R 21 x) (hr2 : ∀ x, x < 65 + 6 * M → gR (1985 * s + x) = R 15 x) (hmk : mk = mkF (R 15) 7 0 (65 + 6 * M)) :
    spI n (KP P s (sumF Mf s) M hv ((a + e) % 512) g) (sC (sC (sC R 21 gR) 0 (am_u (R 0) 46 (nI (s + 1)))) 22 (upd (R 22) s mk)) N m kd G (fun i => if i = s then am_sub P 1 else Sf i) (fun i => if i = s then R else σf i) (fun i => if i = s then M else Mf i) (s + 1) := by
  obtain ⟨g1, g2, g3, g4, g5, g6, g7⟩ := hI
  have hM : M ≤ 320 := hq.2.1.1
  have sm : ∀ i, i ≤ s → sumF (fun i => if i = s then M else Mf i) i = sumF Mf i := fun i hi => sumF_congr i (fun j hj => if_neg (by omega))
  have nz : nI (s + 1) ≠ 0 := fun q => by
    rw [← nI_0] at q
    have := (nI_eq (by omega) (by omega)).mp q
    omega
  refine ⟨by omega, rfl, rfl, g4, fun i hi => ?_, fun i hi => ?_, ?_, ?_, fun i hi => ?_, fun i hi Q hQ hE => ?_⟩
  · show upd (P 22) (s + 1) (nI (sumF Mf s + M)) i = _
    by_cases q : i = s + 1
    · subst q
      rw [upd_eq]
      show _ = nI (sumF _ s + (if s = s then M else Mf s))
      rw [sm s (Nat.le_refl _), if_pos rfl]
    · rw [upd_ne q, sm i (by omega)]
      exact g5 i (by omega)
  · by_cases q : i = s
    · subst q
      dsimp only
      rw [if_pos rfl, if_pos rfl, if_pos rfl, sm i (Nat.le_refl _)]
      refine ⟨fun k hk => ?_, fun k hk => hg2 k hk, fun x hx => hr2 x hx, hq, hz, hps, hMs, ?_⟩
      · show va_cpy (P 2) (P 20) 0 (104 * i) 104 (104 * i + k) = P 2 k
        exact va_in (by omega)
      · show upd (R 22) i mk i = _
        rw [upd_eq, hmk]
    · dsimp only
      rw [if_neg q, if_neg q, if_neg q, sm i (by omega)]
      obtain ⟨a1, a2, a3, a4, a5, a6, a7, a8⟩ := g6 i (by omega)
      have hmo := sumF_mono (f := Mf) (i := i) s (by omega)
      refine ⟨fun k hk => ?_, fun k hk => ?_, fun x hx => ?_, a4, a5, a6, a7, ?_⟩
      · show va_cpy (P 2) (P 20) 0 (104 * s) 104 (104 * i + k) = _
        rw [va_lo (by omega)]
        exact a1 k hk
      · show g _ = _ ∧ g _ = _ ∧ g _ = _
        rw [hg1 _ (by omega), hg1 _ (by omega), hg1 _ (by omega)]
        exact a2 k hk
      · show gR _ = _
        rw [hr1 _ (by omega)]
        exact a3 x hx
      · show upd (R 22) s mk i = _
        rw [upd_ne q]
        exact a8
  · intro p hp
    show upd (P 24) ((a + e) % 512) (nI (s + 1)) p = 0 ∨ _
    by_cases q : p = (a + e) % 512
    · subst q
      exact Or.inr ⟨s, by omega, upd_eq⟩
    · rw [upd_ne q]
      rcases g7.1 p hp with h | ⟨i, i1, i2⟩
      · exact Or.inl h
      · refine Or.inr ⟨i, by omega, ?_⟩
        show upd (P 24) ((a + e) % 512) (nI (s + 1)) p = _
        rw [upd_ne q]
        exact i2
  · have := cntF_upd (x := nI (s + 1)) h0 512
    rw [if_pos (Nat.mod_lt _ (by decide))] at this
    have h2 := g7.2.1
    show cntF (upd (P 24) ((a + e) % 512) (nI (s + 1))) 512 ≤ s + 1
    omega
  · show ∃ b f, b < 512 ∧ f < 512 ∧ upd (P 23) s hv i &&& 511 = nI b ∧ upd (P 24) ((a + e) % 512) (nI (s + 1)) ((b + f) % 512) = nI (i + 1) ∧ ∀ e', e' < f → upd (P 24) ((a + e) % 512) (nI (s + 1)) ((b + e') % 512) ≠ 0
    have nn : ∀ p, P 24 p ≠ 0 → upd (P 24) ((a + e) % 512) (nI (s + 1)) p ≠ 0 := fun p hp => by
      by_cases q : p = (a + e) % 512
      · subst q; rw [upd_eq]; exact nz
      · rw [upd_ne q]; exact hp
    by_cases q : i = s
    · subst q
      exact ⟨a, e, ha, he, by rw [upd_eq]; exact hva, upd_eq, fun e' he' => nn _ (hne e' he')⟩
    · obtain ⟨b, f, b1, b2, b3, b4, b5⟩ := g7.2.2.1 i (by omega)
      refine ⟨b, f, b1, b2, by rw [upd_ne q]; exact b3, ?_, fun e' he' => nn _ (b5 e' he')⟩
      rw [upd_ne (fun z => ?_)]
      · exact b4
      · rw [z, h0] at b4
        rw [← nI_0] at b4
        have := (nI_eq (by omega) (by omega)).mp b4
        omega
  · show X4_hashOfScene n Q = some (upd (P 23) s hv i)
    by_cases q : i = s
    · subst q
      dsimp only at hE
      rw [if_pos rfl, if_pos rfl] at hE
      obtain ⟨v, v1, v2⟩ := hash_eq n hn m8 hM g4 hw
      rw [upd_eq, v2 Q hQ hE, ← v1, hh]
    · dsimp only at hE
      rw [if_neg q, if_neg q] at hE
      rw [upd_ne q]
      exact g7.2.2.2 i (by omega) Q hQ hE
theorem keep_both (n : Nat) (hn : 2200 < n) {P R : am_M} {N m s M : Nat} {kd : Nat → Nat} {G : Nat → Nat → List Int32} {Sf σf : Nat → am_M} {Mf : Nat → Nat} (m8 : m ≤ 8) (hN : N ≤ 40) (hI : spI n P R N m kd G Sf σf Mf s) (hq : rQ (am_sub P 1) R N m kd G M) (hz : zr R m) (hps : M ≤ sumF (ph (am_sub P 1) N) m) (hMs : M ≤ s) :
    ∃ (P' R' : am_M) (Sf' σf' : Nat → am_M) (Mf' : Nat → Nat) (s' : Nat), X4_keep n P = some P' ∧ X8_keep n R = some R' ∧ spI n P' R' N m kd G Sf' σf' Mf' s' ∧ (∀ i, i < s → Sf' i = Sf i ∧ σf' i = σf i ∧ Mf' i = Mf i) ∧ s ≤ s' ∧ (∀ c, c ≠ 0 → c < 20 ∨ 24 < c → P' c = P c) ∧ (∀ k, k ≠ 9 → k ≠ 11 → P' 0 k = P 0 k) ∧ (∀ c, c ≠ 0 → c ≠ 21 → c ≠ 22 → R' c = R c) ∧ (∀ k, k ≠ 46 → k ≠ 48 → R' 0 k = R 0 k) ∧ ((P' 0 11 = P 0 11 ∧ R' 0 48 = R 0 48) ∨ (P' 0 11 = 1 ∧ R' 0 48 = 1)) := by
  have hI0 := hI
  obtain ⟨g1, g2, g3, g4, g5, g6, g7⟩ := hI
  have hM : M ≤ 320 := hq.2.1.1
  have hw : P 3 4 = nI M := hq.2.1.2.1
  have h64 : R 15 64 = nI M := hq.2.1.2.2.1
  have hsum : sumF Mf s ≤ tri s := sumF_tri s (fun j hj => (g6 j hj).2.2.2.2.2.2.1)
  have hpM : s < 200 → sumF Mf s + M ≤ 19900 := fun h => by
    have : tri s + s ≤ 19900 := tri_le (s + 1) (by omega)
    omega
  obtain ⟨f1, f2⟩ := keep_rf n hn (R := R) (M := M) (σf := σf) (Mf := Mf) g1 g3 hM h64 (fun i hi => ⟨(g6 i hi).2.2.1, (g6 i hi).2.2.2.1.2.1.2.2.1, (spI_sn hI0 hi).2, (g6 i hi).2.2.2.2.2.2.2⟩)
  have key : ∀ i, i < s → (isS m (Sf i) P (Mf i) M ↔ Mf i = M ∧ eqR (σf i) R M) := fun i hi => by
    obtain ⟨-, -, -, a4, a5, -⟩ := g6 i hi
    constructor
    · rintro ⟨c1, c2⟩
      refine ⟨c1, ?_⟩
      subst c1
      exact (eqSR m8 hN a4 a5 hq hz).mp c2
    · rintro ⟨c1, c2⟩
      refine ⟨c1, ?_⟩
      subst c1
      exact (eqSR m8 hN a4 a5 hq hz).mpr c2
  rcases keep_cl n hn m8 g1 hM g4 g2 hw (fun i hi => spI_sn hI0 hi) g7 (g5 s (Nat.le_refl _)) hpM with ⟨⟨i, i1, i2⟩, hk⟩ | ⟨hno, hk1, hk2⟩
  · exact ⟨P, R, Sf, σf, Mf, s, hk, f1 ⟨i, i1, (key i i1).mp i2⟩, hI0, fun _ _ => ⟨rfl, rfl, rfl⟩, Nat.le_refl _, fun _ _ _ => rfl, fun _ _ _ => rfl, fun _ _ _ _ => rfl, fun _ _ _ => rfl, Or.inl ⟨rfl, rfl⟩⟩
  · obtain ⟨f3, f4⟩ := f2 (fun j hj q => hno j hj ((key j hj).mpr q))
    by_cases hs : s = 200
    · refine ⟨_, _, Sf, σf, Mf, s, hk1 hs, f3 hs, spI_congr (fun c h1 _ => sC_ne (by omega)) rfl rfl rfl rfl rfl hI0, fun _ _ => ⟨rfl, rfl, rfl⟩, Nat.le_refl _, fun c h _ => sC_ne h, fun k h1 h2 => am_u_ne h2, fun c h1 _ _ => sC_ne h1, fun k _ h2 => am_u_ne h2, Or.inr ⟨rfl, rfl⟩⟩
    · have hs2 : s < 200 := by omega
      obtain ⟨hv, a, e, g, a1, e1, a2, h1, h2, h3, h4, h5, h6⟩ := hk2 hs2
      obtain ⟨gR, r1, r2, r3⟩ := f4 hs2
      refine ⟨_, _, _, _, _, s + 1, h4, r1, spI_step hn m8 hs2 hI0 hw hq hz hps hMs a1 e1 a2 h1 h2 h3 h5 h6 r2 r3 rfl, fun i hi => ⟨if_neg (by omega), if_neg (by omega), if_neg (by omega)⟩, by omega, fun c h q => ?_, fun k q1 q2 => ?_, fun c q1 q2 q3 => ?_, fun k q1 q2 => ?_, Or.inl ⟨rfl, rfl⟩⟩
      · unfold KP
        rw [sC_ne h, sC_ne (by omega), sC_ne (by omega), sC_ne (by omega), sC_ne (by omega), sC_ne (by omega)]
      · exact am_u_ne q1
      · rw [sC_ne q3, sC_ne q1, sC_ne q2]
      · exact am_u_ne q1
