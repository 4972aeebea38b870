/-! FROM A STATE: the class's visit, the reference's from -/
def vI (n : Nat) (τ : Nat → Int64) (P R : am_M) (N m : Nat) (kd nx ot : Nat → Nat) (G : Nat → Nat → List Int32) (Sf σf : Nat → am_M) (Mf : Nat → Nat) (s i : Nat) : Prop := spI n P R N m kd G Sf σf Mf s ∧ rB n (am_sub τ 1) (am_sub P 1) R N m kd nx ot G ∧ P 1 15 = 0 ∧ i < s ∧ eqS m (Sf i) (am_sub P 1) (Mf i) ∧ (∃ M', M' ≤ 320 ∧ R 15 64 = nI M') ∧ R 0 35 = -1 ∧ (∀ x, x < 320 → P 27 x = R 24 x) ∧ ((P 0 11 = 0 ∧ R 0 48 = 0) ∨ (P 0 11 = 1 ∧ R 0 48 = 1))
def vF (P P' R R' : am_M) (i : Nat) : Prop := (∀ c, 12 ≤ c → c < 20 ∨ 24 < c → c ≠ 27 → P' c = P c) ∧ (∀ k, k ≠ 9 → k ≠ 11 → P' 0 k = P 0 k) ∧ (∀ k, k ≤ 11 → P' 1 k = P 1 k) ∧ (∀ c, 1 ≤ c → c < 15 ∨ 24 < c → R' c = R c) ∧ (∀ k, k < 40 ∨ (42 < k ∧ k ≠ 46 ∧ k ≠ 48) → R' 0 k = R 0 k) ∧ (∀ j, j ≠ i → R' 23 j = R 23 j)
def ext (Sf σf : Nat → am_M) (Mf : Nat → Nat) (s : Nat) (Sf' σf' : Nat → am_M) (Mf' : Nat → Nat) (s' : Nat) : Prop := s ≤ s' ∧ ∀ j, j < s → Sf' j = Sf j ∧ σf' j = σf j ∧ Mf' j = Mf j
theorem ext_t {Sf σf : Nat → am_M} {Mf : Nat → Nat} {s : Nat} {Sf' σf' : Nat → am_M} {Mf' : Nat → Nat} {s' : Nat} {Sg σg : Nat → am_M} {Mg : Nat → Nat} {sg : Nat} (a : ext Sf σf Mf s Sf' σf' Mf' s') (b : ext Sf' σf' Mf' s' Sg σg Mg sg) : ext Sf σf Mf s Sg σg Mg sg := by
  refine ⟨Nat.le_trans a.1 b.1, fun j hj => ?_⟩
  obtain ⟨a1, a2, a3⟩ := a.2 j hj
  obtain ⟨b1, b2, b3⟩ := b.2 j (Nat.lt_of_lt_of_le hj a.1)
  exact ⟨b1.trans a1, b2.trans a2, b3.trans a3⟩
theorem ext_r {Sf σf : Nat → am_M} {Mf : Nat → Nat} {s : Nat} : ext Sf σf Mf s Sf σf Mf s := ⟨Nat.le_refl _, fun _ _ => ⟨rfl, rfl, rfl⟩⟩
theorem vF_r {P R : am_M} {i : Nat} : vF P P R R i := ⟨fun _ _ _ _ => rfl, fun _ _ _ => rfl, fun _ _ => rfl, fun _ _ _ => rfl, fun _ _ => rfl, fun _ _ => rfl⟩
theorem vF_t {P P' P2 R R' R2 : am_M} {i : Nat} (a : vF P P' R R' i) (b : vF P' P2 R' R2 i) : vF P P2 R R2 i :=
  ⟨fun c h1 h2 h3 => (b.1 c h1 h2 h3).trans (a.1 c h1 h2 h3), fun k h1 h2 => (b.2.1 k h1 h2).trans (a.2.1 k h1 h2), fun k h => (b.2.2.1 k h).trans (a.2.2.1 k h), fun c h1 h2 => (b.2.2.2.1 c h1 h2).trans (a.2.2.2.1 c h1 h2), fun k h => (b.2.2.2.2.1 k h).trans (a.2.2.2.2.1 k h), fun j h => (b.2.2.2.2.2 j h).trans (a.2.2.2.2.2 j h)⟩
/-- the reference brings the STATE, and what can be asked of it then -/
theorem vbring (n : Nat) (hn : 2200 < n) {τ : Nat → Int64} {P R : am_M} {N m s i : Nat} {kd nx ot : Nat → Nat} {G : Nat → Nat → List Int32} {Sf σf : Nat → am_M} {Mf : Nat → Nat} (hI : vI n τ P R N m kd nx ot G Sf σf Mf s i) :
    ∃ g, X8_bring n R (nI i) = some (sC R 15 g) ∧ rB n (am_sub τ 1) (am_sub P 1) (sC R 15 g) N m kd nx ot G ∧ rQ (am_sub P 1) (sC R 15 g) N m kd G (Mf i) ∧ zr (sC R 15 g) m ∧ Mf i ≤ sumF (ph (am_sub P 1) N) m ∧ vI n τ P (sC R 15 g) N m kd nx ot G Sf σf Mf s i := by
  obtain ⟨h1, h2, h3, h4, h5, ⟨M', h6, h7⟩, h8, h9, h10⟩ := hI
  have m8 := h2.2.2.2.1
  obtain ⟨a1, a2, a3, a4, a5, a6, a7, a8⟩ := h1.2.2.2.2.2.1 i h4
  have hs := h1.1
  obtain ⟨g, e1, e2⟩ := bring_eq n hn (by omega) (show Mf i ≤ 320 by omega) h6 a3 a4.2.1.2.2.1 h7
  have hb : rB n (am_sub τ 1) (am_sub P 1) (sC R 15 g) N m kd nx ot G := rB_congr (S := am_sub P 1) (σ := R) (fun _ _ _ => rfl) rfl rfl (fun c q1 q2 => sC_ne (by omega)) rfl rfl h2
  have hq := rQ_pw m8 h5 e2 a4
  exact ⟨g, e1, hb, hq, zr_eqR e2 a5, by rw [ph_eqS h5]; exact a6, spI_congr (fun _ _ _ => rfl) rfl rfl rfl rfl rfl h1, hb, h3, h4, h5, ⟨Mf i, by omega, hq.2.1.2.2.1⟩, h8, h9, h10⟩
theorem vI_16 {n : Nat} {τ : Nat → Int64} {P R : am_M} {N m s i : Nat} {kd nx ot : Nat → Nat} {G : Nat → Nat → List Int32} {Sf σf : Nat → am_M} {Mf : Nat → Nat} {st : Nat → Int32} (hI : vI n τ P R N m kd nx ot G Sf σf Mf s i) : vI n τ P (sC R 16 st) N m kd nx ot G Sf σf Mf s i := by
  obtain ⟨h1, h2, h3, h4, h5, h6, h7, h8, h9⟩ := hI
  exact ⟨spI_congr (fun _ _ _ => rfl) rfl rfl rfl rfl rfl h1, rB_16 h2, h3, h4, h5, h6, h7, h8, h9⟩
/-- the class's contents when a taker was noted -/
def ntk (Q : am_M) : am_M := if Q 1 12 = -1 then Q else sC Q 27 (jput 320 (Q 27) (((Q 1 12) * 40) + (Q 1 13)) ((jat 320 (Q 27) (((Q 1 12) * 40) + (Q 1 13))) ||| (1 <<< ((Q 1 14) &&& 31))))
def ntr (r : am_M) : am_M := if r 0 40 = -1 then r else sC r 24 (upd (r 24) ((40 * (r 0 40)) + (r 0 42)).toNatClampNeg ((r 24 ((40 * (r 0 40)) + (r 0 42)).toNatClampNeg) ||| (1 <<< ((r 0 41) &&& 31))))
/-- a MOVE is made and its STATE kept -/
theorem vmove (n : Nat) (hn : 2200 < n) {τ : Nat → Int64} {P R : am_M} {N m s i h o : Nat} {kd nx ot : Nat → Nat} {G : Nat → Nat → List Int32} {Sf σf : Nat → am_M} {Mf : Nat → Nat} (hI : vI n τ P R N m kd nx ot G Sf σf Mf s i) (hq : rQ (am_sub P 1) R N m kd G (Mf i)) (hz : zr R m) (hps : Mf i ≤ sumF (ph (am_sub P 1) N) m) (hh : h < m) (ho : o < m) (hc : CN n (am_sub P 1) m (Mf i) h (-1) (nI o)) :
    ∃ S1 S' q8 q9 r7 r9 Sf' σf' Mf' s', X2_move n (am_sub P 1) (nI h) (nI o) = some S1 ∧ X2_goOn n (am_sub τ 1) (am_sub (am_put P 1 19 S1) 1) = some S' ∧ X4_noteTaker (am_put (am_put P 1 19 S1) 1 19 S') = some (ntk (am_put P 1 19 S')) ∧ X4_keep n (ntk (am_put P 1 19 S')) = some q8 ∧ X4_load n q8 (nI i) = some q9 ∧ X8_move n (sC R 23 (upd (R 23) i 0)) (nI h) (nI o) = some r7 ∧ (r7 0 40 = -1 ∨ ∃ a t : Nat, a < 8 ∧ t < 40 ∧ r7 0 40 = nI a ∧ r7 0 42 = nI t) ∧ X8_keep n (ntr r7) = some r9 ∧ vI n τ q9 r9 N m kd nx ot G Sf' σf' Mf' s' i ∧ ext Sf σf Mf s Sf' σf' Mf' s' ∧ vF P q9 R r9 i ∧ r9 23 i = 0 := by
  obtain ⟨h1, h2, h3, h4, h5, ⟨M0, h6, h7⟩, h8, h9, h10⟩ := hI
  have m8 := h2.2.2.2.1
  have hN4 := h2.1.1
  obtain ⟨a1, a2, a3, a4, a5, a6, a7, a8⟩ := h1.2.2.2.2.2.1 i h4
  obtain ⟨U, hU⟩ : ∃ U, U = sC R 23 (upd (R 23) i 0) := ⟨_, rfl⟩
  have hbU : rB n (am_sub τ 1) (am_sub P 1) U N m kd nx ot G := by
    rw [hU]
    exact rB_congr (S := am_sub P 1) (σ := R) (fun _ _ _ => rfl) rfl rfl (fun c q1 q2 => sC_ne (by omega)) rfl rfl h2
  have hqU : rQ (am_sub P 1) U N m kd G (Mf i) := by
    rw [hU]
    exact rQ_congr m8 rfl (fun _ _ _ => rfl) rfl hq
  have hzU : zr U m := by rw [hU]; exact hz
  obtain ⟨S1, S', r7, M', w1, w2, w3, w4⟩ := move_both n hn hbU hqU h3 hzU hps hh hc (fun _ => ⟨o, ho, rfl⟩)
  obtain ⟨v1, v2, v3, v4, v5, v6, -, v8, v9, v10, v11, v12⟩ := w4
  have e1 : am_sub (am_put P 1 19 S1) 1 = S1 := sub_put (fun c hc => frm_move w1 c (by omega))
  have e2 : am_sub (am_put P 1 19 S') 1 = S' := sub_put (fun c hc => v8 c (by omega))
  obtain ⟨Q, hQ⟩ : ∃ Q, Q = am_put P 1 19 S' := ⟨_, rfl⟩
  have Qs : ∀ c, c < 19 → Q (1 + c) = S' c := fun c hc => by
    rw [hQ, am_put_in (by omega) (by omega), show 1 + c - 1 = c by omega]
  have Qo : ∀ c, c < 1 ∨ 20 ≤ c → Q c = P c := fun c hc => by rw [hQ, am_put_ne (by omega)]
  have Q1 : Q 1 = S' 0 := Qs 0 (by omega)
  -- noted
  obtain ⟨q7, hq7⟩ : ∃ q7, q7 = ntk Q := ⟨_, rfl⟩
  obtain ⟨r8, hr8⟩ : ∃ r8, r8 = ntr r7 := ⟨_, rfl⟩
  have n1 : X4_noteTaker Q = some (ntk Q) := by
    unfold X4_noteTaker ntk
    split <;> rfl
  have q7o : ∀ c, c ≠ 27 → q7 c = Q c := fun c hc => by
    rw [hq7]
    unfold ntk
    split
    · rfl
    · exact sC_ne hc
  have r8o : ∀ c, c ≠ 24 → r8 c = r7 c := fun c hc => by
    rw [hr8]
    unfold ntr
    split
    · rfl
    · exact sC_ne hc
  have r24 : r7 24 = R 24 := by rw [v10 24 (by omega) (by omega), hU, sC_ne (by omega)]
  have t27 : ∀ x, x < 320 → q7 27 x = r8 24 x := by
    intro x hx
    have hQ27 : Q 27 = P 27 := Qo 27 (by omega)
    rw [hq7, hr8]
    unfold ntk ntr
    rw [Q1]
    rcases v12 with ⟨z1, z2⟩ | ⟨a, t, f, z1, z2, z3, z4, z5, z6, z7, z8, z9, z10⟩
    · rw [if_pos z1, if_pos z2, hQ27, r24]
      exact h9 x hx
    · rw [if_neg (by rw [z1]; exact pu_ne1 (by omega)), if_neg (by rw [z2]; exact pu_ne1 (by omega)), z1, z2, z3, z4, z5, z6, show nI a * 40 = nI (a * 40) from pk_mul a 40, nI_add, show (40 : Int32) * nI a = nI (40 * a) from pk_mul 40 a, nI_add, jput_nI (by omega) (by omega), jat_nI (by omega) (by omega), nI_clamp (by omega), hQ27, r24, h9 _ (show a * 40 + t < 320 by omega)]
      show upd (P 27) (a * 40 + t) _ x = upd (R 24) (40 * a + t) _ x
      rw [show 40 * a + t = a * 40 + t by omega]
      by_cases q : x = a * 40 + t
      · rw [q, upd_eq, upd_eq]
      · rw [upd_ne q, upd_ne q]
        exact h9 x hx
  have q7s : ∀ c, c < 19 → q7 (1 + c) = S' c := fun c hc => by rw [q7o _ (by omega), Qs c hc]
  have q1S : am_sub q7 1 1 = S' 1 := q7s 1 (by omega)
  have hq7' : rQ (am_sub q7 1) r8 N m kd G M' := rQ_congr (S := S') (σ := r7) m8 q1S (fun c q1 q2 => q7s c (by omega)) (r8o 15 (by omega)) v2
  have hb7 : rB n (am_sub τ 1) (am_sub q7 1) r8 N m kd nx ot G := rB_congr (S := S') (σ := r7) (fun c q1 q2 => q7s c (by omega)) (congrFun (q7s 0 (by omega)) 1) (congrFun (q7s 0 (by omega)) 2) (fun c q1 q2 => r8o c (by omega)) (congrFun (r8o 0 (by omega)) 3) (congrFun (r8o 0 (by omega)) 4) v1
  have hz8 : zr r8 m := fun j q1 q2 => by rw [r8o 15 (by omega)]; exact v4 j q1 q2
  have hph : sumF (ph (am_sub q7 1) N) m = sumF (ph S' N) m := sumF_congr m (fun j _ => ph_congr (congrFun q1S _) (congrFun q1S _))
  have Q0 : q7 0 = P 0 := by rw [q7o 0 (by omega), Qo 0 (by omega)]
  have rU : ∀ c, c ≠ 0 → c < 15 ∨ 20 < c → r7 c = U c := v10
  have uR : ∀ c, c ≠ 23 → U c = R c := fun c hc => by rw [hU, sC_ne hc]
  have r0 : ∀ k, k < 40 ∨ 42 < k → r8 0 k = R 0 k := fun k hk => by rw [r8o 0 (by omega), v11 k hk, uR 0 (by omega)]
  have hI7 : spI n q7 r8 N m kd G Sf σf Mf s := spI_congr (P := P) (R := R) (fun c q1 q2 => by rw [q7o c (by omega), Qo c (by omega)]) (by rw [Q0]) (by rw [Q0]) (by rw [r8o 21 (by omega), rU 21 (by omega) (by omega), uR 21 (by omega)]) (by rw [r8o 22 (by omega), rU 22 (by omega) (by omega), uR 22 (by omega)]) (r0 46 (by omega)) h1
  obtain ⟨q8, r9, Sf', σf', Mf', s', k1, k2, k3, k4, k5, k6, k7, k8, k9, k10⟩ := keep_both n hn m8 hN4 hI7 hq7' hz8 (by rw [hph]; omega) (by omega)
  have s200 := k3.1
  obtain ⟨sn1, sn2⟩ := spI_sn k3 (show i < s' by omega)
  obtain ⟨q9, l1, l2, l3, l4⟩ := load_eq n hn m8 (show i < 200 by omega) sn2 sn1
  have c89 : ∀ c, c < 2 ∨ 7 < c → c ≠ 0 → c < 20 ∨ 24 < c → q9 c = q7 c := fun c q1 q2 q3 => (l3 c q1).trans (k6 c q2 q3)
  refine ⟨S1, S', q8, q9, r7, r9, Sf', σf', Mf', s', w1, by rw [e1]; exact w2, by rw [put_put, ← hQ]; exact n1, by rw [← hQ, ← hq7]; exact k1, l1, by rw [← hU]; exact w3, ?_, by rw [← hr8]; exact k2, ⟨?_, ?_, ?_, by omega, l2, ⟨M', hq7'.2.1.1, ?_⟩, ?_, fun x hx => ?_, ?_⟩, ⟨k5, k4⟩, ⟨fun c q1 q2 q3 => ?_, fun k q1 q2 => ?_, fun k q1 => ?_, fun c q1 q2 => ?_, fun k q1 => ?_, fun j q1 => ?_⟩, ?_⟩
  · rcases v12 with ⟨z1, z2⟩ | ⟨a, t, f, z1, z2, z3, z4, z5, z6, z7, z8, z9, z10⟩
    · exact Or.inl z2
    · exact Or.inr ⟨a, t, by omega, by omega, z2, z4⟩
  · exact spI_congr (fun c q1 q2 => l3 c (by omega)) (by rw [l3 0 (by omega)]) (by rw [l3 0 (by omega)]) rfl rfl rfl k3
  · exact rB_congr (S := am_sub q7 1) (σ := r8) (fun c q1 q2 => c89 (1 + c) (by omega) (by omega) (by omega)) (congrFun (c89 1 (by omega) (by omega) (by omega)) 1) (congrFun (c89 1 (by omega) (by omega) (by omega)) 2) (fun c q1 q2 => k8 c (by omega) (by omega) (by omega)) (k9 3 (by omega) (by omega)) (k9 4 (by omega) (by omega)) hb7
  · rw [c89 1 (by omega) (by omega) (by omega), q7s 0 (by omega)]
    exact v3
  · rw [k8 15 (by omega) (by omega) (by omega)]
    exact hq7'.2.1.2.2.1
  · rw [k9 35 (by omega) (by omega), r0 35 (by omega)]
    exact h8
  · rw [c89 27 (by omega) (by omega) (by omega), k8 24 (by omega) (by omega) (by omega)]
    exact t27 x hx
  · rw [l3 0 (by omega)]
    rcases k10 with ⟨z1, z2⟩ | z
    · rw [z1, z2, Q0, r0 48 (by omega)]
      exact h10
    · exact Or.inr z
  · rcases q2 with q2 | q2
    · rw [c89 c (by omega) (by omega) (by omega), show c = 1 + (c - 1) by omega, q7s (c - 1) (by omega), v8 (c - 1) (by omega)]
    · rw [c89 c (by omega) (by omega) (by omega), q7o c q3, Qo c (by omega)]
  · rw [l3 0 (by omega), k7 k q1 q2, Q0]
  · rw [c89 1 (by omega) (by omega) (by omega), q7s 0 (by omega), v9 k q1]
  · rw [k8 c (by omega) (by omega) (by omega), r8o c (by omega), rU c (by omega) (by omega), uR c (by omega)]
  · rw [k9 k (by omega) (by omega), r0 k (by omega)]
  · rw [k8 23 (by omega) (by omega) (by omega), r8o 23 (by omega), rU 23 (by omega) (by omega), hU]
    exact upd_ne q1
  · rw [k8 23 (by omega) (by omega) (by omega), r8o 23 (by omega), rU 23 (by omega) (by omega), hU]
    exact upd_eq
