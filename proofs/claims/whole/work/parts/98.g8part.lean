/-! AN EXPR IS READ: a part -/
section PART
variable {n : Nat} {b : Nat → Int32} {A K0 k z0 q0 : Nat} {R S : am_M}
theorem jo_stop {j : Nat} (hj : j < 356) {bit : Bool} (h : stp 0 (nI j) bit) : X1_jointOf_J19 zM (nI j) (if bit = true then 0 else 1) = 0 := by
  obtain ⟨h1, h2, h3⟩ := h
  rcases jo_no j hj with z | ⟨z1, z2⟩
  · rcases z with rfl | rfl | rfl | rfl | rfl | rfl
    · exact absurd rfl (h1 (by omega)).1
    · exact absurd rfl (h2 (by omega)).1
    · exact absurd rfl (h2 (by omega)).2
    · exact absurd rfl (h1 (by omega)).2
    · cases bit with
      | true => rfl
      | false => exact absurd rfl (h3 rfl rfl).1
    · cases bit with
      | true => rfl
      | false => exact absurd rfl (h3 rfl rfl).2
  · cases bit with
    | true => exact z1
    | false => exact z2
theorem encI_num (v : Nat) (hv : v ≤ 9999) : encI (nI v) = [0, nI v] := by
  unfold encI
  rw [if_pos (Int32.not_lt.mp (nI_n0 (by omega)))]
theorem encI_var : ∀ v, v < 7 → encI (-1 - nI v) = [20 + nI v] := by decide
/-- one token is a part -/
theorem one_ok (hn : 2200 < n) (hK : KB b A K0) {C J : List Int32} {d w i h : Nat} {Q : List Int32} {v : Int32} {R' : am_M} (hd : d < 7) (hpre : preO b A K0 z0 q0 S k C J d w Q i 3 h R) (hv : (SK b A (tkB b A k) = 27 ∧ NMT b A (tkB b A k) = v ∧ v ≠ -1) ∨ (∃ u, u < 7 ∧ SK b A (tkB b A k) = nI (11 + u) ∧ NMT b A (tkB b A k) = 0 ∧ v = -1 - nI u)) (hv2 : (∃ u : Nat, u ≤ 9999 ∧ v = nI u) ∨ ∃ u : Nat, u < 7 ∧ v = -1 - nI u) (hl : (encI v).length ≤ 2) (hR : rI b A q0 (k + 1) (Q ++ encI v) R') (hf : fE q0 R R') : okO n b A K0 z0 q0 S k C J d w Q i 3 h R R' := by
  obtain ⟨p1, p2, p3, p4, p5, p6, p7, p8⟩ := hpre
  have kK := p1.1.2.2.1
  have A7 := hK.1
  have K0A := hK.2.2.1
  obtain ⟨S', s1, s2, s3⟩ := part_C n hK p1 hd (by omega) hv
  refine ⟨1, S', [v], [], w, fun K => s1 K i (by omega), s2, s3, ?_, hf, fun x hx => absurd hx List.not_mem_nil, by decide, WF_1 (by omega) hv2, fun x hx => ?_, ?_, ?_, ⟨fun q => absurd q (by decide), fun q => absurd q (by decide), fun q => absurd q (by decide)⟩, fun _ _ _ => rfl⟩
  · rw [List.append_nil]
    simp only [encL, List.append_nil]
    exact hR
  · rw [List.append_nil, List.mem_singleton] at hx
    rw [hx]
    rcases hv2 with q | q
    · exact Or.inl q
    · exact Or.inr (Or.inl q)
  · rw [List.length_append]
    show z0 + (C.length + 1) + 0 + pnd J + 1 ≤ k + 1
    omega
  · rw [List.append_nil]
    simp only [encL, List.append_nil]
    rw [List.length_append]
    omega
end PART
