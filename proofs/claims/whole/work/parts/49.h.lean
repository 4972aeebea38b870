/-! THE START: the abstract machine's words out of the Statement's -/
def am_F : List Cond := flatC (Jvm.Cond.and given_1 narrow_1)
theorem am_tbw {w : Cond} (pl : Nat) (h : lw_tbl[pl]? = some w) : w ∈ lw_tbl := List.mem_of_getElem? h
theorem am_inst : ∀ (ci : Nat) (q : vw_C), vwCl[ci]? = some q → ∃ n, Cond.instantiable q.1 n ∈ lw_tbl := by
  intro ci q h
  match ci, h with
  | 0, h => cases h; exact ⟨7, am_tbw 490 (by decide +kernel)⟩
  | 1, h => cases h; exact ⟨11, am_tbw 206 (by decide +kernel)⟩
  | 2, h => cases h; exact ⟨16, am_tbw 340 (by decide +kernel)⟩
  | 3, h => cases h; exact ⟨10, am_tbw 244 (by decide +kernel)⟩
  | 4, h => cases h; exact ⟨16, am_tbw 334 (by decide +kernel)⟩
  | 5, h => cases h; exact ⟨7, am_tbw 212 (by decide +kernel)⟩
  | 6, h => cases h; exact ⟨5, am_tbw 348 (by decide +kernel)⟩
  | 7, h => cases h; exact ⟨12, am_tbw 198 (by decide +kernel)⟩
  | 8, h => cases h; exact ⟨70, am_tbw 1321 (by decide +kernel)⟩
  | k + 9, h => simp [vwCl] at h
def am_base : List Nat := [65, 496, 504, 512, 521, 529, 536, 544, 551, 558, 565, 573, 579, 584, 589, 594, 599, 605, 610, 633, 641, 649, 657, 665, 673, 618, 626]
def am_sref : List Nat := [973, 1328, 1329, 1330, 1331, 1332, 1333, 1334, 1335, 1336, 1337, 1338, 1339, 1340, 1341, 1342, 1343, 1344, 1345, 1653, 1658, 1659, 1660, 1668, 1673, 1597, 1604]
def am_tS (k : Nat) : Term := .string (am_sT k).1 (am_sT k).2.1
def am_sck (k : Nat) : Bool := decide (am_F[am_base.getD k 0]? = some (.exactly (am_tS k) "java/lang/String")) && (decide (am_F[am_base.getD k 0 + 1]? = some (.eq (.field (am_tS k) "java/lang/String" "coder" "B") (.int 0))) && (decide (am_F[am_base.getD k 0 + 2]? = some (.arrayOf (.field (am_tS k) "java/lang/String" "value" "[B") .byte)) && (decide (am_F[am_base.getD k 0 + 3]? = some (.eq (.length (.field (am_tS k) "java/lang/String" "value" "[B")) (.int (Int32.ofNat (am_sB.getD k []).length)))) && ((List.range (am_sB.getD k []).length).all (fun j => decide (am_F[am_base.getD k 0 + 4 + j]? = some (.eq (.elem (.field (am_tS k) "java/lang/String" "value" "[B") (.int (Int32.ofNat j))) (.int ((am_sB.getD k []).getD j 0))))) && (decide (lw_tbl[am_sref.getD k 0]? = some (.stringRef (am_sT k).1 (am_sT k).2.1 (am_sT k).2.2)) && Nat.blt (am_sB.getD k []).length 1000)))))
set_option maxRecDepth 100000 in
theorem am_sck_ok : (List.range 27).all am_sck = true := by decide +kernel
def am_xb : List Nat := [31, 175, 192, 208, 224, 240, 258, 291, 327, 346, 369, 410, 450, 480]
def am_xref : List Nat := [913, 1157, 1171, 1179, 1191, 1192, 1208, 1220, 1228, 1232, 1289, 1302, 1311, 1319]
def am_xck (k : Nat) : Bool := match am_xs[k]? with
  | none => false
  | some q => decide (am_F[am_xb.getD k 0]? = some (.exactly (.string "SendHall" q.1) "java/lang/String")) && decide (lw_tbl[am_xref.getD k 0]? = some (.stringRef "SendHall" q.1 q.2))
set_option maxRecDepth 100000 in
theorem am_xck_ok : (List.range 14).all am_xck = true := by decide +kernel
section AMST
variable {s : State} {b : Nat}
theorem am_arrOf {ty : FieldType} (h : (Cond.arrayClass ty).before #[Value.ref b] s = true) : ∃ c : ClassId, ArrOfT s c ty ∧ s.vm.findClass ("[" ++ ty.toString) = some c := by
  obtain ⟨c, k, comp, h1, h2, h3⟩ := Cond.arrayClass_spec h
  exact ⟨c, fun N z => ⟨(fun k h => by cases h), k, h2, comp, h3⟩, h1⟩
theorem am_startK (hts : ∀ w ∈ lw_tbl, w.before #[Value.ref b] s = true) : ∃ (D : va_G) (cA : Nat → ClassId), va_K D vwCl (am_tys cA) s := by
  have h0 : ∀ ci : Nat, ∃ x : ClassId × (Nat → Nat), ∀ q : vw_C, vwCl[ci]? = some q → u_Kn s q.1 q.2.1 q.2.2 x.1 x.2 := by
    intro ci
    cases hq : vwCl[ci]? with
    | none => exact ⟨(0, fun _ => 0), fun q h => by cases h⟩
    | some q =>
      obtain ⟨n, hn⟩ := am_inst ci q hq
      obtain ⟨cC, iS, h⟩ := u_known (ws := lw_tbl) (C := q.1) (T := q.2.1) (N := q.2.2) hts (fun w hw => (List.mem_filter.mp ((am_clall ci q hq).1 w hw)).1) (hts _ hn)
      exact ⟨(cC, iS), fun q' h' => by cases h'; exact h⟩
  obtain ⟨f, hf⟩ := Classical.axiomOfChoice h0
  obtain ⟨c0, a0, b0⟩ := am_arrOf (hts _ (am_tbw (w := .arrayClass .int) 242 (by decide +kernel)))
  obtain ⟨c1, a1, b1⟩ := am_arrOf (hts _ (am_tbw (w := .arrayClass .boolean) 1558 (by decide +kernel)))
  obtain ⟨c2, a2, b2⟩ := am_arrOf (hts _ (am_tbw (w := .arrayClass .long) 1930 (by decide +kernel)))
  obtain ⟨comp, c3, k3, h1, h2, h3, h4, h5⟩ := Cond.arrayOver_spec (hts _ (am_tbw (w := .arrayOver (.object "java/lang/String")) 1327 (by decide +kernel)))
  refine ⟨(fun c => (f c).1, fun c => (f c).2), fun k => match k with
    | 0 => c0
    | 1 => c1
    | 2 => c2
    | _ => c3, fun c q hq => hf c q hq, fun k q hq => ?_⟩
  match k, hq with
  | 0, hq => cases hq; exact ⟨a0, b0⟩
  | 1, hq => cases hq; exact ⟨a1, b1⟩
  | 2, hq => cases hq; exact ⟨a2, b2⟩
  | 3, hq => cases hq; exact ⟨fun N z => ⟨(fun k h => by cases h), k3, h3, comp, h4⟩, k3, comp, h3, h4, h1, h5⟩
  | k + 4, hq => simp [am_tys] at hq
theorem am_startN (hts : ∀ w ∈ lw_tbl, w.before #[Value.ref b] s = true) : ∀ w ∈ gN, va_Nw w s := by
  intro w hw
  obtain ⟨h1, h2⟩ := List.mem_filter.mp hw
  have h3 : w ∈ lw_tbl := List.mem_append_right _ h1
  have h4 := hts w h3
  unfold am_isN at h2
  split at h2
  · exact va_tabs rfl rfl h4
  · exact va_tabs rfl rfl h4
  · cases h2
theorem am_startS (hts : ∀ w ∈ lw_tbl, w.before #[Value.ref b] s = true) (hF : ∀ w ∈ am_F, w.before #[Value.ref b] s = true) : ∃ ext : Nat → Nat, am_X ext (fun q => s.heap.size ≤ q) s s.heap ∧ ext 99 = b := by
  have hA : ∀ a : Nat, a < s.heap.size → ¬ (fun q => s.heap.size ≤ q) a := fun a h => Nat.not_le.mpr h
  have key : ∀ k : Nat, ∃ q : Nat × Nat, k < 27 → vk_R (am_sT k).1 (am_sT k).2.1 (am_sT k).2.2 q.1 s ∧ va_O "java/lang/String" q.1 (fun q => s.heap.size ≤ q) s s.heap ∧ va_OF "java/lang/String" "coder" "B" (.int 0) q.1 (fun q => s.heap.size ≤ q) s s.heap ∧ va_OF "java/lang/String" "value" "[B" (.ref q.2) q.1 (fun q => s.heap.size ≤ q) s s.heap ∧ va_T .byte q.2 (am_sB.getD k []).length (fun j => .int ((am_sB.getD k []).getD j 0)) (fun q => s.heap.size ≤ q) s s.heap := by
    intro k
    by_cases hk : k < 27
    · have h0 := List.all_eq_true.mp am_sck_ok k (List.mem_range.mpr hk)
      unfold am_sck at h0
      simp only [Bool.and_eq_true, decide_eq_true_eq] at h0
      obtain ⟨e1, e2, e3, e4, e5, e6, e7⟩ := h0
      have w1 := hF _ (List.mem_of_getElem? e1)
      have w2 := hF _ (List.mem_of_getElem? e2)
      have w3 := hF _ (List.mem_of_getElem? e3)
      have w4 := hF _ (List.mem_of_getElem? e4)
      have hlt : (am_sB.getD k []).length < 1000 := Nat.le_of_ble_eq_true e7
      obtain ⟨a, c, cA, kA, q1, q2, q3, q4, q5, q6, -⟩ := Cond.exactly_spec (args := #[Value.ref b]) (first := s) (o := none) (s := s) (idx := []) (t := am_tS k) (cls := "java/lang/String") w1
      obtain ⟨t, ht, hT⟩ := va_Tof (f := fun j => .int ((am_sB.getD k []).getD j 0)) (A := fun q => s.heap.size ≤ q) (by omega) w3 (va_eqt w4) (fun j hj => va_eqt (hF _ (List.mem_of_getElem? (of_decide_eq_true (List.all_eq_true.mp e5 j (List.mem_range.mpr hj)))))) hA
      refine ⟨(a, t), fun _ => ⟨vk_R.of (A := #[Value.ref b]) ?_ ?_, ⟨cA, q3, q5, by rw [q6]; exact q2, hA a (Array.getElem?_eq_some_iff.mp q3).1⟩, vk_OFof q1 (va_eqt w2) hA, vk_OFof q1 ht hA, hT⟩⟩
      · exact hts _ (List.mem_of_getElem? e6)
      · exact q1
    · exact ⟨(0, 0), fun h => absurd h hk⟩
  obtain ⟨f, hf⟩ := Classical.axiomOfChoice key
  have zc : va_Z "java/lang/String" "COMPACT_STRINGS" "Z" (.int 1) (fun q => s.heap.size ≤ q) s s.heap := va_Zof (hts _ (am_tbw (w := .laysStatic "java/lang/String" "COMPACT_STRINGS" "Z") 983 (by decide +kernel))) (hts _ (am_tbw (w := .initialized "java/lang/String") 188 (by decide +kernel))) (va_eqt (hF _ (List.mem_of_getElem? (i := 6) (by decide +kernel)))) hA
  have zs : va_Zq "jdk/internal/util/Preconditions" "SIOOBE_FORMATTER" "Ljava/util/function/BiFunction;" (fun q => s.heap.size ≤ q) s s.heap := va_Zqof (hts _ (am_tbw (w := .laysStatic "jdk/internal/util/Preconditions" "SIOOBE_FORMATTER" "Ljava/util/function/BiFunction;") 999 (by decide +kernel))) (hts _ (am_tbw (w := .initialized "jdk/internal/util/Preconditions") 190 (by decide +kernel))) (hF _ (List.mem_of_getElem? (i := 7) (by decide +kernel))) hA
  obtain ⟨v0, z0, hv0, hz⟩ : ∃ (v0 : Value) (z0 : Nat), (v0 = .null ∨ v0 = .ref z0) ∧ va_Z "jdk/internal/util/Preconditions" "SIOOBE_FORMATTER" "Ljava/util/function/BiFunction;" v0 (fun q => s.heap.size ≤ q) s s.heap := by
    rcases zs with h | ⟨t, h⟩
    · exact ⟨.null, 0, Or.inl rfl, h⟩
    · exact ⟨.ref t, t, Or.inr rfl, h⟩
  obtain ⟨ext, he⟩ : ∃ ext : Nat → Nat, ext = fun k => if k < 27 then (f k).1 else if k < 54 then (f (k - 27)).2 else if k = 98 then z0 else b := ⟨_, rfl⟩
  have ea : ∀ k, k < 27 → ext k = (f k).1 := fun k hk => by rw [he]; exact if_pos hk
  have eb : ∀ k, k < 27 → ext (am_sn + k) = (f k).2 := fun k hk => by
    rw [he]
    show (if 27 + k < 27 then (f (27 + k)).1 else if 27 + k < 54 then (f (27 + k - 27)).2 else if 27 + k = 98 then z0 else b) = (f k).2
    rw [if_neg (by omega), if_pos (by omega), Nat.add_sub_cancel_left]
  have ec : ext 98 = z0 := by rw [he]; rfl
  refine ⟨ext, ⟨fun k hk => ?_, zc, v0, by rw [ec]; exact hv0, hz⟩, by rw [he]; rfl⟩
  have hk : k < 27 := hk
  rw [ea k hk, eb k hk]
  exact hf k hk
theorem am_startT (hts : ∀ w ∈ lw_tbl, w.before #[Value.ref b] s = true) (hF : ∀ w ∈ am_F, w.before #[Value.ref b] s = true) : am_XT (fun q => s.heap.size ≤ q) s s.heap := by
  have hA : ∀ a : Nat, a < s.heap.size → ¬ (fun q => s.heap.size ≤ q) a := fun a h => Nat.not_le.mpr h
  refine ⟨?_, ?_, ?_, ?_⟩
  · intro q hq
    obtain ⟨k, hk⟩ := List.getElem?_of_mem hq
    have hk14 : k < 14 := (List.getElem?_eq_some_iff.mp hk).1
    have h0 := List.all_eq_true.mp am_xck_ok k (List.mem_range.mpr hk14)
    unfold am_xck at h0
    rw [hk] at h0
    simp only [Bool.and_eq_true, decide_eq_true_eq] at h0
    obtain ⟨e1, e2⟩ := h0
    obtain ⟨a, c, cA, kA, q1, -⟩ := Cond.exactly_spec (args := #[Value.ref b]) (first := s) (o := none) (s := s) (idx := []) (t := .string "SendHall" q.1) (cls := "java/lang/String") (hF _ (List.mem_of_getElem? e1))
    exact ⟨a, vk_R.of (A := #[Value.ref b]) (hts _ (List.mem_of_getElem? e2)) q1⟩
  · exact vx_Zqof (hts _ (am_tbw 900 (by decide +kernel))) (hts _ (am_tbw 184 (by decide +kernel))) (hF _ (List.mem_of_getElem? (i := 4) (by decide +kernel))) hA
  · exact vx_Zqof (hts _ (am_tbw 902 (by decide +kernel))) (hts _ (am_tbw 184 (by decide +kernel))) (hF _ (List.mem_of_getElem? (i := 5) (by decide +kernel))) hA
  · intro w hw a
    have h1 : w ∈ lw_tbl := by
      have h2 : ∀ z ∈ am_nw, z ∈ lw_tbl := by
        intro z hz
        obtain ⟨k, hk⟩ := List.getElem?_of_mem hz
        have hk6 : k < 6 := (List.getElem?_eq_some_iff.mp hk).1
        have h3 : ∀ k, k < 6 → ∀ z, am_nw[k]? = some z → lw_tbl[([[907, 877, 879, 881, 875, 1150]] : List (List Nat)).flatten.getD k 0]? = some z := by
          intro k hk z hz
          have h4 : (List.range 6).all (fun k => decide (lw_tbl[([[907, 877, 879, 881, 875, 1150]] : List (List Nat)).flatten.getD k 0]? = am_nw[k]?)) = true := by decide +kernel
          have h5 := of_decide_eq_true (List.all_eq_true.mp h4 k (List.mem_range.mpr hk))
          rw [h5]
          exact hz
        exact List.mem_of_getElem? (h3 k hk6 z hk)
      exact h2 w hw
    exact am_nw_ok (Vm.Alike.refl s.vm) hw (hts w h1)
theorem am_start (l : Launch) {p : Program} {m : MethodId} {meth : Method} {c : Code} {L : Nat} {xs : Nat → Int32} (C0 : lw_At p s m meth c b L xs) : ∃ (D : va_G) (cA : Nat → ClassId) (ext : Nat → Nat), am_St l D cA ext s b := by
  obtain ⟨hx, hb, hret, hml, hown, hts, hsc, hbl, hlocks, hgv⟩ := C0
  have hF : ∀ w ∈ am_F, w.before #[Value.ref b] s = true := flat_of_before _ hgv
  obtain ⟨D, cA, hK⟩ := am_startK hts
  obtain ⟨ext, hX, h99⟩ := am_startS hts hF
  exact ⟨D, cA, ext, hK, am_startN hts, hX, am_startT hts hF, va_AO.of (hts _ (am_tbw (w := .arrayOver (.object "java/lang/String")) 1327 (by decide +kernel))), h99⟩
/-- THE MACHINE'S SIDE, WHOLE: the law comes to its end with true, if its mirror does -/
theorem am_whole {p : Program} {e : Env} {s : State} {m : MethodId} {below : List Frame} {meth : Method} {c : Code} (l : Launch) (hflags : l.flags = flags0) {b L : Nat} {xs : Nat → Int32} (C0 : lw_At p s m meth c b L xs) (n : Nat) (h : L_loop n L xs 513 chi0 sg0 ta0 ou0 rh0 0 = some true) : W p l e room_1 s m #[Value.ref b] below meth c s.heap [] 0 0 (lw_Z below #[Value.ref b] s) (entryFrame m ([Value.ref b] : List Value).toArray 7) := by
  obtain ⟨D, cA, ext, hSt⟩ := am_start l C0
  have hst : l.stackTraces = false := by
    unfold Launch.stackTraces
    rw [hflags]
    decide +kernel
  exact am_law l C0 hSt dL_law (fun V hV => p_L_start hst hV n h)
end AMST
