/-- the string constants that are read: whose pool, which entry, the text; .retAddr k is the k-th -/
def am_sL : List (String × Nat × String) := [("SendHall$Tape", 67, "send meet begin wait any done all sum set tell if a b c d me n from mark word long into most then else end"), ("SendHallModel", 11, "send"), ("SendHallModel", 13, "meet"), ("SendHallModel", 15, "begin"), ("SendHallModel", 17, "wait"), ("SendHallModel", 19, "any"), ("SendHallModel", 21, "done"), ("SendHallModel", 23, "all"), ("SendHallModel", 25, "sum"), ("SendHallModel", 27, "set"), ("SendHallModel", 29, "tell"), ("SendHallModel", 31, "if"), ("SendHallModel", 37, "a"), ("SendHallModel", 39, "b"), ("SendHallModel", 41, "c"), ("SendHallModel", 43, "d"), ("SendHallModel", 45, "me"), ("SendHallModel", 47, "n"), ("SendHallModel", 49, "from"), ("SendHallModel", 284, "mark"), ("SendHallModel", 290, "word"), ("SendHallModel", 291, "long"), ("SendHallModel", 293, "into"), ("SendHallModel", 297, "most"), ("SendHallModel", 302, "then"), ("SendHallModel", 306, "else"), ("SendHallModel", 308, "end")]
def am_sn : Nat := 27
def am_sB : List (List Int32) := [[115, 101, 110, 100, 32, 109, 101, 101, 116, 32, 98, 101, 103, 105, 110, 32, 119, 97, 105, 116, 32, 97, 110, 121, 32, 100, 111, 110, 101, 32, 97, 108, 108, 32, 115, 117, 109, 32, 115, 101, 116, 32, 116, 101, 108, 108, 32, 105, 102, 32, 97, 32, 98, 32, 99, 32, 100, 32, 109, 101, 32, 110, 32, 102, 114, 111, 109, 32, 109, 97, 114, 107, 32, 119, 111, 114, 100, 32, 108, 111, 110, 103, 32, 105, 110, 116, 111, 32, 109, 111, 115, 116, 32, 116, 104, 101, 110, 32, 101, 108, 115, 101, 32, 101, 110, 100],
  [115, 101, 110, 100],
  [109, 101, 101, 116],
  [98, 101, 103, 105, 110],
  [119, 97, 105, 116],
  [97, 110, 121],
  [100, 111, 110, 101],
  [97, 108, 108],
  [115, 117, 109],
  [115, 101, 116],
  [116, 101, 108, 108],
  [105, 102],
  [97],
  [98],
  [99],
  [100],
  [109, 101],
  [110],
  [102, 114, 111, 109],
  [109, 97, 114, 107],
  [119, 111, 114, 100],
  [108, 111, 110, 103],
  [105, 110, 116, 111],
  [109, 111, 115, 116],
  [116, 104, 101, 110],
  [101, 108, 115, 101],
  [101, 110, 100]]
def am_sT (k : Nat) : String × Nat × String := am_sL.getD k ("", 0, "")
/-- what lies outside the worlds: the string constants (.retAddr k: the k-th; .retAddr (am_sn + k): its bytes; .retAddr 98: a thing of the JDK that is handed on) -/
def am_X (ext : Nat → Nat) (A : Nat → Prop) (U : State) (H : Heap) : Prop := (∀ k, k < am_sn → vk_R (am_sT k).1 (am_sT k).2.1 (am_sT k).2.2 (ext k) U ∧ va_O "java/lang/String" (ext k) A U H ∧ va_OF "java/lang/String" "coder" "B" (.int 0) (ext k) A U H ∧ va_OF "java/lang/String" "value" "[B" (.ref (ext (am_sn + k))) (ext k) A U H ∧ va_T .byte (ext (am_sn + k)) (am_sB.getD k []).length (fun j => .int ((am_sB.getD k []).getD j 0)) A U H) ∧ va_Z "java/lang/String" "COMPACT_STRINGS" "Z" (.int 1) A U H ∧ ∃ v0 : Value, (v0 = .null ∨ v0 = .ref (ext 98)) ∧ va_Z "jdk/internal/util/Preconditions" "SIOOBE_FORMATTER" "Ljava/util/function/BiFunction;" v0 A U H
theorem am_X.move {ext : Nat → Nat} {A B : Nat → Prop} {u U : State} {H H1 : Heap} (h : am_X ext A u H) (hW : u.WarmedH U.vm) (hq : ∀ a : Nat, a < H.size → ¬ A a → H1[a]? = H[a]?) (hAB : ∀ q, B q → A q) : am_X ext B U H1 := by
  obtain ⟨h, g1, v0, g2, g3⟩ := h
  have hv := hW.alike
  refine ⟨fun k hk => ?_, ((g1.kept hq).narrow hAB).moved hv, v0, g2, ((g3.kept hq).narrow hAB).moved hv⟩
  obtain ⟨h1, h2, h3, h4, h5⟩ := h k hk
  exact ⟨h1.warm hW, ((h2.kept hq).narrow hAB).moved hv, ((h3.kept hq).narrow hAB).moved hv, ((h4.kept hq).narrow hAB).moved hv, ((h5.kept hq).narrow hAB).moved hv⟩
theorem am_X.same {ext : Nat → Nat} {A : Nat → Prop} {u U : State} {H : Heap} (h : am_X ext A u H) (hv : U.vm = u.vm) : am_X ext A U H := by
  obtain ⟨h, g1, v0, g2, g3⟩ := h
  have ha : u.vm.Alike U.vm := by rw [hv]; exact Vm.Alike.refl _
  refine ⟨fun k hk => ?_, g1.moved ha, v0, g2, g3.moved ha⟩
  obtain ⟨h1, h2, h3, h4, h5⟩ := h k hk
  exact ⟨h1.same hv, h2.moved ha, h3.moved ha, h4.moved ha, h5.moved ha⟩
/-- a method's start, its end -/
def am_S (D : va_G) (cA : Nat → ClassId) (ad ext : Nat → Nat) (sz : Nat) (ws : am_W) (U : State) : Prop := U.heap.size = sz ∧ va_P D vwCl (am_w cA ad ext ws) U.heap ∧ va_K D vwCl (am_tys cA) U ∧ va_D (fun _ => True) (am_w cA ad ext ws) ∧ (∀ w ∈ gN, va_Nw w U) ∧ am_X ext (va_A (am_w cA ad ext ws) sz) U U.heap
def am_Q (D : va_G) (cA : Nat → ClassId) (ad ext : Nat → Nat) (len : Nat) (Post : Option Value → am_W → Prop) (A : Nat → Prop) : Array Value → State → Outcome → State → Prop := fun _ st oc t => (∃ (r : Option Value) (w : am_W), Post r w ∧ w.length = len ∧ oc = .returned (r.map (am_v ad ext)) ∧ va_P D vwCl (am_w cA ad ext w) t.heap) ∧ va_F A st t
def am_rm (d mc ms : Nat) : Room := { frames := d, cells := mc, slots := ms, locals := 60 * d }
/-- a contract over worlds by places; the method makes no cells -/
def am_Con (l : Launch) (y : MethodName) (bytes : ByteArray) (maxL : Nat) (ret : Option FieldType) (d : Nat) (as : List Value) (ws : am_W) (Post : Option Value → am_W → Prop) : Prop := ∀ (D : va_G) (cA : Nat → ClassId) (ad ext : Nat → Nat) (sz : Nat),
  Met l y (.code y bytes maxL ret :: gW) (am_rm d 0 0) (va_Pc (as.map (am_v ad ext)) (am_S D cA ad ext sz ws)) (am_Q D cA ad ext ws.length Post (va_A (am_w cA ad ext ws) sz)) 0 0 (va_A (am_w cA ad ext ws) sz)
theorem am_S_blind {D : va_G} {cA : Nat → ClassId} {ad ext : Nat → Nat} {sz : Nat} {ws : am_W} {av : List Value} : FrameBlind (va_Pc av (am_S D cA ad ext sz ws)) := by
  intro a U g mk h
  obtain ⟨h0, h1, h2, h3, h4, h5, h6⟩ := h
  exact ⟨h0, h1, h2, va_K.moved (u := U) (U := U.calling g mk a) (Vm.Alike.refl U.vm) h3, h4, gN_same (u := U) (U := U.calling g mk a) rfl h5, am_X.same (u := U) (U := U.calling g mk a) h6 rfl⟩
/-- the callee's places among the caller's -/
def am_rv (js : List Nat) (v : Value) : Value := match v with
  | .ref k => .ref (js.getD k 0)
  | .retAddr k => .retAddr k
  | .int x => .int x
  | .long x => .long x
  | .float x => .float x
  | .double x => .double x
  | .null => .null
def am_re (js : List Nat) (e : am_E) : am_E := match e with
  | .inl a => .inl a
  | .inr (ci, fs) => .inr (ci, fs.map (am_rv js))
def am_zip (js : List Nat) (w : am_W) : List (Nat × am_E) := js.zip (w.map (am_re js))
def am_sets (ws : am_W) (l : List (Nat × am_E)) : am_W := match l with
  | [] => ws
  | q :: r => am_sets (ws.set q.1 q.2) r
def am_putb (ws : am_W) (js : List Nat) (w : am_W) : am_W := am_sets ws (am_zip js w)
theorem am_rv_v {ad ext : Nat → Nat} {js : List Nat} (v : Value) : am_v ad ext (am_rv js v) = am_v (fun k => ad (js.getD k 0)) ext v := by cases v <;> rfl
theorem am_re_e {cA : Nat → ClassId} {ad ext : Nat → Nat} {js : List Nat} (e : am_E) : am_e cA ad ext (am_re js e) = am_e cA (fun k => ad (js.getD k 0)) ext e := by
  cases e with
  | inl a => rfl
  | inr o =>
    obtain ⟨ci, fs⟩ := o
    simp only [am_re, am_e, List.map_map]
    congr 2
    apply List.map_congr_left
    intro v _
    exact am_rv_v v
theorem am_sets_len {ws : am_W} {l : List (Nat × am_E)} : (am_sets ws l).length = ws.length := by
  induction l generalizing ws with
  | nil => rfl
  | cons q r ih => rw [am_sets, ih, List.length_set]
theorem am_sets_ne {ws : am_W} {l : List (Nat × am_E)} {k : Nat} (h : ∀ q ∈ l, q.1 ≠ k) : (am_sets ws l)[k]? = ws[k]? := by
  induction l generalizing ws with
  | nil => rfl
  | cons q r ih =>
    rw [am_sets, ih (fun x hx => h x (List.mem_cons_of_mem _ hx)), List.getElem?_set_ne (h q List.mem_cons_self)]
theorem am_sets_eq {ws : am_W} {l : List (Nat × am_E)} {i k : Nat} {e : am_E} (hi : l[i]? = some (k, e)) (hn : ∀ (a b : Nat) (p q : Nat × am_E), l[a]? = some p → l[b]? = some q → p.1 = q.1 → a = b) (hk : k < ws.length) : (am_sets ws l)[k]? = some e := by
  induction l generalizing ws i with
  | nil => cases hi
  | cons q r ih =>
    cases i with
    | zero =>
      cases hi
      rw [am_sets, am_sets_ne, List.getElem?_set_self hk]
      intro x hx hxe
      obtain ⟨j, hj⟩ := List.getElem?_of_mem hx
      have := hn (j + 1) 0 x (k, e) (by simpa using hj) rfl hxe
      omega
    | succ i =>
      rw [am_sets]
      refine ih (i := i) hi (fun a b p q' ha hb he => ?_) (by rw [List.length_set]; exact hk)
      have := hn (a + 1) (b + 1) p q' (by simpa using ha) (by simpa using hb) he
      omega
theorem am_wD {cA : Nat → ClassId} {ad ext : Nat → Nat} {A : Nat → Prop} {ws w2 : am_W} (h : va_D A (am_w cA ad ext ws)) (hl : w2.length = ws.length) : va_D A (am_w cA ad ext w2) := by
  have key : ∀ (k : Nat) (q : Nat × va_E), (am_w cA ad ext w2)[k]? = some q → ∃ q0, (am_w cA ad ext ws)[k]? = some q0 ∧ q0.1 = q.1 := by
    intro k q hk
    simp only [am_w, List.getElem?_mapIdx] at hk ⊢
    cases h2 : w2[k]? with
    | none => rw [h2] at hk; cases hk
    | some e2 =>
      rw [h2] at hk
      have hlt : k < ws.length := by rw [← hl]; exact (List.getElem?_eq_some_iff.mp h2).1
      rw [List.getElem?_eq_getElem hlt]
      refine ⟨_, rfl, ?_⟩
      have := Option.some.inj hk
      rw [← this]
  refine ⟨fun i j p q hi hj he => ?_, fun k q hk => ?_⟩
  · obtain ⟨p0, a1, a2⟩ := key i p hi
    obtain ⟨q0, b1, b2⟩ := key j q hj
    exact h.1 i j p0 q0 a1 b1 (by rw [a2, b2, he])
  · obtain ⟨q0, a1, a2⟩ := key k q hk
    rw [← a2]
    exact h.2 k q0 a1
theorem am_w_inv {cA : Nat → ClassId} {ad ext : Nat → Nat} {ws : am_W} {k : Nat} {q : Nat × va_E} (h : (am_w cA ad ext ws)[k]? = some q) : ∃ e, ws[k]? = some e ∧ q = (ad k, am_e cA ad ext e) := by
  simp only [am_w, List.getElem?_mapIdx] at h
  cases h2 : ws[k]? with
  | none => rw [h2] at h; cases h
  | some e => rw [h2] at h; exact ⟨e, rfl, (Option.some.inj h).symm⟩
section AMC
variable {p : Program} {l : Launch} {e : Env} {R : Room} {s : State} {m : MethodId} {args : Array Value} {below : List Frame} {meth : Method} {c : Code} {cc : ByteArray} {nL : Nat} {own : String} {D : va_G} {cA : Nat → ClassId} {ad ext : Nat → Nat} {A : Nat → Prop} {H0 : Heap} {cells slots : Nat} {Q : State → Prop} {ini : Bool}
theorem am_code_good {y : MethodName} {bytes : ByteArray} {maxL : Nat} {ret : Option FieldType} (h : Cond.code y bytes maxL ret ∈ gW) : GoodIn gW (Cond.code y bytes maxL ret :: gW) := by
  intro w hw
  rcases List.mem_cons.mp hw with rfl | hw
  · exact gW_good _ h
  · exact gW_good _ hw
/-- behind a call -/
theorem am_back {H : Heap} {locs : List Loc} {ws wc : am_W} {js : List Nat} {pc : Nat} {ls : am_L} {L : Array Slot} {rest : List Value} {Post : Option Value → am_W → Prop} {st1 : List Value} {aa : Array Value} (hP : va_P D vwCl (am_w cA ad ext ws) H) (hD : va_D A (am_w cA ad ext ws)) (hS : va_S A H0 H locs) (hA : ∀ q : Nat, H0.size ≤ q → A q) (hl : lv_has L nL (am_vl ad ext ls))
    (hjs : (js.take wc.length).map (fun j => ws[j]?) = wc.map (fun x => some (am_re js x))) (hnd : va_nd (js.take wc.length) = true)
    (hr : va_Run p l e R s m args below meth c H locs cells slots 0 0 (F0 m pc L st1) (rest.map (am_v ad ext)) (am_Q D cA (fun k => ad (js.getD k 0)) ext wc.length Post (va_A (am_w cA (fun k => ad (js.getD k 0)) ext wc) H.size) aa) (va_A (am_w cA (fun k => ad (js.getD k 0)) ext wc) H.size))
    (kk : ∀ (r : Option Value) (w : am_W), Post r w → w.length = wc.length → am_V p l e R s m args below meth c nL D cA ad ext A H0 cells slots Q (am_putb ws js w) (pc + 3) ls ((r.map (am_rv js)).toList ++ rest)) : W p l e R s m args below meth c H locs cells slots Q (F0 m pc L st1) := by
  intro T hT X
  obtain ⟨v, st₀, t, T', L1, h0, X', hL1, e1, e2, ⟨⟨r, w, hpost, hwl, hoc, hP1⟩, hz, hk⟩, st⟩ := hr T hT X
  have hv : v = r.map (am_v (fun k => ad (js.getD k 0)) ext) := by
    have := Outcome.returned.inj hoc
    exact this
  rw [h0] at hz hk
  obtain ⟨j0, hj0⟩ : ∃ j0, js.take wc.length = j0 := ⟨_, rfl⟩
  rw [hj0] at hjs hnd
  have hjl : j0.length = wc.length := by
    have := congrArg List.length hjs
    simpa using this
  have hjg : ∀ i j : Nat, j0[i]? = some j → ∃ x, wc[i]? = some x ∧ ws[j]? = some (am_re js x) := by
    intro i j hij
    have h1 : (j0.map (fun j => ws[j]?))[i]? = some ws[j]? := by rw [List.getElem?_map, hij]; rfl
    rw [hjs, List.getElem?_map] at h1
    cases hw : wc[i]? with
    | none => rw [hw] at h1; cases h1
    | some x => rw [hw] at h1; exact ⟨x, rfl, (Option.some.inj h1).symm⟩
  have hj0g : ∀ i : Nat, i < wc.length → j0[i]? = js[i]? := fun i hi => by rw [← hj0, List.getElem?_take, if_pos hi]
  have hj0l : ∀ i j : Nat, j0[i]? = some j → i < wc.length := fun i j h => by rw [← hjl]; exact (List.getElem?_eq_some_iff.mp h).1
  have hgd : ∀ i j : Nat, j0[i]? = some j → js.getD i 0 = j := fun i j h => by
    rw [hj0g i (hj0l i j h)] at h
    simp [List.getD_eq_getElem?_getD, h]
  -- the callee's cells are the caller's
  have hAin : ∀ q, va_A (am_w cA (fun k => ad (js.getD k 0)) ext wc) H.size q → A q := by
    intro q hq
    rcases hq with ⟨k, x, hx⟩ | hq
    · obtain ⟨y, hy, he⟩ := am_w_inv hx
      have hk1 : k < j0.length := by rw [hjl]; exact (List.getElem?_eq_some_iff.mp hy).1
      obtain ⟨z, hz1, hz2⟩ := hjg k j0[k] (List.getElem?_eq_getElem hk1)
      have := hD.2 j0[k] _ (am_w_get hz2)
      have hq2 : q = ad (js.getD k 0) := congrArg Prod.fst he
      rw [hq2, hgd k j0[k] (List.getElem?_eq_getElem hk1)]
      exact this
    · exact hA q (Nat.le_trans hS.1 hq)
  have hS1 : va_S A H0 T'.heap (locs ++ L1) := by
    refine ⟨Nat.le_trans hS.1 (by rw [e1]; exact hz), fun q h1 h2 => ?_, fun q hq => ?_⟩
    · rw [e1, hk q (Nat.lt_of_lt_of_le h1 hS.1) (fun z => h2 (hAin q z))]
      exact hS.2.1 q h1 h2
    · rcases List.mem_append.mp hq with h | h
      · exact hS.2.2 q h
      · exact hAin _ (hL1 q h)
  have hlen2 : (am_putb ws js w).length = ws.length := am_sets_len
  have hzg : ∀ (i : Nat) (q : Nat × am_E), (am_zip js w)[i]? = some q → ∃ x, j0[i]? = some q.1 ∧ w[i]? = some x ∧ q.2 = am_re js x := by
    intro i q hi
    unfold am_zip at hi
    rw [List.getElem?_zip_eq_some] at hi
    obtain ⟨h1, h2⟩ := hi
    rw [List.getElem?_map] at h2
    cases hw : w[i]? with
    | none => rw [hw] at h2; cases h2
    | some x =>
      rw [hw] at h2
      have hiw : i < wc.length := by rw [← hwl]; exact (List.getElem?_eq_some_iff.mp hw).1
      exact ⟨x, by rw [hj0g i hiw]; exact h1, rfl, (Option.some.inj h2).symm⟩
  have hP2 : va_P D vwCl (am_w cA ad ext (am_putb ws js w)) T'.heap := by
    intro k q hq
    obtain ⟨e2', he2, rfl⟩ := am_w_inv hq
    have hkl : k < ws.length := by rw [← hlen2]; exact (List.getElem?_eq_some_iff.mp he2).1
    by_cases hin : k ∈ j0
    · obtain ⟨i, hi⟩ := List.getElem?_of_mem hin
      have hiw : i < w.length := by rw [hwl, ← hjl]; exact (List.getElem?_eq_some_iff.mp hi).1
      have hz1 : (am_zip js w)[i]? = some (k, am_re js w[i]) := by
        unfold am_zip
        rw [List.getElem?_zip_eq_some]
        exact ⟨by rw [← hj0g i (hj0l i k hi)]; exact hi, by rw [List.getElem?_map, List.getElem?_eq_getElem hiw]; rfl⟩
      have h3 : (am_putb ws js w)[k]? = some (am_re js w[i]) := am_sets_eq hz1 (fun a b p q ha hb he => by
        obtain ⟨_, a1, _, _⟩ := hzg a p ha
        obtain ⟨_, b1, _, _⟩ := hzg b q hb
        rw [← he] at b1
        exact va_nd_inj j0 hnd a b p.1 a1 b1) hkl
      rw [h3] at he2
      have he3 := Option.some.inj he2
      have h4 := hP1 i _ (am_w_get (cA := cA) (ad := fun k => ad (js.getD k 0)) (ext := ext) (List.getElem?_eq_getElem hiw))
      rw [e1, ← he3, am_re_e]
      have h5 : ad (js.getD i 0) = ad k := by rw [hgd i k hi]
      rw [h5] at h4
      exact h4
    · have h3 : (am_putb ws js w)[k]? = ws[k]? := am_sets_ne (fun x hx hxe => by
        obtain ⟨i, hi⟩ := List.getElem?_of_mem hx
        obtain ⟨_, h1, _, _⟩ := hzg i x hi
        rw [hxe] at h1
        exact hin (List.mem_of_getElem? h1))
      rw [h3] at he2
      have h4 := hP k _ (am_w_get (cA := cA) (ad := ad) (ext := ext) he2)
      refine h4.kept ?_
      show T'.heap[ad k]? = H[ad k]?
      rw [e1]
      refine hk (ad k) h4.lt ?_
      intro hq2
      rcases hq2 with ⟨i, x, hx⟩ | hq2
      · obtain ⟨y, hy, he⟩ := am_w_inv hx
        have hk1 : i < j0.length := by rw [hjl]; exact (List.getElem?_eq_some_iff.mp hy).1
        obtain ⟨z, hz1, hz2⟩ := hjg i j0[i] (List.getElem?_eq_getElem hk1)
        have hq3 : ad k = ad (js.getD i 0) := congrArg Prod.fst he
        rw [hgd i j0[i] (List.getElem?_eq_getElem hk1)] at hq3
        have := hD.1 k j0[i] _ _ (am_w_get he2) (am_w_get hz2) hq3
        exact hin (this ▸ List.getElem_mem hk1)
      · exact absurd h4.lt (Nat.not_lt.mpr hq2)
  have hD2 : va_D A (am_w cA ad ext (am_putb ws js w)) := am_wD hD hlen2
  have hkk := kk r w hpost hwl T'.heap (locs ++ L1) L hP2 hD2 hS1 hl
  have hstk : v.toList ++ rest.map (am_v ad ext) = ((r.map (am_rv js)).toList ++ rest).map (am_v ad ext) := by
    subst hv
    cases r with
    | none => rfl
    | some x => simp [am_rv_v]
  obtain ⟨t2, a1, b1⟩ := hkk T' rfl (X' : Stand p l e R s m args below meth c T' (locs ++ L1) cells slots)
  rw [← hstk] at a1
  exact ⟨t2, st t2 a1, b1⟩
end AMC
