/-! CONSTRUCTORS: the world grows at its end; the addresses of the places are found on the way -/
def am_clo (n : Nat) (v : Value) : Bool := match v with
  | .ref k => Nat.blt k n
  | _ => true
def am_clE (n : Nat) (e : am_E) : Bool := match e with
  | .inl _ => true
  | .inr (_, fs) => fs.all (am_clo n)
theorem am_clo_v {n : Nat} {ad ad' ext : Nat → Nat} (h : ∀ i, i < n → ad' i = ad i) {v : Value} (hv : am_clo n v = true) : am_v ad' ext v = am_v ad ext v := by
  cases v <;> try rfl
  rename_i k
  have hk : k < n := by simpa [am_clo, Nat.blt_eq] using hv
  show Value.ref (ad' k) = Value.ref (ad k)
  rw [h k hk]
theorem am_clo_l {n : Nat} {ad ad' ext : Nat → Nat} (h : ∀ i, i < n → ad' i = ad i) {l : List Value} (hv : l.all (am_clo n) = true) : l.map (am_v ad' ext) = l.map (am_v ad ext) :=
  List.map_congr_left (fun v hm => am_clo_v h (List.all_eq_true.mp hv v hm))
theorem am_clE_e {n : Nat} {cA : Nat → ClassId} {ad ad' ext : Nat → Nat} (h : ∀ i, i < n → ad' i = ad i) {e : am_E} (hv : am_clE n e = true) : am_e cA ad' ext e = am_e cA ad ext e := by
  cases e with
  | inl a => rfl
  | inr o =>
    obtain ⟨ci, fs⟩ := o
    show Sum.inr (ci, fs.map (am_v ad' ext)) = Sum.inr (ci, fs.map (am_v ad ext))
    rw [am_clo_l h hv]
theorem am_clW {n : Nat} {cA : Nat → ClassId} {ad ad' ext : Nat → Nat} (h : ∀ i, i < n → ad' i = ad i) {ws : am_W} (hl : ws.length ≤ n) (hv : ws.all (am_clE n) = true) : am_w cA ad' ext ws = am_w cA ad ext ws := by
  apply List.ext_getElem?
  intro k
  simp only [am_w, List.getElem?_mapIdx]
  cases hk : ws[k]? with
  | none => rfl
  | some e =>
    have hlt : k < ws.length := (List.getElem?_eq_some_iff.mp hk).1
    show some (ad' k, am_e cA ad' ext e) = some (ad k, am_e cA ad ext e)
    rw [h k (by omega), am_clE_e h (List.all_eq_true.mp hv e (List.mem_of_getElem? hk))]
theorem am_clL {n : Nat} {ad ad' ext : Nat → Nat} (h : ∀ i, i < n → ad' i = ad i) {ls : am_L} (hv : ls.all (fun q => am_clo n q.2) = true) : am_vl ad' ext ls = am_vl ad ext ls :=
  List.map_congr_left (fun q hm => by
    have h1 := am_clo_v (ext := ext) h (List.all_eq_true.mp hv q hm)
    show (q.1, am_v ad' ext q.2) = (q.1, am_v ad ext q.2)
    rw [h1])
def am_clS (n : Nat) (ws : am_W) (ls : am_L) (st : List Value) : Bool := ws.all (am_clE n) && (ls.all (fun q => am_clo n q.2) && st.all (am_clo n))
theorem am_w_app {cA : Nat → ClassId} {ad ext : Nat → Nat} {ws w2 : am_W} : am_w cA ad ext (ws ++ w2) = am_w cA ad ext ws ++ am_w cA (fun i => ad (ws.length + i)) ext w2 ↔ am_w cA ad ext (ws ++ w2) = am_w cA ad ext ws ++ am_w cA (fun i => ad (ws.length + i)) ext w2 := Iff.rfl
def am_S0 (D : va_G) (cA : Nat → ClassId) (ad ext : Nat → Nat) (sz : Nat) (ws : am_W) (U : State) : Prop := am_S D cA ad ext sz ws U ∧ va_AO "java/lang/String" U
theorem am_S0_blind {D : va_G} {cA : Nat → ClassId} {ad ext : Nat → Nat} {sz : Nat} {ws : am_W} {av : List Value} : FrameBlind (va_Pc av (am_S0 D cA ad ext sz ws)) := by
  intro a U g mk h
  obtain ⟨h0, h1, h2⟩ := h
  exact ⟨h0, (am_S_blind (av := av) a U g mk ⟨h0, h1⟩).2, va_AO.moved (u := U) (U := U.calling g mk a) (Vm.Alike.refl U.vm) h2⟩
def am_QN (D : va_G) (cA : Nat → ClassId) (ad ext : Nat → Nat) (sz n0 : Nat) (w : am_W) (A : Nat → Prop) : Array Value → State → Outcome → State → Prop := fun _ st oc t =>
  (∃ ad' : Nat → Nat, (∀ i, i < n0 → ad' i = ad i) ∧ oc = .returned none ∧ va_P D vwCl (am_w cA ad' ext w) t.heap ∧ va_D A (am_w cA ad' ext w) ∧ (∀ i, n0 ≤ i → i < w.length → sz ≤ ad' i)) ∧ va_F A st t
/-- a constructor's contract: out of the bare object comes the world w; mc cells of ms slots come -/
def am_CN (l : Launch) (y : MethodName) (bytes : ByteArray) (maxL d mc ms : Nat) (fr : am_E) (w : am_W) : Prop := ∀ (D : va_G) (cA : Nat → ClassId) (ad ext : Nat → Nat) (sz : Nat),
  Met l y (.code y bytes maxL none :: gW) (am_rm d mc ms) (va_Pc [.ref (ad 0)] (am_S0 D cA ad ext sz [fr])) (am_QN D cA ad ext sz 1 w (va_A (am_w cA ad ext [fr]) sz)) mc ms (va_A (am_w cA ad ext [fr]) sz)
def am_tyk (k : Nat) : Option FieldType := match k with
  | 0 => some .int
  | 1 => some .boolean
  | 2 => some .long
  | _ => none
section AMN
variable {p : Program} {l : Launch} {e : Env} {R : Room} {s : State} {m : MethodId} {args : Array Value} {below : List Frame} {meth : Method} {c : Code} {cc : ByteArray} {nL : Nat} {own : String} {D : va_G} {cA : Nat → ClassId} {ad0 ext : Nat → Nat} {A : Nat → Prop} {H0 : Heap} {cells slots n0 : Nat} {Q : State → Prop} {ini : Bool}
def am_VN (p : Program) (l : Launch) (e : Env) (R : Room) (s : State) (m : MethodId) (args : Array Value) (below : List Frame) (meth : Method) (c : Code) (nL : Nat) (D : va_G) (cA : Nat → ClassId) (ad0 ext : Nat → Nat) (A : Nat → Prop) (H0 : Heap) (n0 : Nat) (Q : State → Prop) (cells slots : Nat) (ws : am_W) (pc : Nat) (ls : am_L) (st : List Value) : Prop :=
  ∀ ad : Nat → Nat, (∀ i, i < n0 → ad i = ad0 i) → (∀ i, n0 ≤ i → i < n0 + cells → H0.size ≤ ad i) → am_V p l e R s m args below meth c nL D cA ad ext A H0 cells slots Q ws pc ls st
/-- one cell more -/
theorem am_grow (hAx : ∀ q, A q → (∃ k, k < n0 ∧ q = ad0 k) ∨ H0.size ≤ q) {ad : Nat → Nat} (h1 : ∀ i, i < n0 → ad i = ad0 i) (h2 : ∀ i, n0 ≤ i → i < n0 + cells → H0.size ≤ ad i) {ws : am_W} {e0 : am_E} {q : Nat} {x : va_E} (hlen : ws.length = n0 + cells) (hcl : ws.all (am_clE ws.length) = true) (hx : ∀ ad', am_e cA ad' ext e0 = x) (hD : va_D A (am_w cA ad ext ws ++ [(q, x)])) :
    ∃ ad' : Nat → Nat, (∀ i, i < ws.length → ad' i = ad i) ∧ ad' ws.length = q ∧ (∀ i, i < n0 → ad' i = ad0 i) ∧ (∀ i, n0 ≤ i → i < n0 + (cells + 1) → H0.size ≤ ad' i) ∧ am_w cA ad' ext (ws ++ [e0]) = am_w cA ad ext ws ++ [(q, x)] := by
  refine ⟨fun i => if i = ws.length then q else ad i, fun i hi => if_neg (by omega), if_pos rfl, fun i hi => ?_, fun i hi hi2 => ?_, ?_⟩
  · show (if i = ws.length then q else ad i) = ad0 i
    rw [if_neg (by omega)]
    exact h1 i hi
  · show H0.size ≤ (if i = ws.length then q else ad i)
    by_cases hk : i = ws.length
    · rw [if_pos hk]
      have hl2 : (am_w cA ad ext ws).length = ws.length := by simp [am_w]
      have hq : (am_w cA ad ext ws ++ [(q, x)])[ws.length]? = some (q, x) := by
        rw [List.getElem?_append_right (by omega), hl2, Nat.sub_self]
        rfl
      rcases hAx q (hD.2 _ _ hq) with ⟨k, hk1, hk2⟩ | h
      · exfalso
        have hkl : k < ws.length := by omega
        have hkk : (am_w cA ad ext ws ++ [(q, x)])[k]? = some (ad k, am_e cA ad ext ws[k]) := by
          rw [List.getElem?_append_left (by omega)]
          exact am_w_get (List.getElem?_eq_getElem hkl)
        have := hD.1 k ws.length _ _ hkk hq (by show ad k = q; rw [h1 k hk1, hk2])
        omega
      · exact h
    · rw [if_neg hk]
      exact h2 i hi (by omega)
  · have hag : ∀ i, i < ws.length → (fun i => if i = ws.length then q else ad i) i = ad i := fun i hi => if_neg (by omega)
    have e1 := am_clW (cA := cA) (ext := ext) hag (Nat.le_refl _) hcl
    apply List.ext_getElem?
    intro k
    by_cases hk : k < ws.length
    · rw [List.getElem?_append_left (by simp [am_w]; exact hk), ← e1]
      simp only [am_w, List.getElem?_mapIdx, List.getElem?_append_left hk]
    · have hl2 : (am_w cA ad ext ws).length = ws.length := by simp [am_w]
      rw [List.getElem?_append_right (by omega), hl2]
      simp only [am_w, List.getElem?_mapIdx]
      rw [List.getElem?_append_right (by omega)]
      by_cases hk2 : k = ws.length
      · subst hk2
        rw [Nat.sub_self]
        show some ((if ws.length = ws.length then q else ad ws.length), am_e cA _ ext e0) = some (q, x)
        rw [if_pos rfl, hx]
      · rw [List.getElem?_eq_none (by simp; omega), List.getElem?_eq_none (by simp; omega)]
        rfl
theorem am_new (K : am_K p s m args meth c cc nL own D cA ini) (hA : ∀ q : Nat, H0.size ≤ q → A q) (hAx : ∀ q, A q → (∃ k, k < n0 ∧ q = ad0 k) ∨ H0.size ≤ q) {idx ci N pc : Nat} {C : String} {T : u_T} {fs : List Value} {ws : am_W} {ls : am_L} {st : List Value} (ty : Nat → FieldType) (hdg : decode cc pc = .ok (.new idx, 3)) (hc : vwCl[ci]? = some (C, T, N)) (hty : ∀ k, k < N → parseFieldDescriptor (T k).2.2.1 = some (ty k)) (w1 : Cond.classLink own idx C ∈ gW) (w2 : Cond.instantiable C N ∈ gW) (w3 : Cond.initialized C ∈ gW) (hfs : ∀ j, j < N → defaultValue (ty j) = vp_V fs j) (hfr : ∀ ad ext : Nat → Nat, fs.map (am_v ad ext) = fs)
    (hlen : ws.length = n0 + cells) (hcl : am_clS ws.length ws ls st = true) (hcells : cells + 1 ≤ R.cells) (hslots : slots + N ≤ R.slots)
    (kk : am_VN p l e R s m args below meth c nL D cA ad0 ext A H0 n0 Q (cells + 1) (slots + N) (ws ++ [.inr (ci, fs)]) (pc + 3) ls (.ref ws.length :: st)) : am_VN p l e R s m args below meth c nL D cA ad0 ext A H0 n0 Q cells slots ws pc ls st := by
  intro ad h1 h2 H locs L hP hD hS hl
  obtain ⟨hx, hb, hml, hown, hts, hlk, hN, hK, hI⟩ := id K
  obtain ⟨hcl1, hcl2⟩ := (Bool.and_eq_true _ _).mp hcl
  obtain ⟨hcl2, hcl3⟩ := (Bool.and_eq_true _ _).mp hcl2
  refine va_new (ci := ci) (fs := fs) hx hb hts (am_clall ci _ hc).1 ty hty hown (hts _ w1) (hts _ w2) (hts _ w3) hK hP hD hS hA hc hfs hcells hslots hdg ?_
  intro q H1 hP1 hD1 hS1
  obtain ⟨ad', g1, g2, g3, g4, g5⟩ := am_grow (e0 := .inr (ci, fs)) hAx h1 h2 hlen hcl1 (fun ad' => by show Sum.inr (ci, fs.map (am_v ad' ext)) = _; rw [hfr]) hD1
  have hkk := kk ad' g3 g4 H1 locs L (by rw [g5]; exact hP1) (by rw [g5]; exact hD1) hS1 (by rw [am_clL g1 hcl2]; exact hl)
  have e2 : (.ref ws.length :: st).map (am_v ad' ext) = .ref q :: st.map (am_v ad ext) := by
    rw [List.map_cons, am_clo_l g1 hcl3]
    show Value.ref (ad' ws.length) :: _ = _
    rw [g2]
  rw [e2] at hkk
  exact hkk
theorem am_newa (K : am_K p s m args meth c cc nL own D cA ini) (hA : ∀ q : Nat, H0.size ≤ q → A q) (hAx : ∀ q, A q → (∃ k, k < n0 ∧ q = ad0 k) ∨ H0.size ≤ q) {k N pc : Nat} {t : ArrayType} {ty : FieldType} {a0 : vp_A} {n : Int32} {ws : am_W} {ls : am_L} {st : List Value} (hdg : decode cc pc = .ok (.newarray t, 2)) (hty : newarray.typeOf t = ty) (hk : am_tyk k = some ty) (w1 : Cond.arrayClass ty ∈ gW) (ha : ∀ cA : ClassId, vp_cell cA a0 = arrV cA N (fun _ => defaultValue ty)) (hax : ∀ ext : Nat → Nat, am_a ext a0 = a0) (hn : ¬ n < 0) (hN : n.toNatClampNeg = N) (hb8 : N * 8 ≤ 536870912)
    (hlen : ws.length = n0 + cells) (hcl : am_clS ws.length ws ls st = true) (hcells : cells + 1 ≤ R.cells) (hslots : slots + N ≤ R.slots)
    (kk : am_VN p l e R s m args below meth c nL D cA ad0 ext A H0 n0 Q (cells + 1) (slots + N) (ws ++ [.inl (k, a0)]) (pc + 2) ls (.ref ws.length :: st)) : am_VN p l e R s m args below meth c nL D cA ad0 ext A H0 n0 Q cells slots ws pc ls (.int n :: st) := by
  intro ad h1 h2 H locs L hP hD hS hl
  obtain ⟨hx, hb, hml, hown, hts, hlk, hN2, hK, hI⟩ := id K
  obtain ⟨hcl1, hcl2⟩ := (Bool.and_eq_true _ _).mp hcl
  obtain ⟨hcl2, hcl3⟩ := (Bool.and_eq_true _ _).mp hcl2
  refine va_newa (ty := ty) (a0 := a0) hx hb (by rw [hty]; exact hts _ w1) hty hK hP hD hS hA ha hn hN ?_ hcells hslots hdg ?_
  · match k, hk with
    | 0, hk => cases hk; show N * 4 ≤ _; omega
    | 1, hk => cases hk; show N * 1 ≤ _; omega
    | 2, hk => cases hk; show N * 8 ≤ _; omega
  intro q cN H1 hK1 hP1 hD1 hS1
  have hcN : cN = cA k := by
    have a1 := (hK1.2 4 (cN, ty) rfl).2
    match k, hk with
    | 0, hk =>
      cases hk
      have a2 := (hK.2 0 (cA 0, .int) rfl).2
      exact Option.some.inj (a1.symm.trans a2)
    | 1, hk =>
      cases hk
      have a2 := (hK.2 1 (cA 1, .boolean) rfl).2
      exact Option.some.inj (a1.symm.trans a2)
    | 2, hk =>
      cases hk
      have a2 := (hK.2 2 (cA 2, .long) rfl).2
      exact Option.some.inj (a1.symm.trans a2)
  subst hcN
  obtain ⟨ad', g1, g2, g3, g4, g5⟩ := am_grow (e0 := .inl (k, a0)) hAx h1 h2 hlen hcl1 (fun ad' => by show Sum.inl (cA k, am_a ext a0) = _; rw [hax]) hD1
  have hkk := kk ad' g3 g4 H1 locs L (by rw [g5]; exact hP1) (by rw [g5]; exact hD1) hS1 (by rw [am_clL g1 hcl2]; exact hl)
  have e2 : (.ref ws.length :: st).map (am_v ad' ext) = .ref q :: st.map (am_v ad ext) := by
    rw [List.map_cons, am_clo_l g1 hcl3]
    show Value.ref (ad' ws.length) :: _ = _
    rw [g2]
  rw [e2] at hkk
  exact hkk
theorem am_newq (K : am_K p s m args meth c cc nL own D cA ini) (hO : va_AO "java/lang/String" s) (hA : ∀ q : Nat, H0.size ≤ q → A q) (hAx : ∀ q, A q → (∃ k, k < n0 ∧ q = ad0 k) ∨ H0.size ≤ q) {N pc idx : Nat} {n : Int32} {ws : am_W} {ls : am_L} {st : List Value} (hdg : decode cc pc = .ok (.anewarray idx, 3)) (w1 : Cond.classLink own idx "java/lang/String" ∈ gW) (hn : ¬ n < 0) (hN : n.toNatClampNeg = N) (hb8 : N * 4 ≤ 536870912)
    (hlen : ws.length = n0 + cells) (hcl : am_clS ws.length ws ls st = true) (hcells : cells + 1 ≤ R.cells) (hslots : slots + N ≤ R.slots)
    (kk : am_VN p l e R s m args below meth c nL D cA ad0 ext A H0 n0 Q (cells + 1) (slots + N) (ws ++ [.inl (3, (N, .inr (.inr (.inr (.inr (fun _ => none))))))]) (pc + 3) ls (.ref ws.length :: st)) : am_VN p l e R s m args below meth c nL D cA ad0 ext A H0 n0 Q cells slots ws pc ls (.int n :: st) := by
  intro ad h1 h2 H locs L hP hD hS hl
  obtain ⟨hx, hb, hml, hown, hts, hlk, hN2, hK, hI⟩ := id K
  obtain ⟨hcl1, hcl2⟩ := (Bool.and_eq_true _ _).mp hcl
  obtain ⟨hcl2, hcl3⟩ := (Bool.and_eq_true _ _).mp hcl2
  refine va_newq (C := "java/lang/String") hx hb hown (hts _ w1) hO hK hP hD hS hA hn hN hb8 hcells hslots hdg ?_
  intro q cN H1 hK1 hP1 hD1 hS1
  have hcN : cN = cA 3 := by
    obtain ⟨_, _, _, _, _, a1⟩ := (hK1.2 4 (cN, .object "java/lang/String") rfl).2
    obtain ⟨_, _, _, _, _, a2⟩ := (hK.2 3 (cA 3, .object "java/lang/String") rfl).2
    exact Option.some.inj (a1.symm.trans a2)
  subst hcN
  obtain ⟨ad', g1, g2, g3, g4, g5⟩ := am_grow (e0 := .inl (3, (N, .inr (.inr (.inr (.inr (fun _ => none))))))) hAx h1 h2 hlen hcl1 (fun ad' => rfl) hD1
  have hkk := kk ad' g3 g4 H1 locs L (by rw [g5]; exact hP1) (by rw [g5]; exact hD1) hS1 (by rw [am_clL g1 hcl2]; exact hl)
  have e2 : (.ref ws.length :: st).map (am_v ad' ext) = .ref q :: st.map (am_v ad ext) := by
    rw [List.map_cons, am_clo_l g1 hcl3]
    show Value.ref (ad' ws.length) :: _ = _
    rw [g2]
  rw [e2] at hkk
  exact hkk
theorem am_astq (K : am_K p s m args meth c cc nL own D cA ini) (hX : am_X ext A s H0) {N pc k a : Nat} {i : Int32} {f : Nat → Option Nat} {ws : am_W} {ls : am_L} {st : List Value} (hdg : decode cc pc = .ok (.aastore, 1)) (hk : k < am_sn) (ha : ws[a]? = some (.inl (3, (N, .inr (.inr (.inr (.inr f))))))) (hin : vp_in i N)
    (kk : am_VN p l e R s m args below meth c nL D cA ad0 ext A H0 n0 Q cells slots (ws.set a (.inl (3, (N, .inr (.inr (.inr (.inr (va_up f i.toNatClampNeg (some k)))))))) ) (pc + 1) ls st) : am_VN p l e R s m args below meth c nL D cA ad0 ext A H0 n0 Q cells slots ws pc ls (.retAddr k :: .int i :: .ref a :: st) := by
  intro ad h1 h2 H locs L hP hD hS hl
  obtain ⟨hx, hb, hml, hown, hts, hlk, hN2, hK, hI⟩ := id K
  have hr : ∃ cellV : Cell, H[ext k]? = some cellV ∧ cellV.vm.isStatics = false ∧ s.vm.findClass "java/lang/String" = some cellV.cls := by
    obtain ⟨-, h2, -⟩ := hX.1 k hk
    obtain ⟨cell, g1, g2, g3, -⟩ := h2.kept hS.2.1
    exact ⟨cell, g1, g2, g3⟩
  refine vb_astq (C := "java/lang/String") (E := "java/lang/String") hx hb hK hP hD hS a 3 (am_w_get ha) rfl hr (fun comp c0 => vb_asgS comp c0) hin hdg ?_
  intro H1 locs1 hP1 hD1 hS1
  have e1 : (Sum.inl (cA 3, N, .inr (.inr (.inr (.inr (va_up (fun j => (f j).map ext) i.toNatClampNeg (some (ext k))))))) : va_E) = am_e cA ad ext (.inl (3, (N, .inr (.inr (.inr (.inr (va_up f i.toNatClampNeg (some k)))))))) := by
    have e0 : va_up (fun j => (f j).map ext) i.toNatClampNeg (some (ext k)) = fun j => (va_up f i.toNatClampNeg (some k) j).map ext := by
      funext j
      unfold va_up
      by_cases hj : j = i.toNatClampNeg
      · simp [hj]
      · simp [hj]
    rw [e0]
    rfl
  have hP2 : va_P D vwCl (am_w cA ad ext (ws.set a (.inl (3, (N, .inr (.inr (.inr (.inr (va_up f i.toNatClampNeg (some k)))))))))) H1 := by
    rw [← am_w_set, ← e1]; exact hP1
  have hD2 : va_D A (am_w cA ad ext (ws.set a (.inl (3, (N, .inr (.inr (.inr (.inr (va_up f i.toNatClampNeg (some k)))))))))) := by
    rw [← am_w_set, ← e1]; exact hD1
  exact kk ad h1 h2 H1 locs1 L hP2 hD2 hS1 hl
/-- a row of references is what stands in it -/
theorem am_cgq {N pc a : Nat} {f g : Nat → Option Nat} {ws : am_W} {ls : am_L} {st : List Value} (ha : ws[a]? = some (.inl (3, (N, .inr (.inr (.inr (.inr f))))))) (hfg : ∀ j, j < N → f j = g j)
    (kk : am_VN p l e R s m args below meth c nL D cA ad0 ext A H0 n0 Q cells slots (ws.set a (.inl (3, (N, .inr (.inr (.inr (.inr g)))))) ) pc ls st) : am_VN p l e R s m args below meth c nL D cA ad0 ext A H0 n0 Q cells slots ws pc ls st := by
  intro ad h1 h2 H locs L hP hD hS hl
  have hlt : a < ws.length := (List.getElem?_eq_some_iff.mp ha).1
  refine kk ad h1 h2 H locs L ?_ (am_wD hD (by rw [List.length_set])) hS hl
  intro k x hx
  obtain ⟨e3, he3, rfl⟩ := am_w_inv hx
  by_cases hk : k = a
  · subst hk
    rw [List.getElem?_set_self hlt] at he3
    cases he3
    have h4 := hP k _ (am_w_get ha)
    show H[ad k]? = some (vp_cell _ _)
    have h5 : H[ad k]? = some (vp_cell (cA 3) (N, .inr (.inr (.inr (.inr (fun j => (f j).map ext)))))) := h4
    rw [h5]
    congr 1
    show arrV (cA 3) N (fun j => va_rf ((f j).map ext)) = arrV (cA 3) N (fun j => va_rf ((g j).map ext))
    have e9 : (fun (j : Fin N) => va_rf ((f j.val).map ext)) = (fun (j : Fin N) => va_rf ((g j.val).map ext)) := funext (fun j => by rw [hfg j.val j.isLt])
    unfold arrV
    rw [e9]
  · rw [List.getElem?_set_ne (Ne.symm hk)] at he3
    exact hP k _ (am_w_get he3)
/-- a constructor is called on the newest cell -/
theorem am_ctor (K : am_K p s m args meth c cc nL own D cA ini) (hO : va_AO "java/lang/String" s) (hX : am_X ext A s H0) (hA : ∀ q : Nat, H0.size ≤ q → A q) {d d' idx maxL mc' ms' pc : Nat} {y : MethodName} {bytes : ByteArray} {fr : am_E} {w' wsp : am_W} {ls : am_L} {rest : List Value} (hdg : decode cc pc = .ok (.invokespecial idx, 3)) (k1 : Cond.code y bytes maxL none ∈ gW) (k2 : Cond.initialized y.cls ∈ gW) (k3 : Cond.instanceMethod y ∈ gW) (k4 : Cond.methodLink own idx y ∈ gW ∨ ∃ host, Cond.methodLinkNest own idx y host ∈ gN) (k5 : y.cls ≠ "java/lang/invoke/MethodHandle" ∧ y.cls ≠ "java/lang/invoke/VarHandle" ∧ (parseMethodDescriptor y.desc).map (fun d => d.parameters.length) = some 0) (k6 : y.name = "<init>") (hmL : maxL ≤ 41) (hd : d' < d) (hRf : d ≤ R.frames) (hRl : 60 * d ≤ R.locals) (hRc : cells + mc' ≤ R.cells ∧ slots + ms' ≤ R.slots) (hC : am_CN l y bytes maxL d' mc' ms' fr w')
    (hfr : ∀ js, am_re js fr = fr) (hlen : wsp.length + 1 = n0 + cells) (hn0 : n0 ≤ wsp.length) (hwl : w'.length = 1 + mc') (hclw : w'.all (am_clE w'.length) = true) (hcl : am_clS (wsp.length + 1) wsp ls rest = true) (hW : (rest.map fun v => v.category).sum ≤ 8)
    (kk : am_VN p l e R s m args below meth c nL D cA ad0 ext A H0 n0 Q (cells + mc') (slots + ms') (wsp ++ w'.map (am_re (List.range' wsp.length w'.length))) (pc + 3) ls rest) : am_VN p l e R s m args below meth c nL D cA ad0 ext A H0 n0 Q cells slots (wsp ++ [fr]) pc ls (.ref wsp.length :: rest) := by
  intro ad h1 h2 H locs L hP hD hS hl
  obtain ⟨hx, hb, hml, hown, hts, hlk, hN, hK, hI⟩ := id K
  obtain ⟨hcl1, hcl2⟩ := (Bool.and_eq_true _ _).mp hcl
  obtain ⟨hcl2, hcl3⟩ := (Bool.and_eq_true _ _).mp hcl2
  obtain ⟨k, hk⟩ : ∃ k, wsp.length = k := ⟨_, rfl⟩
  have hM := hC D cA (fun i => ad (([k] : List Nat).getD i 0)) ext H.size
  have hjs : (([k] : List Nat).take [fr].length).map (fun j => (wsp ++ [fr])[j]?) = [fr].map (fun x => some (am_re [k] x)) := by
    show [(wsp ++ [fr])[k]?] = [some (am_re [k] fr)]
    rw [hfr, List.getElem?_append_right (by omega), hk, Nat.sub_self]
    rfl
  have hnd : va_nd (([k] : List Nat).take [fr].length) = true := rfl
  have hpre : PreS s H (va_Pc [.ref (ad k)] (am_S0 D cA (fun i => ad (([k] : List Nat).getD i 0)) ext H.size [fr])) [.ref (ad k)] := ⟨am_S0_blind, fun U hU hWU => ⟨rfl, am_pre K hX hA hP hD hS hjs hnd hU hWU, va_AO.moved hWU.alike hO⟩⟩
  have hfrm : (am_rm d' mc' ms').frames + 1 ≤ R.frames := Nat.le_trans hd hRf
  have hlo : 8 + (maxL + 11) + (am_rm d' mc' ms').locals ≤ R.locals := by
    show 8 + (maxL + 11) + 60 * d' ≤ R.locals
    omega
  have hcat : ((rest.map (am_v ad ext)).map fun v => v.category).sum ≤ 8 := by
    rw [List.map_map, show ((fun v => v.category) ∘ am_v ad ext) = (fun v => v.category) from funext (fun v => am_v_cat v)]
    exact hW
  have hmon : 2 * (F0 m pc L (.ref (ad k) :: rest.map (am_v ad ext))).monitorRoom + ((rest.map (am_v ad ext)).map fun v => v.category).sum ≤ 8 := by
    rw [show (F0 m pc L (.ref (ad k) :: rest.map (am_v ad ext))).monitorRoom = 0 from rfl]
    omega
  have hsig : ∀ sig, parseMethodDescriptor y.desc = some sig → 0 = sig.parameters.length := fun sig h => by
    rw [h] at k5
    exact (Option.some.inj k5.2.2).symm
  have hr : va_Run p l e R s m args below meth c H locs cells slots mc' ms' (F0 m pc L (.ref (ad k) :: rest.map (am_v ad ext))) (rest.map (am_v ad ext)) (am_QN D cA (fun i => ad (([k] : List Nat).getD i 0)) ext H.size 1 w' (va_A (am_w cA (fun i => ad (([k] : List Nat).getD i 0)) ext [fr]) H.size) [.ref (ad k)].toArray) (va_A (am_w cA (fun i => ad (([k] : List Nat).getD i 0)) ext [fr]) H.size) := by
    rcases k4 with h6 | ⟨host, h6⟩
    · exact va_runI (nL := nL) (As := []) ⟨hx, hb, hml, hown, hts⟩ hM ⟨⟨rfl, rfl, hfrm, hlo, pay_in hts (am_code_good k1), List.mem_cons_self, hts _ k1, hts _ k2, ⟨k5.1, k5.2.1⟩, hsig, hts _ h6⟩, k6, hts _ k3⟩ hpre rfl rfl hl.1 rfl hmon hdg hRc
    · exact va_runIN (nL := nL) (As := []) ⟨hx, hb, hml, hown, hts⟩ hM ⟨⟨⟨rfl, rfl, hfrm, hlo, pay_in hts (am_code_good k1), List.mem_cons_self⟩, hts _ k1, hts _ k2, ⟨k5.1, k5.2.1⟩, hsig, va_Nw.use rfl (hN _ h6)⟩, k6, hts _ k3⟩ hpre rfl rfl hl.1 rfl hmon hdg hRc
  show W p l e R s m args below meth c H locs cells slots Q (F0 m pc L (.ref (ad wsp.length) :: rest.map (am_v ad ext)))
  rw [hk]
  intro T hT X
  obtain ⟨v, st₀, t, T', L1, hh0, X', hL1, e1, e2, ⟨⟨adc, c1, c2, c3, c4, c5⟩, hz, hkq⟩, st⟩ := hr T hT X
  have hv : v = none := Outcome.returned.inj c2
  subst hv
  rw [hh0] at hz hkq
  have c10 : adc 0 = ad k := c1 0 (by omega)
  have hAc : ∀ q, va_A (am_w cA (fun i => ad (([k] : List Nat).getD i 0)) ext [fr]) H.size q → q = ad k ∨ H.size ≤ q := by
    intro q hq
    rcases hq with ⟨j, x, hx⟩ | hq
    · obtain ⟨y2, hy, he⟩ := am_w_inv hx
      have hj : j = 0 := by
        have := (List.getElem?_eq_some_iff.mp hy).1
        simp at this
        exact this
      subst hj
      exact Or.inl (congrArg Prod.fst he)
    · exact Or.inr hq
  have hkin : (am_w cA ad ext (wsp ++ [fr]))[k]? = some (ad k, am_e cA ad ext fr) := am_w_get (by rw [List.getElem?_append_right (by omega), hk, Nat.sub_self]; rfl)
  have hAin : ∀ q, va_A (am_w cA (fun i => ad (([k] : List Nat).getD i 0)) ext [fr]) H.size q → A q := by
    intro q hq
    rcases hAc q hq with rfl | hq
    · exact hD.2 k _ hkin
    · exact hA q (Nat.le_trans hS.1 hq)
  have hS1 : va_S A H0 T'.heap (locs ++ L1) := by
    refine ⟨Nat.le_trans hS.1 (by rw [e1]; exact hz), fun q a1 a2 => ?_, fun q hq => ?_⟩
    · rw [e1, hkq q (Nat.lt_of_lt_of_le a1 hS.1) (fun z => a2 (hAin q z))]
      exact hS.2.1 q a1 a2
    · rcases List.mem_append.mp hq with h | h
      · exact hS.2.2 q h
      · exact hAin _ (hL1 q h)
  obtain ⟨ad2, had2⟩ : ∃ ad2 : Nat → Nat, ad2 = fun i => if i < k then ad i else adc (i - k) := ⟨_, rfl⟩
  have b1 : ∀ i, i < k + 1 → ad2 i = ad i := by
    intro i hi
    rw [had2]
    by_cases h : i < k
    · exact if_pos h
    · have : i = k := by omega
      subst this
      show (if i < i then ad i else adc (i - i)) = ad i
      rw [if_neg h, Nat.sub_self, c10]
  have b2 : ∀ i, ad2 (k + i) = adc i := by
    intro i
    rw [had2]
    show (if k + i < k then ad (k + i) else adc (k + i - k)) = adc i
    rw [if_neg (by omega), Nat.add_sub_cancel_left]
  have hcell : ∀ (j : Nat) (x : Nat × va_E), (am_w cA ad2 ext (wsp ++ w'.map (am_re (List.range' k w'.length))))[j]? = some x → (j < k ∧ (am_w cA ad ext (wsp ++ [fr]))[j]? = some x) ∨ (∃ i, j = k + i ∧ (am_w cA adc ext w')[i]? = some x) := by
    intro j x hj
    obtain ⟨e3, he3, rfl⟩ := am_w_inv hj
    by_cases hjk : j < k
    · refine Or.inl ⟨hjk, ?_⟩
      rw [List.getElem?_append_left (by omega)] at he3
      rw [am_w_get (e := e3) (by rw [List.getElem?_append_left (by omega)]; exact he3)]
      rw [b1 j (by omega), am_clE_e b1 (by have := List.all_eq_true.mp hcl1 e3 (List.mem_of_getElem? he3); rw [hk] at this; exact this)]
    · refine Or.inr ⟨j - k, by omega, ?_⟩
      rw [List.getElem?_append_right (by omega), hk, List.getElem?_map] at he3
      cases hw9 : w'[j - k]? with
      | none => rw [hw9] at he3; cases he3
      | some e4 =>
        rw [hw9] at he3
        have he5 : am_re (List.range' k w'.length) e4 = e3 := Option.some.inj he3
        rw [am_w_get hw9, ← he5, am_re_e]
        have b3 : ad2 j = adc (j - k) := by
          have := b2 (j - k)
          rwa [show k + (j - k) = j by omega] at this
        rw [b3]
        rw [am_clE_e (n := w'.length) (ad := adc) (ad' := fun i => ad2 ((List.range' k w'.length).getD i 0)) (fun i hi => by
          show ad2 ((List.range' k w'.length).getD i 0) = adc i
          rw [List.getD_eq_getElem?_getD, List.getElem?_range' hi, Nat.one_mul]
          exact b2 i) (List.all_eq_true.mp hclw e4 (List.mem_of_getElem? hw9))]
  have hlt : ∀ (j : Nat) (x : Nat × va_E), (am_w cA ad ext (wsp ++ [fr]))[j]? = some x → x.1 < H.size := fun j x hx => (hP j x hx).lt
  have hP2 : va_P D vwCl (am_w cA ad2 ext (wsp ++ w'.map (am_re (List.range' k w'.length)))) T'.heap := by
    intro j x hj
    rcases hcell j x hj with ⟨hjk, h⟩ | ⟨i, -, h⟩
    · refine (hP j x h).kept ?_
      show T'.heap[x.1]? = H[x.1]?
      rw [e1]
      refine hkq x.1 (hlt j x h) (fun z => ?_)
      rcases hAc _ z with h9 | h9
      · have := hD.1 j k x _ h hkin h9
        omega
      · have := hlt j x h
        omega
    · rw [e1]
      exact c3 i x h
  have hge : ∀ (i : Nat) (x : Nat × va_E), (am_w cA adc ext w')[i]? = some x → (i = 0 ∧ x.1 = ad k) ∨ H.size ≤ x.1 := by
    intro i x h
    obtain ⟨e3, he3, rfl⟩ := am_w_inv h
    by_cases hi : i = 0
    · subst hi
      exact Or.inl ⟨rfl, c10⟩
    · exact Or.inr (c5 i (by omega) (List.getElem?_eq_some_iff.mp he3).1)
  have hD2 : va_D A (am_w cA ad2 ext (wsp ++ w'.map (am_re (List.range' k w'.length)))) := by
    refine ⟨fun i j x z hi hj he => ?_, fun j x hj => ?_⟩
    · rcases hcell i x hi with ⟨hik, h⟩ | ⟨i', hi', h⟩
      · rcases hcell j z hj with ⟨hjk, h3⟩ | ⟨j', hj', h3⟩
        · exact hD.1 i j x z h h3 he
        · exfalso
          rcases hge j' z h3 with ⟨-, h9⟩ | h9
          · have := hD.1 i k x _ h hkin (he.trans h9)
            omega
          · have := hlt i x h
            omega
      · rcases hcell j z hj with ⟨hjk, h3⟩ | ⟨j', hj', h3⟩
        · exfalso
          rcases hge i' x h with ⟨-, h9⟩ | h9
          · have := hD.1 j k z _ h3 hkin (he.symm.trans h9)
            omega
          · have := hlt j z h3
            omega
        · have := c4.1 i' j' x z h h3 he
          omega
    · rcases hcell j x hj with ⟨hjk, h⟩ | ⟨i, -, h⟩
      · exact hD.2 j x h
      · exact hAin _ (c4.2 i x h)
  have hkk := kk ad2 (fun i hi => by rw [b1 i (by omega)]; exact h1 i hi) (fun i hi hi2 => by
    by_cases hik : i < k + 1
    · rw [b1 i hik]
      exact h2 i hi (by omega)
    · have b3 := b2 (i - k)
      rw [show k + (i - k) = i by omega] at b3
      rw [b3]
      exact Nat.le_trans hS.1 (c5 (i - k) (by omega) (by omega))) T'.heap (locs ++ L1) L (by rw [hk]; exact hP2) (by rw [hk]; exact hD2) hS1 (by rw [am_clL b1 (by rw [hk] at hcl2; exact hcl2)]; exact hl)
  rw [am_clo_l b1 (by rw [hk] at hcl3; exact hcl3)] at hkk
  obtain ⟨t2, a1, a2⟩ := hkk T' rfl (X' : Stand p l e R s m args below meth c T' (locs ++ L1) (cells + mc') (slots + ms'))
  exact ⟨t2, st t2 a1, a2⟩
end AMN
/-- the rules for constructors: V cells slots ws pc ls st -/
def am_BN (l : Launch) (own : String) (d mc ms : Nat) (cd : am_cdT) (rf : am_rfT) (w : am_W) (V : Nat → Nat → am_VT) : Prop :=
  (∀ (c s : Nat) ins ln tg ds ws pc ls st ws' pc' ls' st' ps ds', cd pc = some (ins, ln, tg) → am_x true rf ins tg ds ws pc ls st = some (ws', pc', ls', st', ps, ds') → am_all ps → V c s ws' pc' ls' st' → V c s ws pc ls st) ∧
  (∀ (c s : Nat) idx ws pc ls a st ln tg, cd pc = some (.invokespecial idx, ln, tg) → Cond.methodLink own idx objectInit ∈ gW → (st.map fun v => v.category).sum ≤ 8 → V c s ws (pc + 3) ls st → V c s ws pc ls (.ref a :: st)) ∧
  (∀ (c s : Nat) idx ci C T N fs ws pc ls st ln tg (ty : Nat → FieldType), cd pc = some (.new idx, ln, tg) → vwCl[ci]? = some (C, T, N) → (∀ k, k < N → parseFieldDescriptor (T k).2.2.1 = some (ty k)) → Cond.classLink own idx C ∈ gW → Cond.instantiable C N ∈ gW → Cond.initialized C ∈ gW → (∀ j, j < N → defaultValue (ty j) = vp_V fs j) → (∀ ad ext : Nat → Nat, fs.map (am_v ad ext) = fs) → ws.length = 1 + c → am_clS ws.length ws ls st = true → c + 1 ≤ mc → s + N ≤ ms →
    V (c + 1) (s + N) (ws ++ [.inr (ci, fs)]) (pc + 3) ls (.ref ws.length :: st) → V c s ws pc ls st) ∧
  (∀ (c s : Nat) k N t ty (a0 : vp_A) (n : Int32) ws pc ls st ln tg, cd pc = some (.newarray t, ln, tg) → newarray.typeOf t = ty → am_tyk k = some ty → Cond.arrayClass ty ∈ gW → (∀ cA : ClassId, vp_cell cA a0 = arrV cA N (fun _ => defaultValue ty)) → (∀ ext : Nat → Nat, am_a ext a0 = a0) → ¬ n < 0 → n.toNatClampNeg = N → N * 8 ≤ 536870912 → ws.length = 1 + c → am_clS ws.length ws ls st = true → c + 1 ≤ mc → s + N ≤ ms →
    V (c + 1) (s + N) (ws ++ [.inl (k, a0)]) (pc + 2) ls (.ref ws.length :: st) → V c s ws pc ls (.int n :: st)) ∧
  (∀ (c s : Nat) idx y bytes maxL d' mc' ms' fr w' wsp pc ls rest ln tg, cd pc = some (.invokespecial idx, ln, tg) → Cond.code y bytes maxL none ∈ gW → Cond.initialized y.cls ∈ gW → Cond.instanceMethod y ∈ gW → (Cond.methodLink own idx y ∈ gW ∨ ∃ host, Cond.methodLinkNest own idx y host ∈ gN) → (y.cls ≠ "java/lang/invoke/MethodHandle" ∧ y.cls ≠ "java/lang/invoke/VarHandle" ∧ (parseMethodDescriptor y.desc).map (fun d => d.parameters.length) = some 0) → y.name = "<init>" → maxL ≤ 41 → d' < d → c + mc' ≤ mc ∧ s + ms' ≤ ms → am_CN l y bytes maxL d' mc' ms' fr w' → (∀ js, am_re js fr = fr) → wsp.length + 1 = 1 + c → 1 ≤ wsp.length → w'.length = 1 + mc' → w'.all (am_clE w'.length) = true → am_clS (wsp.length + 1) wsp ls rest = true → (rest.map fun v => v.category).sum ≤ 8 →
    V (c + mc') (s + ms') (wsp ++ w'.map (am_re (List.range' wsp.length w'.length))) (pc + 3) ls rest → V c s (wsp ++ [fr]) pc ls (.ref wsp.length :: rest)) ∧
  (∀ ws pc ls ln tg, cd pc = some (.return_, ln, tg) → ws = w → V mc ms ws pc ls []) ∧
  (∀ (c s : Nat) ws pc ls st idx v ln tg, cd pc = some (.ldc idx, ln, tg) → Cond.constant own idx v ∈ gW → V c s ws (pc + 2) ls (.int v :: st) → V c s ws pc ls st) ∧
  (∀ (c s : Nat) N idx (n : Int32) ws pc ls st ln tg, cd pc = some (.anewarray idx, ln, tg) → Cond.classLink own idx "java/lang/String" ∈ gW → ¬ n < 0 → n.toNatClampNeg = N → N * 4 ≤ 536870912 → ws.length = 1 + c → am_clS ws.length ws ls st = true → c + 1 ≤ mc → s + N ≤ ms →
    V (c + 1) (s + N) (ws ++ [.inl (3, (N, .inr (.inr (.inr (.inr (fun _ => none))))))]) (pc + 3) ls (.ref ws.length :: st) → V c s ws pc ls (.int n :: st)) ∧
  (∀ (c s : Nat) N k a (i : Int32) f ws pc ls st ln tg, cd pc = some (.aastore, ln, tg) → k < am_sn → ws[a]? = some (.inl (3, (N, .inr (.inr (.inr (.inr f)))))) → vp_in i N → V c s (ws.set a (.inl (3, (N, .inr (.inr (.inr (.inr (va_up f i.toNatClampNeg (some k))))))))) (pc + 1) ls st → V c s ws pc ls (.retAddr k :: .int i :: .ref a :: st)) ∧
  (∀ (c s : Nat) N a f g ws pc ls st, ws[a]? = some (.inl (3, (N, .inr (.inr (.inr (.inr f)))))) → (∀ j, j < N → f j = g j) → V c s (ws.set a (.inl (3, (N, .inr (.inr (.inr (.inr g))))))) pc ls st → V c s ws pc ls st) ∧
  (∀ (c s : Nat) ws pc ls st idx k tx ln tg, cd pc = some (.ldc idx, ln, tg) → am_sT k = (own, idx, tx) → k < am_sn → V c s ws (pc + 2) ls (.retAddr k :: st) → V c s ws pc ls st)
theorem am_oin : Cond.instanceMethod objectInit ∈ gW ∧ Cond.code objectInit ⟨#[0xb1]⟩ 1 none ∈ gW := ⟨am_wd 203 (by decide +kernel) rfl, am_wd 204 (by decide +kernel) rfl⟩
theorem am_metN {l : Launch} {y : MethodName} {cc : ByteArray} {maxL d mc ms : Nat} {fr : am_E} {w : am_W} {own : String} {cd : am_cdT} {rf : am_rfT} (hy : plainName y.cls = true) (hown : y.cls = own) (hname : y.name = "<init>") (hcd : am_cdok cc maxL cd) (hrf : am_rfok own rf) (h1 : Nat.ble 1 maxL = true) (hd1 : Nat.ble 1 d = true) (hwl : w.length = 1 + mc)
    (h : ∀ V : Nat → Nat → am_VT, am_BN l own d mc ms cd rf w V → V 0 0 [fr] 0 [(0, .ref 0)] []) : am_CN l y cc maxL d mc ms fr w := by
  intro D cA ad ext sz
  refine Met.ofW (cc := cc) (maxL := maxL) (ret := none) hy rfl ?_
  intro p e s m args below meth c s₁ B hml hv
  obtain ⟨rfl, ⟨hsz, hP, hK, hD0, hN, hX⟩, hO⟩ := hv
  have hx := B.exec
  have hb := B.bytes
  have hr := B.returns
  have hts0 := atoms_spec (ws := Cond.code y cc maxL none :: gW) B.pre
  have hts : ∀ w ∈ gW, w.before [Value.ref (ad 0)].toArray s = true := fun w hw => hts0 w (List.mem_cons_of_mem _ hw)
  have hown2 : s.vm.findClass own = some m.cls := hown ▸ findClass_of_methodNamed B.named
  have hlocks := B.notSynchronized
  have hin : meth.name = y.name := (name_of_methodNamed B.named B.method).1
  subst hsz
  have hD := hD0.self (sz := s.heap.size)
  have K : am_K p s m [Value.ref (ad 0)].toArray meth c cc maxL own D cA true := ⟨hx, hb, hml, hown2, hts, hlocks, hN, hK, fun _ => hin.trans hname⟩
  obtain ⟨A, hAe⟩ : ∃ A, A = va_A (am_w cA ad ext [fr]) s.heap.size := ⟨_, rfl⟩
  rw [← hAe] at hD hX ⊢
  have hA : ∀ q : Nat, s.heap.size ≤ q → A q := fun q h => by rw [hAe]; exact Or.inr h
  have hAx : ∀ q, A q → (∃ k, k < 1 ∧ q = ad k) ∨ s.heap.size ≤ q := by
    intro q hq
    rw [hAe] at hq
    rcases hq with ⟨k, x, hk⟩ | hq
    · obtain ⟨e3, he, hz⟩ := am_w_inv hk
      have hk1 : k < 1 := (List.getElem?_eq_some_iff.mp he).1
      exact Or.inl ⟨k, hk1, congrArg Prod.fst hz⟩
    · exact Or.inr hq
  have hl := lv_entry [Value.ref (ad 0)] (n := maxL) (Nat.le_of_ble_eq_true h1)
  rw [lg_entry_eq]
  have hd1 := Nat.le_of_ble_eq_true hd1
  refine h (fun cells slots ws pc ls st => am_VN p l e (am_rm d mc ms) s m [Value.ref (ad 0)].toArray below meth c maxL D cA ad ext A s.heap 1 (MQ below (am_QN D cA ad ext s.heap.size 1 w A) [Value.ref (ad 0)].toArray s mc ms A) cells slots ws pc ls st) ?_ ad (fun _ _ => rfl) (fun i h1 h2 => by omega) s.heap [] _ hP hD va_S.rf hl
  refine ⟨?_, ?_, ?_, ?_, ?_, ?_, ?_, ?_, ?_, ?_, ?_⟩
  · intro c s ins ln tg ds ws pc ls st ws' pc' ls' st' ps ds' hc hxx hp kk ad' g1 g2
    obtain ⟨h1, h2⟩ := hcd _ _ _ _ hc
    exact am_x_ok K hrf h1 h2 hxx hp (kk ad' g1 g2)
  · intro cn sn idx ws pc ls a st ln tg hc hw hsum kk ad' g1 g2 H locs L hP hD hS hl
    obtain ⟨h1, h2⟩ := hcd _ _ _ _ hc
    have hcat : ((st.map (am_v ad' ext)).map fun v => v.category).sum ≤ 8 := by
      rw [List.map_map, show ((fun v => v.category) ∘ am_v ad' ext) = (fun v => v.category) from funext (fun v => am_v_cat v)]
      exact hsum
    refine W.objInit hx hb hown2 (hts _ hw) (hts _ am_oin.1) (hts _ am_oin.2) (g := F0 m pc L (.ref (ad' a) :: st.map (am_v ad' ext))) (a := ad' a) (rest := st.map (am_v ad' ext)) rfl (by rw [hml]; exact hl.1) rfl h1 hd1 ?_ (kk ad' g1 g2 H locs L hP hD hS hl)
    rw [show (F0 m pc L (.ref (ad' a) :: st.map (am_v ad' ext))).monitorRoom = 0 from rfl]
    show _ ≤ 60 * d
    omega
  · intro cn sn idx ci C T N fs ws pc ls st ln tg ty hc hcl hty w1 w2 w3 hfs hfr hlen hcs hc1 hs1 kk
    obtain ⟨h1, h2⟩ := hcd _ _ _ _ hc
    exact am_new K hA hAx ty h1 hcl hty w1 w2 w3 hfs hfr hlen hcs hc1 hs1 kk
  · intro cn sn k N t ty a0 n ws pc ls st ln tg hc hty hk w1 ha hax hn hN hb8 hlen hcs hc1 hs1 kk
    obtain ⟨h1, h2⟩ := hcd _ _ _ _ hc
    exact am_newa K hA hAx h1 hty hk w1 ha hax hn hN hb8 hlen hcs hc1 hs1 kk
  · intro cn sn idx y bytes maxL d' mc' ms' fr w' wsp pc ls rest ln tg hc k1 k2 k3 k4 k5 k6 hmL hd hRc hC hfr hlen hn0 hwl hclw hcl hW kk
    obtain ⟨h1, h2⟩ := hcd _ _ _ _ hc
    exact am_ctor K hO hX hA h1 k1 k2 k3 k4 k5 k6 hmL hd (Nat.le_refl _) (Nat.le_refl _) hRc hC hfr hlen hn0 hwl hclw hcl hW kk
  · intro ws pc ls ln tg hc hw ad' g1 g2 H locs L hP hD hS hl
    subst hw
    obtain ⟨h1, h2⟩ := hcd _ _ _ _ hc
    exact W.vret hx hb hr (fun t ht _ => ⟨⟨ad', g1, rfl, by rw [ht]; exact hP, hD, fun i a1 a2 => g2 i a1 (by omega)⟩, hS.F ht⟩) hS.2.2 h1 hlocks
  · intro cn sn ws pc ls st idx v ln tg hc hw kk ad' g1 g2 H locs L hP hD hS hl
    obtain ⟨h1, h2⟩ := hcd _ _ _ _ hc
    exact lv_ldc hx hb hown2 (hts _ hw) h1 (kk ad' g1 g2 H locs L hP hD hS hl)
  · intro cn sn N idx n ws pc ls st ln tg hc w1 hn hN hb8 hlen hcs hc1 hs1 kk
    obtain ⟨h1, h2⟩ := hcd _ _ _ _ hc
    exact am_newq K hO hA hAx h1 w1 hn hN hb8 hlen hcs hc1 hs1 kk
  · intro cn sn N k a i f ws pc ls st ln tg hc hk ha hin kk
    obtain ⟨h1, h2⟩ := hcd _ _ _ _ hc
    exact am_astq K hX h1 hk ha hin kk
  · intro cn sn N a f g ws pc ls st ha hfg kk
    exact am_cgq ha hfg kk
  · intro cn sn ws pc ls st idx k tx ln tg hc hk hkn kk ad' g1 g2 H locs L hP hD hS hl
    obtain ⟨h1, h2⟩ := hcd _ _ _ _ hc
    obtain ⟨hR, -⟩ := hX.1 k hkn
    rw [hk] at hR
    exact va_ldcS hx hb hown2 hR h1 (kk ad' g1 g2 H locs L hP hD hS hl)
section AMNR
variable {l : Launch} {own : String} {d mc ms : Nat} {cd : am_cdT} {rf : am_rfT} {w : am_W} {V : Nat → Nat → am_VT}
theorem am_BN.run (h : am_BN l own d mc ms cd rf w V) {c s : Nat} : ∀ (n : Nat) (ds : List Nat) {ws ws' : am_W} {pc pc' : Nat} {ls ls' : am_L} {st st' : List Value} {ps : List Prop}, am_run true cd rf n ds ws pc ls st = some (ws', pc', ls', st', ps) → am_all ps → V c s ws' pc' ls' st' → V c s ws pc ls st := by
  intro n
  induction n with
  | zero => intro ds ws ws' pc pc' ls ls' st st' ps hr _ hV; cases hr; exact hV
  | succ n ih =>
    intro ds ws ws' pc pc' ls ls' st st' ps hr hp hV
    unfold am_run at hr
    split at hr
    · cases hr
    · rename_i ins ln tg hc
      split at hr
      · cases hr
      · rename_i ws1 pc1 ls1 st1 ps1 ds1 hx
        split at hr
        · cases hr
        · rename_i w2 p2 l2 s2 ps2 hr2
          cases hr
          obtain ⟨hp1, hp2⟩ := am_all_app hp
          exact h.1 _ _ _ _ _ _ _ _ _ _ _ _ _ _ _ _ hc hx hp1 (ih _ hr2 hp2 hV)
/-- Object's constructor -/
theorem am_BN.oi (h : am_BN l own d mc ms cd rf w V) (pl : Nat) {c s idx a pc ln : Nat} {ws : am_W} {ls : am_L} {st : List Value} {tg : List Nat} (hc : cd pc = some (.invokespecial idx, ln, tg)) (hl : lw_tbl[pl]? = some (Cond.methodLink own idx objectInit)) (hs : Nat.ble (st.map fun v => v.category).sum 8 = true) (kk : V c s ws (pc + 3) ls st) : V c s ws pc ls (.ref a :: st) := h.2.1 _ _ _ _ _ _ _ _ _ _ hc (am_wd pl hl rfl) (Nat.le_of_ble_eq_true hs) kk
theorem am_BN.nw (h : am_BN l own d mc ms cd rf w V) (p1 p2 p3 ci : Nat) {c s c2 s2 idx pc pc2 ln N k : Nat} {C : String} {T : u_T} {fs : List Value} {ws ws2 : am_W} {ls : am_L} {st : List Value} {tg : List Nat} (ty : Nat → FieldType) (hc : cd pc = some (.new idx, ln, tg)) (hcl : vwCl[ci]? = some (C, T, N)) (hty : ∀ k, k < N → parseFieldDescriptor (T k).2.2.1 = some (ty k)) (w1 : lw_tbl[p1]? = some (Cond.classLink own idx C)) (g1 : goodWord (Cond.classLink own idx C) = true) (w2 : lw_tbl[p2]? = some (Cond.instantiable C N)) (g2 : goodWord (Cond.instantiable C N) = true) (w3 : lw_tbl[p3]? = some (Cond.initialized C)) (g3 : goodWord (Cond.initialized C) = true) (hfs : ∀ j, j < N → defaultValue (ty j) = vp_V fs j) (hfr : ∀ ad ext : Nat → Nat, fs.map (am_v ad ext) = fs) (hk : ws.length = k) (hlen : Nat.beq k (1 + c) = true) (hcs : am_clS k ws ls st = true) (hc1 : Nat.ble (c + 1) mc = true) (hs1 : Nat.ble (s + N) ms = true) (e1 : ws ++ [.inr (ci, fs)] = ws2) (e2 : pc + 3 = pc2) (e3 : c + 1 = c2) (e4 : s + N = s2) (kk : V c2 s2 ws2 pc2 ls (.ref k :: st)) : V c s ws pc ls st := by
  subst e1 e2 e3 e4 hk
  exact h.2.2.1 _ _ _ _ _ _ _ _ _ _ _ _ _ _ ty hc hcl hty (am_wd p1 w1 g1) (am_wd p2 w2 g2) (am_wd p3 w3 g3) hfs hfr (Nat.eq_of_beq_eq_true hlen) hcs (Nat.le_of_ble_eq_true hc1) (Nat.le_of_ble_eq_true hs1) kk
theorem am_acI : Cond.arrayClass .int ∈ gW := am_wd 242 (by decide +kernel) rfl
theorem am_acZ : Cond.arrayClass .boolean ∈ gW := am_wd 1558 (by decide +kernel) rfl
theorem am_acJ : Cond.arrayClass .long ∈ gW := am_wd 1930 (by decide +kernel) rfl
theorem am_BN.ni (h : am_BN l own d mc ms cd rf w V) (N : Nat) {c s c2 s2 pc pc2 ln k : Nat} {n : Int32} {ws ws2 : am_W} {ls : am_L} {st : List Value} {tg : List Nat} (hc : cd pc = some (.newarray .int, ln, tg)) (hn : ¬ n < 0) (hN : n.toNatClampNeg = N) (hb : Nat.ble (N * 8) 536870912 = true) (hk : ws.length = k) (hlen : Nat.beq k (1 + c) = true) (hcs : am_clS k ws ls st = true) (hc1 : Nat.ble (c + 1) mc = true) (hs1 : Nat.ble (s + N) ms = true) (e1 : ws ++ [.inl (0, N, .inl (fun _ => 0))] = ws2) (e2 : pc + 2 = pc2) (e3 : c + 1 = c2) (e4 : s + N = s2) (kk : V c2 s2 ws2 pc2 ls (.ref k :: st)) : V c s ws pc ls (.int n :: st) := by
  subst e1 e2 e3 e4 hk
  exact h.2.2.2.1 _ _ 0 N .int .int (N, .inl (fun _ => 0)) _ _ _ _ _ _ _ hc rfl rfl am_acI (fun _ => rfl) (fun _ => rfl) hn hN (Nat.le_of_ble_eq_true hb) (Nat.eq_of_beq_eq_true hlen) hcs (Nat.le_of_ble_eq_true hc1) (Nat.le_of_ble_eq_true hs1) kk
theorem am_BN.nz (h : am_BN l own d mc ms cd rf w V) (N : Nat) {c s c2 s2 pc pc2 ln k : Nat} {n : Int32} {ws ws2 : am_W} {ls : am_L} {st : List Value} {tg : List Nat} (hc : cd pc = some (.newarray .boolean, ln, tg)) (hn : ¬ n < 0) (hN : n.toNatClampNeg = N) (hb : Nat.ble (N * 8) 536870912 = true) (hk : ws.length = k) (hlen : Nat.beq k (1 + c) = true) (hcs : am_clS k ws ls st = true) (hc1 : Nat.ble (c + 1) mc = true) (hs1 : Nat.ble (s + N) ms = true) (e1 : ws ++ [.inl (1, N, .inl (fun _ => 0))] = ws2) (e2 : pc + 2 = pc2) (e3 : c + 1 = c2) (e4 : s + N = s2) (kk : V c2 s2 ws2 pc2 ls (.ref k :: st)) : V c s ws pc ls (.int n :: st) := by
  subst e1 e2 e3 e4 hk
  exact h.2.2.2.1 _ _ 1 N .boolean .boolean (N, .inl (fun _ => 0)) _ _ _ _ _ _ _ hc rfl rfl am_acZ (fun _ => rfl) (fun _ => rfl) hn hN (Nat.le_of_ble_eq_true hb) (Nat.eq_of_beq_eq_true hlen) hcs (Nat.le_of_ble_eq_true hc1) (Nat.le_of_ble_eq_true hs1) kk
theorem am_BN.kI (h : am_BN l own d mc ms cd rf w V) (pl : Nat) {c s pc ln idx : Nat} {ws : am_W} {ls : am_L} {st : List Value} {tg : List Nat} {v : Int32} (hc : cd pc = some (.ldc idx, ln, tg)) (hl : lw_tbl[pl]? = some (Cond.constant own idx v)) (g : goodWord (Cond.constant own idx v) = true) (k : V c s ws (pc + 2) ls (.int v :: st)) : V c s ws pc ls st := h.2.2.2.2.2.2.1 _ _ _ _ _ _ _ _ _ _ hc (gW_in (List.mem_of_getElem? hl) g) k
theorem am_BN.ca (h : am_BN l own d mc ms cd rf w V) {y : MethodName} {bytes : ByteArray} {maxL d' mc' ms' : Nat} {fr : am_E} {w' : am_W} (hC : am_CN l y bytes maxL d' mc' ms' fr w') (hk1 : Cond.code y bytes maxL none ∈ gW ∧ Cond.initialized y.cls ∈ gW ∧ Cond.instanceMethod y ∈ gW ∧ (y.cls ≠ "java/lang/invoke/MethodHandle" ∧ y.cls ≠ "java/lang/invoke/VarHandle" ∧ (parseMethodDescriptor y.desc).map (fun d => d.parameters.length) = some 0) ∧ y.name = "<init>") {idx : Nat} (k4 : Cond.methodLink own idx y ∈ gW ∨ ∃ host, Cond.methodLinkNest own idx y host ∈ gN) {c s c2 s2 pc pc2 ln k : Nat} {wsp ws ws2 : am_W} {ls : am_L} {rest : List Value} {tg : List Nat} (hc : cd pc = some (.invokespecial idx, ln, tg)) (hm : Nat.ble maxL 41 = true) (hd : Nat.ble (d' + 1) d = true) (h1 : Nat.ble (c + mc') mc = true) (h2 : Nat.ble (s + ms') ms = true) (hfr : ∀ js, am_re js fr = fr) (hk : wsp.length = k) (hlen : Nat.beq (k + 1) (1 + c) = true) (hk0 : Nat.ble 1 k = true) (hwl : w'.length = 1 + mc') (hclw : w'.all (am_clE w'.length) = true) (hcs : am_clS (k + 1) wsp ls rest = true) (hW : Nat.ble (rest.map fun v => v.category).sum 8 = true) (e0 : wsp ++ [fr] = ws) (e1 : wsp ++ w'.map (am_re (List.range' k w'.length)) = ws2) (e2 : pc + 3 = pc2) (e3 : c + mc' = c2) (e4 : s + ms' = s2) (kk : V c2 s2 ws2 pc2 ls rest) : V c s ws pc ls (.ref k :: rest) := by
  subst e0 e1 e2 e3 e4 hk
  exact h.2.2.2.2.1 _ _ _ _ _ _ _ _ _ _ _ _ _ _ _ _ _ hc hk1.1 hk1.2.1 hk1.2.2.1 k4 hk1.2.2.2.1 hk1.2.2.2.2 (Nat.le_of_ble_eq_true hm) (Nat.le_of_ble_eq_true hd) ⟨Nat.le_of_ble_eq_true h1, Nat.le_of_ble_eq_true h2⟩ hC hfr (Nat.eq_of_beq_eq_true hlen) (Nat.le_of_ble_eq_true hk0) hwl hclw hcs (Nat.le_of_ble_eq_true hW) kk
theorem am_BN.rt (h : am_BN l own d mc ms cd rf w V) {pc ln : Nat} {ls : am_L} {ws : am_W} {tg : List Nat} (hc : cd pc = some (.return_, ln, tg)) (hw : ws = w) : V mc ms ws pc ls [] := h.2.2.2.2.2.1 _ _ _ _ _ hc hw
theorem am_BN.nq (h : am_BN l own d mc ms cd rf w V) (pl N : Nat) {c s c2 s2 idx pc pc2 ln k : Nat} {n : Int32} {ws ws2 : am_W} {ls : am_L} {st : List Value} {tg : List Nat} (hc : cd pc = some (.anewarray idx, ln, tg)) (hl : lw_tbl[pl]? = some (Cond.classLink own idx "java/lang/String")) (g : goodWord (Cond.classLink own idx "java/lang/String") = true) (hn : ¬ n < 0) (hN : n.toNatClampNeg = N) (hb : Nat.ble (N * 4) 536870912 = true) (hk : ws.length = k) (hlen : Nat.beq k (1 + c) = true) (hcs : am_clS k ws ls st = true) (hc1 : Nat.ble (c + 1) mc = true) (hs1 : Nat.ble (s + N) ms = true) (e1 : ws ++ [.inl (3, (N, .inr (.inr (.inr (.inr (fun _ => none))))))] = ws2) (e2 : pc + 3 = pc2) (e3 : c + 1 = c2) (e4 : s + N = s2) (kk : V c2 s2 ws2 pc2 ls (.ref k :: st)) : V c s ws pc ls (.int n :: st) := by
  subst e1 e2 e3 e4 hk
  exact h.2.2.2.2.2.2.2.1 _ _ N _ _ _ _ _ _ _ _ hc (am_wd pl hl g) hn hN (Nat.le_of_ble_eq_true hb) (Nat.eq_of_beq_eq_true hlen) hcs (Nat.le_of_ble_eq_true hc1) (Nat.le_of_ble_eq_true hs1) kk
theorem am_BN.aq (h : am_BN l own d mc ms cd rf w V) (N : Nat) (f : Nat → Option Nat) {c s k a pc pc2 ln : Nat} {i : Int32} {ws ws2 : am_W} {ls : am_L} {st : List Value} {tg : List Nat} (hc : cd pc = some (.aastore, ln, tg)) (hk : k < am_sn) (ha : ws[a]? = some (.inl (3, (N, .inr (.inr (.inr (.inr f))))))) (hin : vp_in i N) (e1 : ws.set a (.inl (3, (N, .inr (.inr (.inr (.inr (va_up f i.toNatClampNeg (some k)))))))) = ws2) (e2 : pc + 1 = pc2) (kk : V c s ws2 pc2 ls st) : V c s ws pc ls (.retAddr k :: .int i :: .ref a :: st) := by
  subst e1 e2
  exact h.2.2.2.2.2.2.2.2.1 _ _ N _ _ _ f _ _ _ _ _ _ hc hk ha hin kk
theorem am_BN.cg (h : am_BN l own d mc ms cd rf w V) (N a : Nat) (f g : Nat → Option Nat) {c s pc : Nat} {ws ws2 : am_W} {ls : am_L} {st : List Value} (ha : ws[a]? = some (.inl (3, (N, .inr (.inr (.inr (.inr f))))))) (hfg : ∀ j, j < N → f j = g j) (e1 : ws.set a (.inl (3, (N, .inr (.inr (.inr (.inr g)))))) = ws2) (kk : V c s ws2 pc ls st) : V c s ws pc ls st := by
  subst e1
  exact h.2.2.2.2.2.2.2.2.2.1 _ _ N a f g _ _ _ _ ha hfg kk
theorem am_BN.kS (h : am_BN l own d mc ms cd rf w V) (k : Nat) {c s pc ln idx : Nat} {ws : am_W} {ls : am_L} {st : List Value} {tg : List Nat} {tx : String} (hc : cd pc = some (.ldc idx, ln, tg)) (hk : am_sT k = (own, idx, tx)) (hn : k < am_sn) (kk : V c s ws (pc + 2) ls (.retAddr k :: st)) : V c s ws pc ls st := h.2.2.2.2.2.2.2.2.2.2 _ _ _ _ _ _ _ _ _ _ _ hc hk hn kk
end AMNR
