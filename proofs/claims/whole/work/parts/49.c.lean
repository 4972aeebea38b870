/-! THE LAW ITSELF: rules for its body, for any addresses of the places -/
section AML
variable {p : Program} {l : Launch} {e : Env} {R : Room} {s : State} {m : MethodId} {args : Array Value} {below : List Frame} {meth : Method} {c : Code} {cc : ByteArray} {nL : Nat} {own : String} {D : va_G} {cA : Nat → ClassId} {ad ext : Nat → Nat} {A : Nat → Prop} {H0 : Heap} {cells slots : Nat} {Q : State → Prop} {ini : Bool}
theorem am_callL (K : am_K p s m args meth c cc nL own D cA ini) (hX : am_X ext A s H0) (hA : ∀ q : Nat, H0.size ≤ q → A q) {d' idx maxL n k0 ci N : Nat} {T : u_T} {fs : List Value} {y : MethodName} {bytes : ByteArray} {ret' : Option FieldType} {ws wc : am_W} {pc : Nat} {ls : am_L} {rest as : List Value} {js : List Nat} {Post' : Option Value → am_W → Prop} (hdg : decode cc pc = .ok (.invokevirtual idx, 3)) (hk : am_lk own idx 1 y bytes maxL ret' n) (h6 : Cond.methodLink own idx y ∈ gW) (hR : d' + 1 ≤ R.frames ∧ 8 + (maxL + 11) + 60 * d' ≤ R.locals) (hRc : cells ≤ R.cells ∧ slots ≤ R.slots) (hC : am_Con l y bytes maxL ret' d' (.ref k0 :: as) wc Post') (hn : as.length = n)
    (hjs : (js.take wc.length).map (fun j => ws[j]?) = wc.map (fun x => some (am_re js x))) (hnd : va_nd (js.take wc.length) = true) (hW : (rest.map fun v => v.category).sum ≤ 8) (hr0 : wc[k0]? = some (.inr (ci, fs))) (hcl : vwCl[ci]? = some (y.cls, T, N))
    (kk : ∀ (r : Option Value) (w : am_W), Post' r w → w.length = wc.length → am_V p l e R s m args below meth c nL D cA ad ext A H0 cells slots Q (am_putb ws js w) (pc + 3) ls ((r.map (am_rv js)).toList ++ rest)) : am_V p l e R s m args below meth c nL D cA ad ext A H0 cells slots Q ws pc ls ((as.map (am_rv js)).reverse ++ .ref (js.getD k0 0) :: rest) := by
  intro H locs L hP hD hS hl
  obtain ⟨hx, hb, hml, hown, hts, hlk, hN, hK, hI⟩ := id K
  obtain ⟨k1, k2, ⟨k3, k4, k5⟩, -, k7, k8⟩ := hk
  have hM := hC D cA (fun k => ad (js.getD k 0)) ext H.size
  have hargs : (as.map (am_rv js)).map (am_v ad ext) = as.map (am_v (fun k => ad (js.getD k 0)) ext) := by
    rw [List.map_map]
    exact List.map_congr_left (fun v _ => am_rv_v v)
  have hstk : ((as.map (am_rv js)).reverse ++ .ref (js.getD k0 0) :: rest).map (am_v ad ext) = (as.map (am_v (fun k => ad (js.getD k 0)) ext)).reverse ++ .ref (ad (js.getD k0 0)) :: rest.map (am_v ad ext) := by
    rw [List.map_append, List.map_reverse, hargs]
    rfl
  have hcat : ((rest.map (am_v ad ext)).map fun v => v.category).sum ≤ 8 := by
    rw [List.map_map, show ((fun v => v.category) ∘ am_v ad ext) = (fun v => v.category) from funext (fun v => am_v_cat v)]
    exact hW
  have hsig : ∀ sig, parseMethodDescriptor y.desc = some sig → n = sig.parameters.length := fun sig h => by
    rw [h] at k5
    exact (Option.some.inj k5).symm
  have hrecv : ∃ cellB : Cell, H[ad (js.getD k0 0)]? = some cellB ∧ cellB.vm.isStatics = false ∧ s.vm.findClass y.cls = some cellB.cls := by
    obtain ⟨j, -, h2, h3⟩ := am_jsg hjs hr0
    rw [h2]
    exact va_recv hK hP hcl (am_w_get h3)
  have hpre : PreV s H y.cls (ad (js.getD k0 0)) (va_Pc ((.ref k0 :: as).map (am_v (fun k => ad (js.getD k 0)) ext)) (am_S D cA (fun k => ad (js.getD k 0)) ext H.size wc)) (as.map (am_v (fun k => ad (js.getD k 0)) ext)) := ⟨am_S_blind, hrecv, fun U hU hWU => ⟨rfl, am_pre K hX hA hP hD hS hjs hnd hU hWU⟩⟩
  have hmon : 2 * (F0 m pc L ((as.map (am_v (fun k => ad (js.getD k 0)) ext)).reverse ++ .ref (ad (js.getD k0 0)) :: rest.map (am_v ad ext))).monitorRoom + ((rest.map (am_v ad ext)).map fun v => v.category).sum ≤ 8 := by
    rw [show (F0 m pc L ((as.map (am_v (fun k => ad (js.getD k 0)) ext)).reverse ++ .ref (ad (js.getD k0 0)) :: rest.map (am_v ad ext))).monitorRoom = 0 from rfl]
    omega
  have hn2 : (as.map (am_v (fun k => ad (js.getD k 0)) ext)).length = n := by rw [List.length_map]; exact hn
  rw [hstk]
  have hr := va_runV (meth := meth) (nL := nL) (locs := locs) (cells := cells) (slots := slots) (below := below) (e := e) (R := R) ⟨hx, hb, hml, hown, hts⟩ hM ⟨⟨rfl, rfl, hR.1, hR.2, pay_in hts (am_code_good k1), List.mem_cons_self, hts _ k1, hts _ k2, ⟨k3, k4⟩, hsig, hts _ h6⟩, hts _ k7, hts _ k8⟩ hpre (g := F0 m pc L ((as.map (am_v (fun k => ad (js.getD k 0)) ext)).reverse ++ .ref (ad (js.getD k0 0)) :: rest.map (am_v ad ext))) (rest := rest.map (am_v ad ext)) rfl hn2 hl.1 rfl hmon hdg ⟨hRc.1, hRc.2⟩
  intro T' hT X
  obtain ⟨v, st₀, t, T2, L1, h0, X', hL1, e1, e2, ⟨⟨r, w, hpost, hwl, hoc, hP1⟩, hz, hkq⟩, st⟩ := hr T' hT X
  have hv : v = r.map (am_v (fun k => ad (js.getD k 0)) ext) := Outcome.returned.inj hoc
  rw [h0] at hz hkq
  obtain ⟨a1, a2, a3⟩ := am_after hP hD hS hA hjs hnd hwl (by rw [← e1] at hP1; exact hP1) (by rw [e1]; exact hz) (by rw [e1]; exact hkq) hL1
  have hkk := kk r w hpost hwl T2.heap (locs ++ L1) L a1 a2 a3 hl
  have hstk2 : v.toList ++ rest.map (am_v ad ext) = ((r.map (am_rv js)).toList ++ rest).map (am_v ad ext) := by
    subst hv
    cases r with
    | none => rfl
    | some x => simp [am_rv_v]
  obtain ⟨t2, b1, b2⟩ := hkk T2 rfl (X' : Stand p l e R s m args below meth c T2 (locs ++ L1) cells slots)
  rw [← hstk2] at b1
  exact ⟨t2, st t2 b1, b2⟩
/-- a call of a helper -/
theorem am_callHL (K : am_K p s m args meth c cc nL own D cA ini) (hX : am_X ext A s H0) (hT : am_XT A s H0) (hA : ∀ q : Nat, H0.size ≤ q → A q) {d' idx maxL n : Nat} {y : MethodName} {bytes : ByteArray} {hh : List (Nat × Nat × Nat × Nat)} {ws wc : am_W} {pc : Nat} {ls : am_L} {rest as : List Value} {js : List Nat} {Post' : Option Value → am_W → Prop} (hdg : decode cc pc = .ok (.invokestatic idx, 3)) (k1 : Cond.codeWith y bytes maxL (some .int) hh ∈ gW) (k2 : Cond.initialized y.cls ∈ gW) (k3 : Cond.static y ∈ gW) (k4 : Cond.methodLink own idx y ∈ gW) (k5 : y.cls ≠ "java/lang/invoke/MethodHandle" ∧ y.cls ≠ "java/lang/invoke/VarHandle" ∧ (parseMethodDescriptor y.desc).map (fun d => d.parameters.length) = some n) (hR : d' + 1 ≤ R.frames ∧ 8 + (maxL + 11) + 60 * d' ≤ R.locals) (hRc : cells + 1 ≤ R.cells ∧ slots + 6 ≤ R.slots) (hC : am_CnH l y bytes maxL (some .int) hh d' as wc Post') (hn : as.length = n)
    (hjs : (js.take wc.length).map (fun j => ws[j]?) = wc.map (fun x => some (am_re js x))) (hnd : va_nd (js.take wc.length) = true) (hW : (rest.map fun v => v.category).sum ≤ 8)
    (kk : ∀ (r : Option Value) (w : am_W), Post' r w → w.length = wc.length → am_V p l e R s m args below meth c nL D cA ad ext A H0 (cells + 1) (slots + 6) Q (am_putb ws js w) (pc + 3) ls ((r.map (am_rv js)).toList ++ rest)) : am_V p l e R s m args below meth c nL D cA ad ext A H0 cells slots Q ws pc ls ((as.map (am_rv js)).reverse ++ rest) := by
  intro H locs L hP hD hS hl
  obtain ⟨hx, hb, hml, hown, hts, hlk, hN, hK, hI⟩ := id K
  have hM := hC D cA (fun k => ad (js.getD k 0)) ext H.size
  have hargs : (as.map (am_rv js)).map (am_v ad ext) = as.map (am_v (fun k => ad (js.getD k 0)) ext) := by
    rw [List.map_map]
    exact List.map_congr_left (fun v _ => am_rv_v v)
  have hstk : ((as.map (am_rv js)).reverse ++ rest).map (am_v ad ext) = (as.map (am_v (fun k => ad (js.getD k 0)) ext)).reverse ++ rest.map (am_v ad ext) := by
    rw [List.map_append, List.map_reverse, hargs]
  have hcat : ((rest.map (am_v ad ext)).map fun v => v.category).sum ≤ 8 := by
    rw [List.map_map, show ((fun v => v.category) ∘ am_v ad ext) = (fun v => v.category) from funext (fun v => am_v_cat v)]
    exact hW
  have hsig : ∀ sig, parseMethodDescriptor y.desc = some sig → n = sig.parameters.length := fun sig h => by
    have k6 := k5.2.2
    rw [h] at k6
    exact (Option.some.inj k6).symm
  have hAin : ∀ q, va_A (am_w cA (fun k => ad (js.getD k 0)) ext wc) H.size q → A q := by
    intro q hq
    rcases hq with ⟨k, x, hx⟩ | hq
    · obtain ⟨y2, hy, he⟩ := am_w_inv hx
      obtain ⟨j, -, h2, h3⟩ := am_jsg hjs hy
      have := hD.2 j _ (am_w_get h3)
      have hq2 : q = ad (js.getD k 0) := congrArg Prod.fst he
      rw [hq2, h2]
      exact this
    · exact hA q (Nat.le_trans hS.1 hq)
  have hpre : PreS s H (va_Pc (as.map (am_v (fun k => ad (js.getD k 0)) ext)) (am_SX D cA (fun k => ad (js.getD k 0)) ext H.size wc)) (as.map (am_v (fun k => ad (js.getD k 0)) ext)) := ⟨am_SX_blind, fun U hU hWU => ⟨rfl, am_pre K hX hA hP hD hS hjs hnd hU hWU, by rw [hU]; exact hT.move hWU hS.2.1 hAin⟩⟩
  have hmon : 2 * (F0 m pc L ((as.map (am_v (fun k => ad (js.getD k 0)) ext)).reverse ++ rest.map (am_v ad ext))).monitorRoom + ((rest.map (am_v ad ext)).map fun v => v.category).sum ≤ 8 := by
    rw [show (F0 m pc L ((as.map (am_v (fun k => ad (js.getD k 0)) ext)).reverse ++ rest.map (am_v ad ext))).monitorRoom = 0 from rfl]
    omega
  have hn2 : (as.map (am_v (fun k => ad (js.getD k 0)) ext)).length = n := by rw [List.length_map]; exact hn
  have hgd : GoodIn gW (Cond.codeWith y bytes maxL (some .int) hh :: gW) := by
    intro w hw
    rcases List.mem_cons.mp hw with rfl | hw
    · exact gW_good _ k1
    · exact gW_good _ hw
  rw [hstk]
  have hr := vx_runSX (meth := meth) (nL := nL) (locs := locs) (cells := cells) (slots := slots) (below := below) (e := e) (R := R) (hh := hh) ⟨hx, hb, hml, hown, hts⟩ hM ⟨⟨rfl, rfl, hR.1, hR.2, pay_in hts hgd, List.mem_cons_self⟩, hts _ k1, hts _ k2, ⟨k5.1, k5.2.1⟩, hsig, hts _ k4, hts _ k3⟩ hpre (g := F0 m pc L ((as.map (am_v (fun k => ad (js.getD k 0)) ext)).reverse ++ rest.map (am_v ad ext))) (rest := rest.map (am_v ad ext)) rfl hn2 hl.1 rfl hmon hdg hRc
  intro T' hT' X
  rcases hr T' hT' X with ⟨v, st₀, t, T2, L1, h0, X', hL1, e1, e2, ⟨⟨r, w, hpost, hwl, hoc, hP1⟩, hz, hkq⟩, st⟩ | ⟨q, st₀, t, T2, L1, E, ce, h0, X', hL1, e1, e2, hF, -⟩
  · have hv : v = r.map (am_v (fun k => ad (js.getD k 0)) ext) := Outcome.returned.inj hoc
    rw [h0] at hz hkq
    obtain ⟨a1, a2, a3⟩ := am_after hP hD hS hA hjs hnd hwl (by rw [← e1] at hP1; exact hP1) (by rw [e1]; exact hz) (by rw [e1]; exact hkq) hL1
    have hkk := kk r w hpost hwl T2.heap (locs ++ L1) L a1 a2 a3 hl
    have hstk2 : v.toList ++ rest.map (am_v ad ext) = ((r.map (am_rv js)).toList ++ rest).map (am_v ad ext) := by
      subst hv
      cases r with
      | none => rfl
      | some x => simp [am_rv_v]
    obtain ⟨t2, b1, b2⟩ := hkk T2 rfl (X' : Stand p l e R s m args below meth c T2 (locs ++ L1) (cells + 1) (slots + 6))
    rw [← hstk2] at b1
    exact ⟨t2, st t2 b1, b2⟩
  · exact hF.elim
def am_VL (p : Program) (l : Launch) (e : Env) (R : Room) (s : State) (m : MethodId) (args : Array Value) (below : List Frame) (meth : Method) (c : Code) (nL : Nat) (D : va_G) (cA : Nat → ClassId) (ext : Nat → Nat) (Q : State → Prop) (cells slots : Nat) (ws : am_W) (pc : Nat) (ls : am_L) (st : List Value) : Prop :=
  ∀ ad : Nat → Nat, am_V p l e R s m args below meth c nL D cA ad ext (fun q => s.heap.size ≤ q) s.heap cells slots Q ws pc ls st
theorem am_VL_N {ws : am_W} {pc : Nat} {ls : am_L} {st : List Value} {ad0 : Nat → Nat} (hlen : ws.length = 0 + cells) (h : am_VN p l e R s m args below meth c nL D cA ad0 ext (fun q => s.heap.size ≤ q) s.heap 0 Q cells slots ws pc ls st) : am_VL p l e R s m args below meth c nL D cA ext Q cells slots ws pc ls st := by
  intro ad H locs L hP hD hS hl
  refine h ad (fun i hi => absurd hi (Nat.not_lt_zero i)) (fun i h1 h2 => ?_) H locs L hP hD hS hl
  have hi : i < ws.length := by omega
  exact hD.2 i _ (am_w_get (List.getElem?_eq_getElem hi))
/-- the places under other numbers -/
theorem am_ren {ws wc : am_W} {pc : Nat} {ls lsc : am_L} {st stc : List Value} {js : List Nat} (hjs : (js.take wc.length).map (fun j => ws[j]?) = wc.map (fun x => some (am_re js x))) (hnd : va_nd (js.take wc.length) = true) (hls : ls = lsc.map (fun q => (q.1, am_rv js q.2))) (hst : st = stc.map (am_rv js)) (kk : am_VL p l e R s m args below meth c nL D cA ext Q cells slots wc pc lsc stc) : am_VL p l e R s m args below meth c nL D cA ext Q cells slots ws pc ls st := by
  intro ad H locs L hP hD hS hl
  have hcg : ∀ (i : Nat) (x : am_E), wc[i]? = some x → ∃ j, (js.take wc.length)[i]? = some j ∧ js.getD i 0 = j ∧ ws[j]? = some (am_re js x) := fun i x hi => am_jsg hjs hi
  have hPc : va_P D vwCl (am_w cA (fun k => ad (js.getD k 0)) ext wc) H := by
    intro k q hq
    obtain ⟨x, hx, rfl⟩ := am_w_inv hq
    obtain ⟨j, h1, h2, h3⟩ := hcg k x hx
    have h4 := hP j _ (am_w_get h3)
    rw [am_re_e, ← h2] at h4
    exact h4
  have hDc : va_D (fun q => s.heap.size ≤ q) (am_w cA (fun k => ad (js.getD k 0)) ext wc) := by
    refine ⟨fun i j p q hi hj he => ?_, fun k q hk => ?_⟩
    · obtain ⟨x, hx, rfl⟩ := am_w_inv hi
      obtain ⟨y, hy, rfl⟩ := am_w_inv hj
      obtain ⟨a, a1, a2, a3⟩ := hcg i x hx
      obtain ⟨b, b1, b2, b3⟩ := hcg j y hy
      have h5 : a = b := hD.1 a b _ _ (am_w_get a3) (am_w_get b3) (by rw [← a2, ← b2]; exact he)
      rw [h5] at a1
      exact va_nd_inj _ hnd i j b a1 b1
    · obtain ⟨x, hx, rfl⟩ := am_w_inv hk
      obtain ⟨a, a1, a2, a3⟩ := hcg k x hx
      have := hD.2 a _ (am_w_get a3)
      rw [← a2] at this
      exact this
  have e1 : am_vl (fun k => ad (js.getD k 0)) ext lsc = am_vl ad ext ls := by
    subst hls
    unfold am_vl
    rw [List.map_map]
    exact List.map_congr_left (fun q _ => by show (q.1, _) = (q.1, _); rw [am_rv_v])
  have e2 : stc.map (am_v (fun k => ad (js.getD k 0)) ext) = st.map (am_v ad ext) := by
    subst hst
    rw [List.map_map]
    exact List.map_congr_left (fun q _ => (am_rv_v q).symm)
  have h9 := kk (fun k => ad (js.getD k 0)) H locs L hPc hDc hS (by rw [e1]; exact hl)
  rw [e2] at h9
  exact h9
end AML
/-- the rules for the law's body: V cells slots ws pc ls st -/
def am_BL (l : Launch) (cd : am_cdT) (L : Nat) (xs : Nat → Int32) (V : Nat → Nat → am_VT) : Prop :=
  (∀ (c s : Nat) ins ln tg ds ws pc ls st ws' pc' ls' st' ps ds', cd pc = some (ins, ln, tg) → am_x false (am_rfL []) ins tg ds ws pc ls st = some (ws', pc', ls', st', ps, ds') → am_all ps → V c s ws' pc' ls' st' → V c s ws pc ls st) ∧
  (∀ (c s : Nat) ws pc ls st ln tg, cd pc = some (.arraylength, ln, tg) → V c s ws (pc + 1) ls (.int (Int32.ofNat L) :: st) → V c s ws pc ls (.retAddr 99 :: st)) ∧
  (∀ (c s : Nat) ws pc ls st i ln tg, cd pc = some (.iaload, ln, tg) → vp_in i L → V c s ws (pc + 1) ls (.int (xs i.toNatClampNeg) :: st) → V c s ws pc ls (.int i :: .retAddr 99 :: st)) ∧
  (∀ (c s : Nat) idx y bytes maxL ret' n ws pc ls rest k0 ci fs T N as js wc Post' d' ln tg, cd pc = some (.invokevirtual idx, ln, tg) → am_lk RL idx 1 y bytes maxL ret' n → Cond.methodLink RL idx y ∈ gW → maxL ≤ 41 → d' ≤ 1300 → c ≤ room_1.cells ∧ s ≤ room_1.slots → am_Con l y bytes maxL ret' d' (.ref k0 :: as) wc Post' → as.length = n → (js.take wc.length).map (fun j => ws[j]?) = wc.map (fun x => some (am_re js x)) → va_nd (js.take wc.length) = true → (rest.map fun v => v.category).sum ≤ 8 → wc[k0]? = some (.inr (ci, fs)) → vwCl[ci]? = some (y.cls, T, N) →
    (∀ r w, Post' r w → w.length = wc.length → V c s (am_putb ws js w) (pc + 3) ls ((r.map (am_rv js)).toList ++ rest)) → V c s ws pc ls ((as.map (am_rv js)).reverse ++ .ref (js.getD k0 0) :: rest)) ∧
  (∀ (c s : Nat) idx y bytes maxL hh n ws pc ls rest as js wc Post' d' ln tg, cd pc = some (.invokestatic idx, ln, tg) → Cond.codeWith y bytes maxL (some .int) hh ∈ gW → Cond.initialized y.cls ∈ gW → Cond.static y ∈ gW → Cond.methodLink RL idx y ∈ gW → (y.cls ≠ "java/lang/invoke/MethodHandle" ∧ y.cls ≠ "java/lang/invoke/VarHandle" ∧ (parseMethodDescriptor y.desc).map (fun d => d.parameters.length) = some n) → maxL ≤ 41 → d' ≤ 1300 → c + 1 ≤ room_1.cells ∧ s + 6 ≤ room_1.slots → am_CnH l y bytes maxL (some .int) hh d' as wc Post' → as.length = n → (js.take wc.length).map (fun j => ws[j]?) = wc.map (fun x => some (am_re js x)) → va_nd (js.take wc.length) = true → (rest.map fun v => v.category).sum ≤ 8 →
    (∀ r w, Post' r w → w.length = wc.length → V (c + 1) (s + 6) (am_putb ws js w) (pc + 3) ls ((r.map (am_rv js)).toList ++ rest)) → V c s ws pc ls ((as.map (am_rv js)).reverse ++ rest)) ∧
  (∀ (c s : Nat) ws pc ls st idx v ln tg, cd pc = some (.ldc2_w idx, ln, tg) → Cond.constantLong RL idx v ∈ gW → V c s ws (pc + 3) ls (.long v :: st) → V c s ws pc ls st) ∧
  (∀ (c s : Nat) ws wc pc ls lsc st stc js, (js.take wc.length).map (fun j => ws[j]?) = wc.map (fun x => some (am_re js x)) → va_nd (js.take wc.length) = true → ls = lsc.map (fun q => (q.1, am_rv js q.2)) → st = stc.map (am_rv js) → V c s wc pc lsc stc → V c s ws pc ls st) ∧
  (∀ (c s : Nat) ws pc ls ls' st ks, am_pick ls ks = ls' → V c s ws pc ls' st → V c s ws pc ls st) ∧
  (∀ (c s : Nat) ws pc ls ln tg, cd pc = some (.ireturn, ln, tg) → c ≤ room_1.cells ∧ s ≤ room_1.slots → V c s ws pc ls [.int 1]) ∧
  (∀ (c s : Nat) idx ci C T N fs ws pc ls st ln tg (ty : Nat → FieldType), cd pc = some (.new idx, ln, tg) → vwCl[ci]? = some (C, T, N) → (∀ k, k < N → parseFieldDescriptor (T k).2.2.1 = some (ty k)) → Cond.classLink RL idx C ∈ gW → Cond.instantiable C N ∈ gW → Cond.initialized C ∈ gW → (∀ j, j < N → defaultValue (ty j) = vp_V fs j) → (∀ ad ext : Nat → Nat, fs.map (am_v ad ext) = fs) → ws.length = 0 + c → am_clS ws.length ws ls st = true → c + 1 ≤ room_1.cells → s + N ≤ room_1.slots →
    V (c + 1) (s + N) (ws ++ [.inr (ci, fs)]) (pc + 3) ls (.ref ws.length :: st) → V c s ws pc ls st) ∧
  (∀ (c s : Nat) k N t ty (a0 : vp_A) (n : Int32) ws pc ls st ln tg, cd pc = some (.newarray t, ln, tg) → newarray.typeOf t = ty → am_tyk k = some ty → Cond.arrayClass ty ∈ gW → (∀ cA : ClassId, vp_cell cA a0 = arrV cA N (fun _ => defaultValue ty)) → (∀ ext : Nat → Nat, am_a ext a0 = a0) → ¬ n < 0 → n.toNatClampNeg = N → N * 8 ≤ 536870912 → ws.length = 0 + c → am_clS ws.length ws ls st = true → c + 1 ≤ room_1.cells → s + N ≤ room_1.slots →
    V (c + 1) (s + N) (ws ++ [.inl (k, a0)]) (pc + 2) ls (.ref ws.length :: st) → V c s ws pc ls (.int n :: st)) ∧
  (∀ (c s : Nat) idx y bytes maxL d' mc' ms' fr w' wsp pc ls rest ln tg, cd pc = some (.invokespecial idx, ln, tg) → Cond.code y bytes maxL none ∈ gW → Cond.initialized y.cls ∈ gW → Cond.instanceMethod y ∈ gW → (Cond.methodLink RL idx y ∈ gW ∨ ∃ host, Cond.methodLinkNest RL idx y host ∈ gN) → (y.cls ≠ "java/lang/invoke/MethodHandle" ∧ y.cls ≠ "java/lang/invoke/VarHandle" ∧ (parseMethodDescriptor y.desc).map (fun d => d.parameters.length) = some 0) → y.name = "<init>" → maxL ≤ 41 → d' < 1300 → c + mc' ≤ room_1.cells ∧ s + ms' ≤ room_1.slots → am_CN l y bytes maxL d' mc' ms' fr w' → (∀ js, am_re js fr = fr) → wsp.length + 1 = 0 + c → w'.length = 1 + mc' → w'.all (am_clE w'.length) = true → am_clS (wsp.length + 1) wsp ls rest = true → (rest.map fun v => v.category).sum ≤ 8 →
    V (c + mc') (s + ms') (wsp ++ w'.map (am_re (List.range' wsp.length w'.length))) (pc + 3) ls rest → V c s (wsp ++ [fr]) pc ls (.ref wsp.length :: rest))
/-- what holds at the law's start of the abstract machine -/
def am_St (l : Launch) (D : va_G) (cA : Nat → ClassId) (ext : Nat → Nat) (s : State) (b : Nat) : Prop := va_K D vwCl (am_tys cA) s ∧ (∀ w ∈ gN, va_Nw w s) ∧ am_X ext (fun q => s.heap.size ≤ q) s s.heap ∧ am_XT (fun q => s.heap.size ≤ q) s s.heap ∧ va_AO "java/lang/String" s ∧ ext 99 = b
theorem am_law {p : Program} {e : Env} {s : State} {m : MethodId} {below : List Frame} {meth : Method} {c : Code} (l : Launch) {b L : Nat} {xs : Nat → Int32} (C0 : lw_At p s m meth c b L xs) {D : va_G} {cA : Nat → ClassId} {ext : Nat → Nat} (hSt : am_St l D cA ext s b) (hcd : am_cdok code 7 (am_cdT' tL_law))
    (h : ∀ V : Nat → Nat → am_VT, am_BL l (am_cdT' tL_law) L xs V → V 0 0 [] 0 [(0, .retAddr 99)] []) : W p l e room_1 s m #[Value.ref b] below meth c s.heap [] 0 0 (lw_Z below #[Value.ref b] s) (entryFrame m ([Value.ref b] : List Value).toArray 7) := by
  obtain ⟨hx, hb, hret, hml, hown, hts1, hsc, hbl, hlocks, hgv⟩ := C0
  obtain ⟨hK, hN, hX, hT, hO, h99⟩ := hSt
  have hts : ∀ w ∈ gW, w.before #[Value.ref b] s = true := fun w hw => hts1 w (List.mem_filter.mp hw).1
  have K : am_K p s m #[Value.ref b] meth c code 7 RL D cA false := ⟨hx, hb, hml, hown, hts, hlocks, hN, hK, fun z => by cases z⟩
  have hA : ∀ q : Nat, s.heap.size ≤ q → (fun q => s.heap.size ≤ q) q := fun q h => h
  have hAx : ∀ q, (fun q => s.heap.size ≤ q) q → (∃ k, k < 0 ∧ q = (fun _ => 0 : Nat → Nat) k) ∨ s.heap.size ≤ q := fun q h => Or.inr h
  have hl := lv_entry [Value.ref b] (n := 7) (Nat.le_of_ble_eq_true rfl)
  rw [lg_entry_eq]
  have hl2 : lv_has (lg_sl [Value.ref b] ++ List.replicate (7 - (lg_sl [Value.ref b]).length) Slot.unset).toArray 7 (am_vl (fun _ => 0) ext [(0, .retAddr 99)]) := by
    have e9 : am_vl (fun _ => 0) ext [(0, .retAddr 99)] = lv_args 0 [Value.ref b] := by
      show [(0, Value.ref (ext 99))] = [(0, Value.ref b)]
      rw [h99]
    rw [e9]
    exact hl
  have hD0 : va_D (fun q => s.heap.size ≤ q) (am_w cA (fun _ => 0) ext []) := ⟨fun i j p q hi => by simp [am_w] at hi, fun k q hk => by simp [am_w] at hk⟩
  have hP0 : va_P D vwCl (am_w cA (fun _ => 0) ext []) s.heap := fun k q hk => by simp [am_w] at hk
  refine h (fun cells slots ws pc ls st => am_VL p l e room_1 s m #[Value.ref b] below meth c 7 D cA ext (lw_Z below #[Value.ref b] s) cells slots ws pc ls st) ?_ (fun _ => 0) s.heap [] _ hP0 hD0 va_S.rf hl2
  have hfr : ∀ d', d' ≤ 1300 → ∀ maxL, maxL ≤ 41 → d' + 1 ≤ room_1.frames ∧ 8 + (maxL + 11) + 60 * d' ≤ room_1.locals := fun d' h1 maxL h2 => ⟨by show d' + 1 ≤ 2048; omega, by show 8 + (maxL + 11) + 60 * d' ≤ 84000; omega⟩
  have hS0 : ∀ {H : Heap} {locs : List Loc}, va_S (fun q => s.heap.size ≤ q) s.heap H locs → ∀ q ∈ locs, s.heap.size ≤ q.base := fun hS q hq => hS.2.2 q hq
  refine ⟨?_, ?_, ?_, ?_, ?_, ?_, ?_, ?_, ?_, ?_, ?_, ?_⟩
  · intro cn sn ins ln tg ds ws pc ls st ws' pc' ls' st' ps ds' hc hxx hp kk ad
    obtain ⟨h1, h2⟩ := hcd _ _ _ _ hc
    exact am_x_ok K am_rf0 h1 h2 hxx hp (kk ad)
  · intro cn sn ws pc ls st ln tg hc kk ad H locs L' hP hD hS hl
    obtain ⟨h1, h2⟩ := hcd _ _ _ _ hc
    show W p l e room_1 s m #[Value.ref b] below meth c H locs cn sn _ (F0 m pc L' (.ref (ext 99) :: st.map (am_v ad ext)))
    rw [h99]
    exact va_slen hx hb hsc hbl (Nat.not_le.mpr hbl) hS h1 (kk ad H locs L' hP hD hS hl)
  · intro cn sn ws pc ls st i ln tg hc hin kk ad H locs L' hP hD hS hl
    obtain ⟨h1, h2⟩ := hcd _ _ _ _ hc
    show W p l e room_1 s m #[Value.ref b] below meth c H locs cn sn _ (F0 m pc L' (.int i :: .ref (ext 99) :: st.map (am_v ad ext)))
    rw [h99]
    exact va_sld hx hb hsc hbl (Nat.not_le.mpr hbl) hS hin h1 (kk ad H locs L' hP hD hS hl)
  · intro cn sn idx y bytes maxL ret' n ws pc ls rest k0 ci fs T N as js wc Post' d' ln tg hc hk h6 hmL hd hRc hC hn hjs hnd hW hr0 hcl kk ad
    obtain ⟨h1, h2⟩ := hcd _ _ _ _ hc
    exact am_callL K hX hA h1 hk h6 (hfr d' hd maxL hmL) hRc hC hn hjs hnd hW hr0 hcl (fun r w hpo hwl => kk r w hpo hwl ad)
  · intro cn sn idx y bytes maxL hh n ws pc ls rest as js wc Post' d' ln tg hc k1 k2 k3 k4 k5 hmL hd hRc hC hn hjs hnd hW kk ad
    obtain ⟨h1, h2⟩ := hcd _ _ _ _ hc
    exact am_callHL K hX hT hA h1 k1 k2 k3 k4 k5 (hfr d' hd maxL hmL) hRc hC hn hjs hnd hW (fun r w hpo hwl => kk r w hpo hwl ad)
  · intro cn sn ws pc ls st idx v ln tg hc hw kk ad H locs L' hP hD hS hl
    obtain ⟨h1, h2⟩ := hcd _ _ _ _ hc
    exact lv_ldc2 hx hb hown (hts _ hw) h1 (kk ad H locs L' hP hD hS hl)
  · intro cn sn ws wc pc ls lsc st stc js hjs hnd hls hst kk
    exact am_ren hjs hnd hls hst kk
  · intro cn sn ws pc ls ls' st ks hk kk ad H locs L' hP hD hS hl
    exact kk ad H locs L' hP hD hS (lv_sub hl ks (am_pick_ok hk))
  · intro cn sn ws pc ls ln tg hc hRc ad H locs L' hP hD hS hl
    obtain ⟨h1, h2⟩ := hcd _ _ _ _ hc
    refine va_forget (hS0 hS) ?_
    refine W.widen (k := room_1.cells) (n := room_1.slots) hRc.1 hRc.2 ?_
    exact lw_ret hx hb hret hlocks h1
  · intro cn sn idx ci C T N fs ws pc ls st ln tg ty hc hcl hty w1 w2 w3 hfs hfr2 hlen hcs hc1 hs1 kk
    obtain ⟨h1, h2⟩ := hcd _ _ _ _ hc
    refine am_VL_N (ad0 := fun _ => 0) hlen ?_
    exact am_new K hA hAx ty h1 hcl hty w1 w2 w3 hfs hfr2 hlen hcs hc1 hs1 (fun ad _ _ => kk ad)
  · intro cn sn k N t ty a0 n ws pc ls st ln tg hc hty hk w1 ha hax hn hN2 hb8 hlen hcs hc1 hs1 kk
    obtain ⟨h1, h2⟩ := hcd _ _ _ _ hc
    refine am_VL_N (ad0 := fun _ => 0) hlen ?_
    exact am_newa K hA hAx h1 hty hk w1 ha hax hn hN2 hb8 hlen hcs hc1 hs1 (fun ad _ _ => kk ad)
  · intro cn sn idx y bytes maxL d' mc' ms' fr w' wsp pc ls rest ln tg hc k1 k2 k3 k4 k5 k6 hmL hd hRc hC hfr3 hlen hwl hclw hcl hW kk
    obtain ⟨h1, h2⟩ := hcd _ _ _ _ hc
    refine am_VL_N (ad0 := fun _ => 0) (by rw [List.length_append]; exact hlen) ?_
    exact am_ctor (d := 1300) K hO hX hA h1 k1 k2 k3 k4 k5 k6 hmL hd (by decide) (by decide) hRc hC hfr3 hlen (Nat.zero_le _) hwl hclw hcl hW (fun ad _ _ => kk ad)
