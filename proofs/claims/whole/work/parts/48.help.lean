/-! THE LAW'S HELPERS: calls of methods that may throw, under a handler -/
/-- the caller's world behind a call -/
theorem am_after {D : va_G} {cA : Nat → ClassId} {ad ext : Nat → Nat} {A : Nat → Prop} {H0 H H' : Heap} {locs L1 : List Loc} {ws wc w : am_W} {js : List Nat} (hP : va_P D vwCl (am_w cA ad ext ws) H) (hD : va_D A (am_w cA ad ext ws)) (hS : va_S A H0 H locs) (hA : ∀ q : Nat, H0.size ≤ q → A q)
    (hjs : (js.take wc.length).map (fun j => ws[j]?) = wc.map (fun x => some (am_re js x))) (hnd : va_nd (js.take wc.length) = true) (hwl : w.length = wc.length) (hP1 : va_P D vwCl (am_w cA (fun k => ad (js.getD k 0)) ext w) H') (hz : H.size ≤ H'.size) (hkq : ∀ q : Nat, q < H.size → ¬ va_A (am_w cA (fun k => ad (js.getD k 0)) ext wc) H.size q → H'[q]? = H[q]?) (hL1 : ∀ q ∈ L1, va_A (am_w cA (fun k => ad (js.getD k 0)) ext wc) H.size q.base) :
    va_P D vwCl (am_w cA ad ext (am_putb ws js w)) H' ∧ va_D A (am_w cA ad ext (am_putb ws js w)) ∧ va_S A H0 H' (locs ++ L1) := by
  obtain ⟨j0, hj0⟩ : ∃ j0, js.take wc.length = j0 := ⟨_, rfl⟩
  rw [hj0] at hjs hnd
  have hjl : j0.length = wc.length := by
    have := congrArg List.length hjs
    simpa using this
  have hjg : ∀ i j : Nat, j0[i]? = some j → ∃ x, wc[i]? = some x ∧ ws[j]? = some (am_re js x) := by
    intro i j hij
    have h1 : (j0.map (fun j => ws[j]?))[i]? = some ws[j]? := by rw [List.getElem?_map, hij]; rfl
    rw [hjs, List.getElem?_map] at h1
    cases hw : wc[i]? with
    | none => rw [hw] at h1; cases h1
    | some x => rw [hw] at h1; exact ⟨x, rfl, (Option.some.inj h1).symm⟩
  have hj0g : ∀ i : Nat, i < wc.length → j0[i]? = js[i]? := fun i hi => by rw [← hj0, List.getElem?_take, if_pos hi]
  have hj0l : ∀ i j : Nat, j0[i]? = some j → i < wc.length := fun i j h => by rw [← hjl]; exact (List.getElem?_eq_some_iff.mp h).1
  have hgd : ∀ i j : Nat, j0[i]? = some j → js.getD i 0 = j := fun i j h => by
    rw [hj0g i (hj0l i j h)] at h
    simp [List.getD_eq_getElem?_getD, h]
  have hAin : ∀ q, va_A (am_w cA (fun k => ad (js.getD k 0)) ext wc) H.size q → A q := by
    intro q hq
    rcases hq with ⟨k, x, hx⟩ | hq
    · obtain ⟨y, hy, he⟩ := am_w_inv hx
      have hk1 : k < j0.length := by rw [hjl]; exact (List.getElem?_eq_some_iff.mp hy).1
      obtain ⟨z, hz1, hz2⟩ := hjg k j0[k] (List.getElem?_eq_getElem hk1)
      have := hD.2 j0[k] _ (am_w_get hz2)
      have hq2 : q = ad (js.getD k 0) := congrArg Prod.fst he
      rw [hq2, hgd k j0[k] (List.getElem?_eq_getElem hk1)]
      exact this
    · exact hA q (Nat.le_trans hS.1 hq)
  have hlen2 : (am_putb ws js w).length = ws.length := am_sets_len
  have hzg : ∀ (i : Nat) (q : Nat × am_E), (am_zip js w)[i]? = some q → ∃ x, j0[i]? = some q.1 ∧ w[i]? = some x ∧ q.2 = am_re js x := by
    intro i q hi
    unfold am_zip at hi
    rw [List.getElem?_zip_eq_some] at hi
    obtain ⟨h1, h2⟩ := hi
    rw [List.getElem?_map] at h2
    cases hw : w[i]? with
    | none => rw [hw] at h2; cases h2
    | some x =>
      rw [hw] at h2
      have hiw : i < wc.length := by rw [← hwl]; exact (List.getElem?_eq_some_iff.mp hw).1
      exact ⟨x, by rw [hj0g i hiw]; exact h1, rfl, (Option.some.inj h2).symm⟩
  refine ⟨?_, am_wD hD hlen2, Nat.le_trans hS.1 hz, fun q h1 h2 => ?_, fun q hq => ?_⟩
  · intro k q hq
    obtain ⟨e2', he2, rfl⟩ := am_w_inv hq
    have hkl : k < ws.length := by rw [← hlen2]; exact (List.getElem?_eq_some_iff.mp he2).1
    by_cases hin : k ∈ j0
    · obtain ⟨i, hi⟩ := List.getElem?_of_mem hin
      have hiw : i < w.length := by rw [hwl, ← hjl]; exact (List.getElem?_eq_some_iff.mp hi).1
      have hz1 : (am_zip js w)[i]? = some (k, am_re js w[i]) := by
        unfold am_zip
        rw [List.getElem?_zip_eq_some]
        exact ⟨by rw [← hj0g i (hj0l i k hi)]; exact hi, by rw [List.getElem?_map, List.getElem?_eq_getElem hiw]; rfl⟩
      have h3 : (am_putb ws js w)[k]? = some (am_re js w[i]) := am_sets_eq hz1 (fun a b p q ha hb he => by
        obtain ⟨_, a1, _, _⟩ := hzg a p ha
        obtain ⟨_, b1, _, _⟩ := hzg b q hb
        rw [← he] at b1
        exact va_nd_inj j0 hnd a b p.1 a1 b1) hkl
      rw [h3] at he2
      have he3 := Option.some.inj he2
      have h4 := hP1 i _ (am_w_get (cA := cA) (ad := fun k => ad (js.getD k 0)) (ext := ext) (List.getElem?_eq_getElem hiw))
      rw [← he3, am_re_e]
      have h5 : ad (js.getD i 0) = ad k := by rw [hgd i k hi]
      rw [h5] at h4
      exact h4
    · have h3 : (am_putb ws js w)[k]? = ws[k]? := am_sets_ne (fun x hx hxe => by
        obtain ⟨i, hi⟩ := List.getElem?_of_mem hx
        obtain ⟨_, h1, _, _⟩ := hzg i x hi
        rw [hxe] at h1
        exact hin (List.mem_of_getElem? h1))
      rw [h3] at he2
      have h4 := hP k _ (am_w_get (cA := cA) (ad := ad) (ext := ext) he2)
      refine h4.kept ?_
      show H'[ad k]? = H[ad k]?
      refine hkq (ad k) h4.lt ?_
      intro hq2
      rcases hq2 with ⟨i, x, hx⟩ | hq2
      · obtain ⟨y, hy, he⟩ := am_w_inv hx
        have hk1 : i < j0.length := by rw [hjl]; exact (List.getElem?_eq_some_iff.mp hy).1
        obtain ⟨z, hz1, hz2⟩ := hjg i j0[i] (List.getElem?_eq_getElem hk1)
        have hq3 : ad k = ad (js.getD i 0) := congrArg Prod.fst he
        rw [hgd i j0[i] (List.getElem?_eq_getElem hk1)] at hq3
        have := hD.1 k j0[i] _ _ (am_w_get he2) (am_w_get hz2) hq3
        exact hin (this ▸ List.getElem_mem hk1)
      · exact absurd h4.lt (Nat.not_lt.mpr hq2)
  · rw [hkq q (Nat.lt_of_lt_of_le h1 hS.1) (fun z => h2 (hAin q z))]
    exact hS.2.1 q h1 h2
  · rcases List.mem_append.mp hq with h | h
    · exact hS.2.2 q h
    · exact hAin _ (hL1 q h)
section AMHP
variable {p : Program} {l : Launch} {e : Env} {R : Room} {s : State} {m : MethodId} {args : Array Value} {below : List Frame} {meth : Method} {c : Code} {cc : ByteArray} {nL : Nat} {own : String} {D : va_G} {cA : Nat → ClassId} {ad ext : Nat → Nat} {A : Nat → Prop} {H0 : Heap} {cells slots : Nat} {Q : State → Prop} {ini : Bool}
/-- the throwing side of a call -/
def am_KX (p : Program) (l : Launch) (e : Env) (R : Room) (s : State) (m : MethodId) (args : Array Value) (below : List Frame) (meth : Method) (c : Code) (nL : Nat) (D : va_G) (cA : Nat → ClassId) (ad ext : Nat → Nat) (A : Nat → Prop) (H0 : Heap) (cells slots : Nat) (Q : State → Prop) (E0 : String) (ws : am_W) (pc : Nat) (ls : am_L) (rest : List Value) : Prop :=
  ∀ (H : Heap) (locs : List Loc) (L : Array Slot) (q : Addr) (ce : Cell), va_P D vwCl (am_w cA ad ext ws) H → va_D A (am_w cA ad ext ws) → va_S A H0 H locs → lv_has L nL (am_vl ad ext ls) → H[q]? = some ce → ce.vm = .none → s.vm.findClass E0 = some ce.cls → vx_W p l e R s m args below meth c H locs cells slots Q (F0 m pc L (rest.map (am_v ad ext))) q
theorem am_callT (K : am_K p s m args meth c cc nL own D cA ini) (hX : am_X ext A s H0) (hT : am_XT A s H0) (hA : ∀ q : Nat, H0.size ≤ q → A q) {d d' idx maxL n k0 ci N : Nat} {T : u_T} {fs : List Value} {y : MethodName} {bytes : ByteArray} {ret' : Option FieldType} {ws wc : am_W} {pc : Nat} {ls : am_L} {rest as : List Value} {js : List Nat} {Post' : Option Value → am_W → Prop} {PX : am_W → Prop} {E0 : String} (hdg : decode cc pc = .ok (.invokevirtual idx, 3)) (hk : am_lk own idx 1 y bytes maxL ret' n) (h6 : Cond.methodLink own idx y ∈ gW) (hmL : maxL ≤ 41) (hd : d' < d) (hRf : R.frames = d) (hRl : R.locals = 60 * d) (hRc : cells + 1 ≤ R.cells ∧ slots + 6 ≤ R.slots) (hC : am_CnX l y bytes maxL ret' d' (.ref k0 :: as) wc Post' PX E0) (hn : as.length = n)
    (hjs : (js.take wc.length).map (fun j => ws[j]?) = wc.map (fun x => some (am_re js x))) (hnd : va_nd (js.take wc.length) = true) (hW : (rest.map fun v => v.category).sum ≤ 8) (hr0 : wc[k0]? = some (.inr (ci, fs))) (hcl : vwCl[ci]? = some (y.cls, T, N))
    (kk : ∀ (r : Option Value) (w : am_W), Post' r w → w.length = wc.length → am_V p l e R s m args below meth c nL D cA ad ext A H0 (cells + 1) (slots + 6) Q (am_putb ws js w) (pc + 3) ls ((r.map (am_rv js)).toList ++ rest))
    (kx : ∀ w : am_W, PX w → w.length = wc.length → am_KX p l e R s m args below meth c nL D cA ad ext A H0 (cells + 1) (slots + 6) Q E0 (am_putb ws js w) pc ls rest) : am_V p l e R s m args below meth c nL D cA ad ext A H0 cells slots Q ws pc ls ((as.map (am_rv js)).reverse ++ .ref (js.getD k0 0) :: rest) := by
  intro H locs L hP hD hS hl
  obtain ⟨hx, hb, hml, hown, hts, hlk, hN, hK, hI⟩ := id K
  obtain ⟨k1, k2, ⟨k3, k4, k5⟩, -, k7, k8⟩ := hk
  have hM := hC D cA (fun k => ad (js.getD k 0)) ext H.size
  have hargs : (as.map (am_rv js)).map (am_v ad ext) = as.map (am_v (fun k => ad (js.getD k 0)) ext) := by
    rw [List.map_map]
    exact List.map_congr_left (fun v _ => am_rv_v v)
  have hstk : ((as.map (am_rv js)).reverse ++ .ref (js.getD k0 0) :: rest).map (am_v ad ext) = (as.map (am_v (fun k => ad (js.getD k 0)) ext)).reverse ++ .ref (ad (js.getD k0 0)) :: rest.map (am_v ad ext) := by
    rw [List.map_append, List.map_reverse, hargs]
    rfl
  have hcat : ((rest.map (am_v ad ext)).map fun v => v.category).sum ≤ 8 := by
    rw [List.map_map, show ((fun v => v.category) ∘ am_v ad ext) = (fun v => v.category) from funext (fun v => am_v_cat v)]
    exact hW
  have hsig : ∀ sig, parseMethodDescriptor y.desc = some sig → n = sig.parameters.length := fun sig h => by
    rw [h] at k5
    exact (Option.some.inj k5).symm
  have hrecv : ∃ cellB : Cell, H[ad (js.getD k0 0)]? = some cellB ∧ cellB.vm.isStatics = false ∧ s.vm.findClass y.cls = some cellB.cls := by
    obtain ⟨j, -, h2, h3⟩ := am_jsg hjs hr0
    rw [h2]
    exact va_recv hK hP hcl (am_w_get h3)
  have hAin : ∀ q, va_A (am_w cA (fun k => ad (js.getD k 0)) ext wc) H.size q → A q := by
    intro q hq
    rcases hq with ⟨k, x, hx⟩ | hq
    · obtain ⟨y2, hy, he⟩ := am_w_inv hx
      obtain ⟨j, -, h2, h3⟩ := am_jsg hjs hy
      have := hD.2 j _ (am_w_get h3)
      have hq2 : q = ad (js.getD k 0) := congrArg Prod.fst he
      rw [hq2, h2]
      exact this
    · exact hA q (Nat.le_trans hS.1 hq)
  have hpre : PreV s H y.cls (ad (js.getD k0 0)) (va_Pc ((.ref k0 :: as).map (am_v (fun k => ad (js.getD k 0)) ext)) (am_SX D cA (fun k => ad (js.getD k 0)) ext H.size wc)) (as.map (am_v (fun k => ad (js.getD k 0)) ext)) := ⟨am_SX_blind, hrecv, fun U hU hWU => ⟨rfl, am_pre K hX hA hP hD hS hjs hnd hU hWU, by rw [hU]; exact hT.move hWU hS.2.1 hAin⟩⟩
  have hfr : (am_rm d' 1 6).frames + 1 ≤ R.frames := by rw [hRf]; exact hd
  have hlo : 8 + (maxL + 11) + (am_rm d' 1 6).locals ≤ R.locals := by
    rw [hRl]
    show 8 + (maxL + 11) + 60 * d' ≤ 60 * d
    omega
  have hmon : 2 * (F0 m pc L ((as.map (am_v (fun k => ad (js.getD k 0)) ext)).reverse ++ .ref (ad (js.getD k0 0)) :: rest.map (am_v ad ext))).monitorRoom + ((rest.map (am_v ad ext)).map fun v => v.category).sum ≤ 8 := by
    rw [show (F0 m pc L ((as.map (am_v (fun k => ad (js.getD k 0)) ext)).reverse ++ .ref (ad (js.getD k0 0)) :: rest.map (am_v ad ext))).monitorRoom = 0 from rfl]
    omega
  have hn2 : (as.map (am_v (fun k => ad (js.getD k 0)) ext)).length = n := by rw [List.length_map]; exact hn
  rw [hstk]
  have hr := vx_runV (meth := meth) (nL := nL) (locs := locs) (cells := cells) (slots := slots) (below := below) (e := e) (R := R) ⟨hx, hb, hml, hown, hts⟩ hM ⟨⟨rfl, rfl, hfr, hlo, pay_in hts (am_code_good k1), List.mem_cons_self, hts _ k1, hts _ k2, ⟨k3, k4⟩, hsig, hts _ h6⟩, hts _ k7, hts _ k8⟩ hpre (g := F0 m pc L ((as.map (am_v (fun k => ad (js.getD k 0)) ext)).reverse ++ .ref (ad (js.getD k0 0)) :: rest.map (am_v ad ext))) (rest := rest.map (am_v ad ext)) rfl hn2 hl.1 rfl hmon hdg hRc
  intro T hT X
  rcases hr T hT X with ⟨v, st₀, t, T', L1, h0, X', hL1, e1, e2, ⟨⟨r, w, hpost, hwl, hoc, hP1⟩, hz, hkq⟩, st⟩ | ⟨q, st₀, t, T', L1, E, ce, h0, X', hL1, e1, e2, ⟨hE, ⟨w, hpx, hwl, hP1⟩, hz, hkq⟩, hce, hcv, hcl2, st⟩
  · have hv : v = r.map (am_v (fun k => ad (js.getD k 0)) ext) := Outcome.returned.inj hoc
    rw [h0] at hz hkq
    obtain ⟨a1, a2, a3⟩ := am_after hP hD hS hA hjs hnd hwl (by rw [← e1] at hP1; exact hP1) (by rw [e1]; exact hz) (by rw [e1]; exact hkq) hL1
    have hkk := kk r w hpost hwl T'.heap (locs ++ L1) L a1 a2 a3 hl
    have hstk2 : v.toList ++ rest.map (am_v ad ext) = ((r.map (am_rv js)).toList ++ rest).map (am_v ad ext) := by
      subst hv
      cases r with
      | none => rfl
      | some x => simp [am_rv_v]
    obtain ⟨t2, b1, b2⟩ := hkk T' rfl (X' : Stand p l e R s m args below meth c T' (locs ++ L1) (cells + 1) (slots + 6))
    rw [← hstk2] at b1
    exact ⟨t2, st t2 b1, b2⟩
  · subst hE
    rw [h0] at hz hkq
    obtain ⟨a1, a2, a3⟩ := am_after hP hD hS hA hjs hnd hwl (by rw [← e1] at hP1; exact hP1) (by rw [e1]; exact hz) (by rw [e1]; exact hkq) hL1
    obtain ⟨t2, b1, b2⟩ := kx w hpx hwl T'.heap (locs ++ L1) L q ce a1 a2 a3 hl (by rw [e1]; exact hce) hcv hcl2 T' rfl X'
    exact ⟨t2, st.trans b1, b2⟩
end AMHP
/-- a contract of a method of the law with a handler: it returns -/
def am_CnH (l : Launch) (y : MethodName) (bytes : ByteArray) (maxL : Nat) (ret : Option FieldType) (hh : List (Nat × Nat × Nat × Nat)) (d : Nat) (as : List Value) (ws : am_W) (Post : Option Value → am_W → Prop) : Prop := ∀ (D : va_G) (cA : Nat → ClassId) (ad ext : Nat → Nat) (sz : Nat),
  vx_Met l y (.codeWith y bytes maxL ret hh :: gW) (am_rm d 1 6) (va_Pc (as.map (am_v ad ext)) (am_SX D cA ad ext sz ws)) (am_Q D cA ad ext ws.length Post (va_A (am_w cA ad ext ws) sz)) (fun _ _ _ => False) 1 6 (va_A (am_w cA ad ext ws) sz)
/-- the rules for such a method: V ahead of the call, V1 behind it -/
def am_BH (l : Launch) (own : String) (d : Nat) (cd : am_cdT) (Post : Option Value → am_W → Prop) (hp ct : Nat) (lo hi : Nat) (n0 : Nat) (V V1 : am_VT) : Prop :=
  (∀ ins ln tg ds ws pc ls st ws' pc' ls' st' ps ds', cd pc = some (ins, ln, tg) → am_x false (am_rfL []) ins tg ds ws pc ls st = some (ws', pc', ls', st', ps, ds') → am_all ps → V ws' pc' ls' st' → V ws pc ls st) ∧
  (∀ ins ln tg ds ws pc ls st ws' pc' ls' st' ps ds', cd pc = some (ins, ln, tg) → am_x false (am_rfL []) ins tg ds ws pc ls st = some (ws', pc', ls', st', ps, ds') → am_all ps → V1 ws' pc' ls' st' → V1 ws pc ls st) ∧
  (∀ idx y bytes maxL ret' n ws pc ls rest k0 ci fs T N as js wc Post' PX E0 d' ln tg t0 t1 t2 (k : Fin 4) (k2 : Nat), cd pc = some (.invokevirtual idx, ln, tg) → am_lk own idx 1 y bytes maxL ret' n → Cond.methodLink own idx y ∈ gW → maxL ≤ 41 → d' < d → am_CnX l y bytes maxL ret' d' (.ref k0 :: as) wc Post' PX E0 → as.length = n → (js.take wc.length).map (fun j => ws[j]?) = wc.map (fun x => some (am_re js x)) → va_nd (js.take wc.length) = true → (rest.map fun v => v.category).sum ≤ 8 → wc[k0]? = some (.inr (ci, fs)) → vwCl[ci]? = some (y.cls, T, N) →
    lo ≤ pc ∧ pc < hi → Cond.classLink own ct E0 ∈ gW → Cond.castable E0 E0 ∈ am_nw → (cd hp = some (.astore_n k, t0) ∧ cd (hp + 1) = some (.iconst 1, t1) ∧ cd (hp + 2) = some (.ireturn, t2) ∨ cd hp = some (.astore k2, t0) ∧ cd (hp + 2) = some (.iconst 1, t1) ∧ cd (hp + 3) = some (.ireturn, t2)) → ws.length = n0 →
    (∀ r w, Post' r w → w.length = wc.length → V1 (am_putb ws js w) (pc + 3) ls ((r.map (am_rv js)).toList ++ rest)) → (∀ w, PX w → w.length = wc.length → Post (some (.int 1)) (am_putb ws js w)) → V ws pc ls ((as.map (am_rv js)).reverse ++ .ref (js.getD k0 0) :: rest)) ∧
  (∀ ws pc ls v ln tg, cd pc = some (.ireturn, ln, tg) → ws.length = n0 → Post (some (.int v)) ws → V1 ws pc ls [.int v])
theorem am_metH {l : Launch} {y : MethodName} {cc : ByteArray} {maxL d n0 lo hi hp ct : Nat} {as : List Value} {ws : am_W} {Post : Option Value → am_W → Prop} {own : String} {cd : am_cdT} (hn0 : ws.length = n0) (hy : plainName y.cls = true) (hown : y.cls = own) (hcd : am_cdok cc maxL cd) (hlen : (lg_sl as).length ≤ maxL) (hct : ct ≠ 0)
    (h : ∀ V V1 : am_VT, am_BH l own d cd Post hp ct lo hi n0 V V1 → V ws 0 (lv_args 0 as) []) : am_CnH l y cc maxL (some .int) [(lo, hi, hp, ct)] d as ws Post := by
  subst hn0
  intro D cA ad ext sz
  refine vx_ofWH (cc := cc) (maxL := maxL) (ret := some .int) (hh := [(lo, hi, hp, ct)]) hy rfl ?_
  intro p e s m args below meth c s₁ B hml hv
  obtain ⟨rfl, ⟨hsz, hP, hK, hD0, hN, hX⟩, hT⟩ := hv
  have hx := B.exec
  have hb := B.bytes
  have hr := B.returns
  have hts0 := atoms_spec (ws := Cond.codeWith y cc maxL (some .int) [(lo, hi, hp, ct)] :: gW) B.pre
  have hts : ∀ w ∈ gW, w.before (as.map (am_v ad ext)).toArray s = true := fun w hw => hts0 w (List.mem_cons_of_mem _ hw)
  have htab : c.exceptionTable.toList = tableOf [(lo, hi, hp, ct)] := vx_table (x := y) B (hts0 _ List.mem_cons_self)
  have hown2 : s.vm.findClass own = some m.cls := hown ▸ findClass_of_methodNamed B.named
  have hlocks := B.notSynchronized
  have hin : meth.name = y.name := (name_of_methodNamed B.named B.method).1
  subst hsz
  have hD := hD0.self (sz := s.heap.size)
  have K : am_K p s m (as.map (am_v ad ext)).toArray meth c cc maxL own D cA false := ⟨hx, hb, hml, hown2, hts, hlocks, hN, hK, fun z => by cases z⟩
  obtain ⟨A, hAe⟩ : ∃ A, A = va_A (am_w cA ad ext ws) s.heap.size := ⟨_, rfl⟩
  rw [← hAe] at hD hX hT ⊢
  have hA : ∀ q : Nat, s.heap.size ≤ q → A q := fun q h => by rw [hAe]; exact Or.inr h
  have hl := lv_entry (as.map (am_v ad ext)) (n := maxL) (by rw [am_lgsl]; exact hlen)
  rw [lg_entry_eq]
  rw [am_args] at hl
  have hrf : am_rfok own (am_rfL []) := am_rf0
  refine h (am_V p l e (am_rm d 1 6) s m (as.map (am_v ad ext)).toArray below meth c maxL D cA ad ext A s.heap 0 0 (vx_MQ below (am_Q D cA ad ext ws.length Post A) (fun _ _ _ => False) (as.map (am_v ad ext)).toArray s 1 6 A)) (am_V p l e (am_rm d 1 6) s m (as.map (am_v ad ext)).toArray below meth c maxL D cA ad ext A s.heap 1 6 (vx_MQ below (am_Q D cA ad ext ws.length Post A) (fun _ _ _ => False) (as.map (am_v ad ext)).toArray s 1 6 A)) ?_ s.heap [] _ hP hD va_S.rf hl
  have ret1 : ∀ (w : am_W) (pc : Nat) (L : Array Slot) (H : Heap) (locs : List Loc) (v : Int32), decode cc pc = .ok (.ireturn, 1) → w.length = ws.length → Post (some (.int v)) w → va_P D vwCl (am_w cA ad ext w) H → va_S A s.heap H locs → W p l e (am_rm d 1 6) s m (as.map (am_v ad ext)).toArray below meth c H locs 1 6 (vx_MQ below (am_Q D cA ad ext ws.length Post A) (fun _ _ _ => False) (as.map (am_v ad ext)).toArray s 1 6 A) (F0 m pc L [.int v]) := by
    intro w pc L H locs v h1 hwl hpo hP hS
    exact vx_ret (W.iret hx hb hr (fun t ht _ => ⟨⟨_, w, hpo, hwl, rfl, by rw [ht]; exact hP⟩, hS.F ht⟩) hS.2.2 h1 hlocks)
  refine ⟨?_, ?_, ?_, ?_⟩
  · intro ins ln tg ds ws pc ls st ws' pc' ls' st' ps ds' hc hxx hp kk
    obtain ⟨h1, h2⟩ := hcd _ _ _ _ hc
    exact am_x_ok K hrf h1 h2 hxx hp kk
  · intro ins ln tg ds ws pc ls st ws' pc' ls' st' ps ds' hc hxx hp kk
    obtain ⟨h1, h2⟩ := hcd _ _ _ _ hc
    exact am_x_ok K hrf h1 h2 hxx hp kk
  · intro idx y bytes maxL ret' n w pc ls rest k0 ci fs T N as js wc Post' PX E0 d' ln tg t0 t1 t2 k k2 hc hk h6 hmL hd hC hn hjs hnd hW hr0 hcl hcov hcl2 hca hhd hwl0 kk kx
    obtain ⟨h1, h2⟩ := hcd _ _ _ _ hc
    refine am_callT K hX hT hA h1 hk h6 hmL hd rfl rfl ⟨Nat.le_refl _, Nat.le_refl _⟩ hC hn hjs hnd hW hr0 hcl kk ?_
    intro w2 hpx hwl H locs L q ce hP hD hS hl hce hcv hcls
    refine vx_catch (own := own) (name := E0) (E := E0) hown2 [] ⟨lo, hi, hp, ct⟩ [] (by rw [htab]; rfl) (fun z hz => nomatch hz) ?_ hct (hts _ hcl2) (hT.2.2.2 _ hca _) hce hcv hcls ?_
    · simp only [covers, Bool.and_eq_true, decide_eq_true_eq]
      exact hcov
    · have hpo := kx w2 hpx hwl
      have hlen9 : (am_putb w js w2).length = ws.length := am_sets_len.trans hwl0
      rcases hhd with ⟨c0, c1, c2⟩ | ⟨c0, c1, c2⟩
      · obtain ⟨g1, g2⟩ := hcd _ _ _ _ c0
        obtain ⟨g3, g4⟩ := hcd _ _ _ _ c1
        obtain ⟨g5, g6⟩ := hcd _ _ _ _ c2
        refine lv_astore_n hx hb g1 rfl hl (of_decide_eq_true g2) rfl (fun L' hl' => ?_)
        refine lv_iconst (v := 1) hx hb g3 (by decide) ?_
        exact ret1 _ _ _ _ _ 1 g5 hlen9 hpo hP hS
      · obtain ⟨g1, g2⟩ := hcd _ _ _ _ c0
        obtain ⟨g3, g4⟩ := hcd _ _ _ _ c1
        obtain ⟨g5, g6⟩ := hcd _ _ _ _ c2
        refine lv_astore hx hb g1 hl (of_decide_eq_true g2) rfl (fun L' hl' => ?_)
        refine lv_iconst (v := 1) hx hb g3 (by decide) ?_
        exact ret1 _ _ _ _ _ 1 g5 hlen9 hpo hP hS
  · intro w pc ls v ln tg hc hwl hpo H locs L hP hD hS hl
    obtain ⟨h1, h2⟩ := hcd _ _ _ _ hc
    exact ret1 w pc L H locs v h1 hwl hpo hP hS
