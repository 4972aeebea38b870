def am_pick (ls : am_L) (ks : List Nat) : am_L := ks.filterMap (fun k => ls[k]?)
theorem am_pick_ok {ad ext : Nat → Nat} {ls ls' : am_L} {ks : List Nat} (h : am_pick ls ks = ls') : lv_pick (am_vl ad ext ls) ks = am_vl ad ext ls' := by
  subst h
  simp only [lv_pick, am_vl, am_pick, List.map_filterMap]
  congr 1
  funext k
  rw [List.getElem?_map]
theorem am_cpS : Cond.native arraycopyName ∈ gW ∧ Cond.static arraycopyName ∈ gW ∧ Cond.initialized "java/lang/System" ∈ gW := ⟨gW_in (List.mem_of_getElem? (i := 674) (by decide +kernel)) rfl, gW_in (List.mem_of_getElem? (i := 673) (by decide +kernel)) rfl, gW_in (List.mem_of_getElem? (i := 195) (by decide +kernel)) rfl⟩
abbrev am_VT : Type := am_W → Nat → am_L → List Value → Prop
/-- the rules by which a contract is proved: V ws pc ls st: from here the method comes to an end that Post allows -/
def am_B (l : Launch) (own : String) (ini : Bool) (d : Nat) (cd : am_cdT) (rf : am_rfT) (ret : Option FieldType) (Post : Option Value → am_W → Prop) (n0 : Nat) (V : am_VT) : Prop :=
  (∀ ins ln tg ds ws pc ls st ws' pc' ls' st' ps ds', cd pc = some (ins, ln, tg) → am_x ini rf ins tg ds ws pc ls st = some (ws', pc', ls', st', ps, ds') → am_all ps → V ws' pc' ls' st' → V ws pc ls st) ∧
  (∀ idx y bytes maxL ret' n ws pc ls rest as js wc Post' d' ln tg, cd pc = some (.invokestatic idx, ln, tg) → am_lk own idx 0 y bytes maxL ret' n → maxL ≤ 41 → d' < d → am_Con l y bytes maxL ret' d' as wc Post' → as.length = n → (js.take wc.length).map (fun j => ws[j]?) = wc.map (fun x => some (am_re js x)) → va_nd (js.take wc.length) = true → (rest.map fun v => v.category).sum ≤ 8 →
    (∀ r w, Post' r w → w.length = wc.length → V (am_putb ws js w) (pc + 3) ls ((r.map (am_rv js)).toList ++ rest)) → V ws pc ls ((as.map (am_rv js)).reverse ++ rest)) ∧
  (∀ idx y bytes maxL ret' n ws pc ls rest k0 ci fs T N as js wc Post' d' ln tg, cd pc = some (.invokevirtual idx, ln, tg) → am_lk own idx 1 y bytes maxL ret' n → maxL ≤ 41 → d' < d → am_Con l y bytes maxL ret' d' (.ref k0 :: as) wc Post' → as.length = n → (js.take wc.length).map (fun j => ws[j]?) = wc.map (fun x => some (am_re js x)) → va_nd (js.take wc.length) = true → (rest.map fun v => v.category).sum ≤ 8 → wc[k0]? = some (.inr (ci, fs)) → vwCl[ci]? = some (y.cls, T, N) →
    (∀ r w, Post' r w → w.length = wc.length → V (am_putb ws js w) (pc + 3) ls ((r.map (am_rv js)).toList ++ rest)) → V ws pc ls ((as.map (am_rv js)).reverse ++ .ref (js.getD k0 0) :: rest)) ∧
  (∀ ws pc ls v ln tg, ret = some .int → cd pc = some (.ireturn, ln, tg) → ws.length = n0 → Post (some (.int v)) ws → V ws pc ls [.int v]) ∧
  (∀ ws pc ls ln tg, ret = none → cd pc = some (.return_, ln, tg) → ws.length = n0 → Post none ws → V ws pc ls []) ∧
  (∀ ws pc ls v ln tg, ret = some .boolean → cd pc = some (.ireturn, ln, tg) → ws.length = n0 → (v = 0 ∨ v = 1) → Post (some (.int v)) ws → V ws pc ls [.int v]) ∧
  (∀ ws pc ls a ln tg, (∃ n, ret = some (.object n)) → cd pc = some (.areturn, ln, tg) → ws.length = n0 → Post (some (.ref a)) ws → V ws pc ls [.ref a]) ∧
  (∀ ws pc ls st idx v ln tg, cd pc = some (.ldc idx, ln, tg) → Cond.constant own idx v ∈ gW → V ws (pc + 2) ls (.int v :: st) → V ws pc ls st) ∧
  (∀ ws pc ls st idx v ln tg, cd pc = some (.ldc2_w idx, ln, tg) → Cond.constantLong own idx v ∈ gW → V ws (pc + 3) ls (.long v :: st) → V ws pc ls st) ∧
  (∀ ws pc ls st idx k tx ln tg, cd pc = some (.ldc idx, ln, tg) → am_sT k = (own, idx, tx) → k < am_sn → V ws (pc + 2) ls (.retAddr k :: st) → V ws pc ls st) ∧
  (∀ ws pc ls st idx k tx ln tg, cd pc = some (.ldc_w idx, ln, tg) → am_sT k = (own, idx, tx) → k < am_sn → V ws (pc + 3) ls (.retAddr k :: st) → V ws pc ls st) ∧
  (∀ ws pc ls ls' st ks, am_pick ls ks = ls' → V ws pc ls' st → V ws pc ls st) ∧
  (∀ idx ws pc ls rest q0 q1 n0 n1 f g sp dp n ln tg, cd pc = some (.invokestatic idx, ln, tg) → Cond.methodLink own idx arraycopyName ∈ gW → 0 < d → ws[q0]? = some (.inl (0, n0, .inl f)) → ws[q1]? = some (.inl (0, n1, .inl g)) → ¬ sp < 0 → ¬ dp < 0 → ¬ n < 0 → sp.toNatClampNeg + n.toNatClampNeg ≤ n0 → dp.toNatClampNeg + n.toNatClampNeg ≤ n1 → (rest.map fun v => v.category).sum ≤ 8 →
    V (ws.set q1 (.inl (0, n1, .inl (va_cpy f g sp.toNatClampNeg dp.toNatClampNeg n.toNatClampNeg)))) (pc + 3) ls rest → V ws pc ls (.int n :: .int dp :: .ref q1 :: .int sp :: .ref q0 :: rest)) ∧
  (∀ idx y bytes maxL ret' n ws pc ls rest k as Post' d' ln tg, cd pc = some (.invokevirtual idx, ln, tg) → am_lk own idx 1 y bytes maxL ret' n → maxL ≤ 41 → d' < d → am_Con l y bytes maxL ret' d' (.retAddr k :: as) [] Post' → as.length = n → as.map (am_rv []) = as → y.cls = "java/lang/String" → k < am_sn → (rest.map fun v => v.category).sum ≤ 8 →
    (∀ r w, Post' r w → w.length = 0 → V ws (pc + 3) ls ((r.map (am_rv [])).toList ++ rest)) → V ws pc ls (as.reverse ++ .retAddr k :: rest)) ∧
  (∀ idx y bytes maxL ret' n ws pc ls rest ci fs T N as Post' d' ln tg, cd pc = some (.invokevirtual idx, ln, tg) → am_lk own idx 1 y bytes maxL ret' n → maxL ≤ 41 → d' < d → am_Con l y bytes maxL ret' d' (.ref 0 :: as) ws Post' → as.length = n → (rest.map fun v => v.category).sum ≤ 8 → ws[0]? = some (.inr (ci, fs)) → vwCl[ci]? = some (y.cls, T, N) →
    (∀ r w, Post' r w → w.length = ws.length → V w (pc + 3) ls (r.toList ++ rest)) → V ws pc ls (as.reverse ++ .ref 0 :: rest)) ∧
  (∀ idx ws pc ls st k ln tg, cd pc = some (.getfield idx, ln, tg) → Cond.fieldLink own idx "java/lang/String" "value" "[B" ∈ gW → k < am_sn → V ws (pc + 3) ls (.retAddr (am_sn + k) :: st) → V ws pc ls (.retAddr k :: st)) ∧
  (∀ idx ws pc ls st k ln tg, cd pc = some (.getfield idx, ln, tg) → Cond.fieldLink own idx "java/lang/String" "coder" "B" ∈ gW → k < am_sn → V ws (pc + 3) ls (.int 0 :: st) → V ws pc ls (.retAddr k :: st)) ∧
  (∀ ws pc ls st k ln tg, cd pc = some (.arraylength, ln, tg) → k < am_sn → V ws (pc + 1) ls (.int (Int32.ofNat (am_sB.getD k []).length) :: st) → V ws pc ls (.retAddr (am_sn + k) :: st)) ∧
  (∀ ws pc ls st k i ln tg, cd pc = some (.baload, ln, tg) → k < am_sn → vp_in i (am_sB.getD k []).length → V ws (pc + 1) ls (.int ((am_sB.getD k []).getD i.toNatClampNeg 0) :: st) → V ws pc ls (.int i :: .retAddr (am_sn + k) :: st)) ∧
  (∀ idx ws pc ls st ln tg, cd pc = some (.getstatic idx, ln, tg) → Cond.fieldLink own idx "java/lang/String" "COMPACT_STRINGS" "Z" ∈ gW → V ws (pc + 3) ls (.int 1 :: st) → V ws pc ls st) ∧
  (∀ idx ws pc ls st ln tg, cd pc = some (.getstatic idx, ln, tg) → Cond.fieldLink own idx "jdk/internal/util/Preconditions" "SIOOBE_FORMATTER" "Ljava/util/function/BiFunction;" ∈ gW → V ws (pc + 3) ls (.null :: st) → V ws (pc + 3) ls (.retAddr 98 :: st) → V ws pc ls st) ∧
  (∀ ws pc ls v ty ln tg, ret = some ty → narrow ty (.int v) = .int v → cd pc = some (.ireturn, ln, tg) → ws.length = n0 → Post (some (.int v)) ws → V ws pc ls [.int v])
/-- a straight stretch -/
def am_run (ini : Bool) (cd : am_cdT) (rf : am_rfT) : Nat → List Nat → am_W → Nat → am_L → List Value → Option (am_W × Nat × am_L × List Value × List Prop)
  | 0, _, ws, pc, ls, st => some (ws, pc, ls, st, [])
  | n + 1, ds, ws, pc, ls, st => match cd pc with
    | none => none
    | some (ins, _, tg) => match am_x ini rf ins tg ds ws pc ls st with
      | none => none
      | some (ws1, pc1, ls1, st1, ps, ds1) => match am_run ini cd rf n ds1 ws1 pc1 ls1 st1 with
        | none => none
        | some (w2, p2, l2, s2, ps2) => some (w2, p2, l2, s2, ps ++ ps2)
section AMR
variable {l : Launch} {own : String} {ini : Bool} {d n0 : Nat} {cd : am_cdT} {rf : am_rfT} {ret : Option FieldType} {Post : Option Value → am_W → Prop} {V : am_VT}
theorem am_B.run (h : am_B l own ini d cd rf ret Post n0 V) : ∀ (n : Nat) (ds : List Nat) {ws ws' : am_W} {pc pc' : Nat} {ls ls' : am_L} {st st' : List Value} {ps : List Prop}, am_run ini cd rf n ds ws pc ls st = some (ws', pc', ls', st', ps) → am_all ps → V ws' pc' ls' st' → V ws pc ls st := by
  intro n
  induction n with
  | zero => intro ds ws ws' pc pc' ls ls' st st' ps hr _ hV; cases hr; exact hV
  | succ n ih =>
    intro ds ws ws' pc pc' ls ls' st st' ps hr hp hV
    unfold am_run at hr
    split at hr
    · cases hr
    · rename_i ins ln tg hc
      split at hr
      · cases hr
      · rename_i ws1 pc1 ls1 st1 ps1 ds1 hx
        split at hr
        · cases hr
        · rename_i w2 p2 l2 s2 ps2 hr2
          cases hr
          obtain ⟨hp1, hp2⟩ := am_all_app hp
          exact h.1 _ _ _ _ _ _ _ _ _ _ _ _ _ _ hc hx hp1 (ih _ hr2 hp2 hV)
end AMR
theorem am_args {ad ext : Nat → Nat} (as : List Value) : ∀ i, lv_args i (as.map (am_v ad ext)) = am_vl ad ext (lv_args i as) := by
  induction as with
  | nil => intro i; rfl
  | cons v r ih =>
    intro i
    simp only [List.map_cons, lv_args, am_vl, am_v_cat]
    rw [ih]
    rfl
theorem am_lgsl {ad ext : Nat → Nat} (as : List Value) : (lg_sl (as.map (am_v ad ext))).length = (lg_sl as).length := by
  induction as with
  | nil => rfl
  | cons v r ih =>
    simp only [List.map_cons, lg_sl, List.flatMap_cons, List.length_append, am_v_cat] at ih ⊢
    rw [ih]
    by_cases h : v.category = 2 <;> simp [h]
theorem am_jsg {ws wc : am_W} {js : List Nat} (hjs : (js.take wc.length).map (fun j => ws[j]?) = wc.map (fun x => some (am_re js x))) {i : Nat} {x : am_E} (hi : wc[i]? = some x) : ∃ j, (js.take wc.length)[i]? = some j ∧ js.getD i 0 = j ∧ ws[j]? = some (am_re js x) := by
  have h1 : (wc.map (fun x => some (am_re js x)))[i]? = some (some (am_re js x)) := by rw [List.getElem?_map, hi]; rfl
  rw [← hjs, List.getElem?_map] at h1
  cases hj : (js.take wc.length)[i]? with
  | none => rw [hj] at h1; cases h1
  | some j =>
    rw [hj] at h1
    refine ⟨j, rfl, ?_, Option.some.inj h1⟩
    rw [List.getElem?_take, if_pos (List.getElem?_eq_some_iff.mp hi).1] at hj
    simp [List.getD_eq_getElem?_getD, hj]
section AMM
variable {p : Program} {l : Launch} {e : Env} {R : Room} {s : State} {m : MethodId} {args : Array Value} {below : List Frame} {meth : Method} {c : Code} {cc : ByteArray} {nL : Nat} {own : String} {D : va_G} {cA : Nat → ClassId} {ad ext : Nat → Nat} {A : Nat → Prop} {H0 : Heap} {cells slots : Nat} {Q : State → Prop} {ini : Bool}
theorem am_ldcSW (hexec : p.tables.exec = Jvm.exec) (hb : c.code = cc) {H : Heap} {locs : List Loc} {L : Array Slot} {rest : List Value} {pc : Nat} {own tx : String} {index q : Nat} (hown : s.vm.findClass own = some m.cls) (hZ : vk_R own index tx q s) (hdg : decode cc pc = .ok (.ldc_w index, 3))
    (k : W p l e R s m args below meth c H locs cells slots Q (F0 m (pc + 3) L (.ref q :: rest))) : W p l e R s m args below meth c H locs cells slots Q (F0 m pc L rest) := by
  intro T hT X
  obtain ⟨t, a1, b1⟩ := k T hT X
  exact ⟨t, X.ldcStringW hexec hown (text := tx) (a := q) hZ.1 hZ.2 (g := F0 m pc L rest) rfl (by rw [hb]; exact hdg) t a1, b1⟩
/-- the callee's start out of the caller's state -/
theorem am_pre (K : am_K p s m args meth c cc nL own D cA ini) (hX : am_X ext A s H0) (hA : ∀ q : Nat, H0.size ≤ q → A q) {H : Heap} {locs : List Loc} {ws wc : am_W} {js : List Nat} (hP : va_P D vwCl (am_w cA ad ext ws) H) (hD : va_D A (am_w cA ad ext ws)) (hS : va_S A H0 H locs)
    (hjs : (js.take wc.length).map (fun j => ws[j]?) = wc.map (fun x => some (am_re js x))) (hnd : va_nd (js.take wc.length) = true) {U : State} (hU : U.heap = H) (hW : s.WarmedH U.vm) : am_S D cA (fun k => ad (js.getD k 0)) ext H.size wc U := by
  have hcg : ∀ (i : Nat) (x : am_E), wc[i]? = some x → ∃ j, (js.take wc.length)[i]? = some j ∧ js.getD i 0 = j ∧ ws[j]? = some (am_re js x) := fun i x hi => am_jsg hjs hi
  have hPc : va_P D vwCl (am_w cA (fun k => ad (js.getD k 0)) ext wc) H := by
    intro k q hq
    obtain ⟨x, hx, rfl⟩ := am_w_inv hq
    obtain ⟨j, h1, h2, h3⟩ := hcg k x hx
    have h4 := hP j _ (am_w_get h3)
    rw [am_re_e, ← h2] at h4
    exact h4
  have hDc : va_D A (am_w cA (fun k => ad (js.getD k 0)) ext wc) := by
    refine ⟨fun i j p q hi hj he => ?_, fun k q hk => ?_⟩
    · obtain ⟨x, hx, rfl⟩ := am_w_inv hi
      obtain ⟨y, hy, rfl⟩ := am_w_inv hj
      obtain ⟨a, a1, a2, a3⟩ := hcg i x hx
      obtain ⟨b, b1, b2, b3⟩ := hcg j y hy
      have h5 : a = b := hD.1 a b _ _ (am_w_get a3) (am_w_get b3) (by rw [← a2, ← b2]; exact he)
      rw [h5] at a1
      exact va_nd_inj _ hnd i j b a1 b1
    · obtain ⟨x, hx, rfl⟩ := am_w_inv hk
      obtain ⟨a, a1, a2, a3⟩ := hcg k x hx
      have := hD.2 a _ (am_w_get a3)
      rw [← a2] at this
      exact this
  refine ⟨by rw [hU], by rw [hU]; exact hPc, va_K.moved hW.alike K.2.2.2.2.2.2.2.1, hDc.weaken (fun _ _ _ _ => trivial), gN_warm hW K.2.2.2.2.2.2.1, ?_⟩
  have h6 := hX.move (H1 := H) (B := va_A (am_w cA (fun k => ad (js.getD k 0)) ext wc) H.size) hW hS.2.1 (fun q hq => by
    rcases hq with ⟨k, x, hx⟩ | hq
    · exact hDc.2 k (q, x) hx
    · exact hA q (Nat.le_trans hS.1 hq))
  rw [hU]
  exact h6
theorem am_callS (K : am_K p s m args meth c cc nL own D cA ini) (hX : am_X ext A s H0) (hA : ∀ q : Nat, H0.size ≤ q → A q) {d d' idx maxL n : Nat} {y : MethodName} {bytes : ByteArray} {ret' : Option FieldType} {ws wc : am_W} {pc : Nat} {ls : am_L} {rest as : List Value} {js : List Nat} {Post' : Option Value → am_W → Prop} (hdg : decode cc pc = .ok (.invokestatic idx, 3)) (hk : am_lk own idx 0 y bytes maxL ret' n) (hmL : maxL ≤ 41) (hd : d' < d) (hRf : R.frames = d) (hRl : R.locals = 60 * d) (hRc : cells ≤ R.cells ∧ slots ≤ R.slots) (hC : am_Con l y bytes maxL ret' d' as wc Post') (hn : as.length = n)
    (hjs : (js.take wc.length).map (fun j => ws[j]?) = wc.map (fun x => some (am_re js x))) (hnd : va_nd (js.take wc.length) = true) (hW : (rest.map fun v => v.category).sum ≤ 8)
    (kk : ∀ (r : Option Value) (w : am_W), Post' r w → w.length = wc.length → am_V p l e R s m args below meth c nL D cA ad ext A H0 cells slots Q (am_putb ws js w) (pc + 3) ls ((r.map (am_rv js)).toList ++ rest)) : am_V p l e R s m args below meth c nL D cA ad ext A H0 cells slots Q ws pc ls ((as.map (am_rv js)).reverse ++ rest) := by
  intro H locs L hP hD hS hl
  obtain ⟨hx, hb, hml, hown, hts, hlk, hN, hK, hI⟩ := id K
  obtain ⟨k1, k2, ⟨k3, k4, k5⟩, k6, k7⟩ := hk
  have hM := hC D cA (fun k => ad (js.getD k 0)) ext H.size
  have hargs : (as.map (am_rv js)).map (am_v ad ext) = as.map (am_v (fun k => ad (js.getD k 0)) ext) := by
    rw [List.map_map]
    exact List.map_congr_left (fun v _ => am_rv_v v)
  have hstk : ((as.map (am_rv js)).reverse ++ rest).map (am_v ad ext) = (as.map (am_v (fun k => ad (js.getD k 0)) ext)).reverse ++ rest.map (am_v ad ext) := by
    rw [List.map_append, List.map_reverse, hargs]
  have hcat : ((rest.map (am_v ad ext)).map fun v => v.category).sum ≤ 8 := by
    rw [List.map_map, show ((fun v => v.category) ∘ am_v ad ext) = (fun v => v.category) from funext (fun v => am_v_cat v)]
    exact hW
  have hsig : ∀ sig, parseMethodDescriptor y.desc = some sig → n = sig.parameters.length := fun sig h => by
    rw [h] at k5
    exact (Option.some.inj k5).symm
  have hpre : PreS s H (va_Pc (as.map (am_v (fun k => ad (js.getD k 0)) ext)) (am_S D cA (fun k => ad (js.getD k 0)) ext H.size wc)) (as.map (am_v (fun k => ad (js.getD k 0)) ext)) := ⟨am_S_blind, fun U hU hWU => ⟨rfl, am_pre K hX hA hP hD hS hjs hnd hU hWU⟩⟩
  have hfr : (am_rm d' 0 0).frames + 1 ≤ R.frames := by rw [hRf]; exact hd
  have hlo : 8 + (maxL + 11) + (am_rm d' 0 0).locals ≤ R.locals := by
    rw [hRl]
    show 8 + (maxL + 11) + 60 * d' ≤ 60 * d
    omega
  have hmon : 2 * (F0 m pc L ((as.map (am_v (fun k => ad (js.getD k 0)) ext)).reverse ++ rest.map (am_v ad ext))).monitorRoom + ((rest.map (am_v ad ext)).map fun v => v.category).sum ≤ 8 := by
    rw [show (F0 m pc L ((as.map (am_v (fun k => ad (js.getD k 0)) ext)).reverse ++ rest.map (am_v ad ext))).monitorRoom = 0 from rfl]
    omega
  have hn2 : (as.map (am_v (fun k => ad (js.getD k 0)) ext)).length = n := by rw [List.length_map]; exact hn
  rw [hstk]
  refine am_back hP hD hS hA hl hjs hnd (Post := Post') (aa := (as.map (am_v (fun k => ad (js.getD k 0)) ext)).toArray) ?_ kk
  rcases k6 with h6 | ⟨host, h6⟩
  · exact va_runS (nL := nL) ⟨hx, hb, hml, hown, hts⟩ hM ⟨⟨rfl, rfl, hfr, hlo, pay_in hts (am_code_good k1), List.mem_cons_self, hts _ k1, hts _ k2, ⟨k3, k4⟩, hsig, hts _ h6⟩, hts _ k7⟩ hpre rfl hn2 hl.1 rfl hmon hdg ⟨hRc.1, hRc.2⟩
  · exact va_runSN (nL := nL) ⟨hx, hb, hml, hown, hts⟩ hM ⟨⟨⟨rfl, rfl, hfr, hlo, pay_in hts (am_code_good k1), List.mem_cons_self⟩, hts _ k1, hts _ k2, ⟨k3, k4⟩, hsig, va_Nw.use rfl (hN _ h6)⟩, hts _ k7, trivial⟩ hpre rfl hn2 hl.1 rfl hmon hdg ⟨hRc.1, hRc.2⟩
theorem am_callV (K : am_K p s m args meth c cc nL own D cA ini) (hX : am_X ext A s H0) (hA : ∀ q : Nat, H0.size ≤ q → A q) {d d' idx maxL n k0 ci N : Nat} {T : u_T} {fs : List Value} {y : MethodName} {bytes : ByteArray} {ret' : Option FieldType} {ws wc : am_W} {pc : Nat} {ls : am_L} {rest as : List Value} {js : List Nat} {Post' : Option Value → am_W → Prop} (hdg : decode cc pc = .ok (.invokevirtual idx, 3)) (hk : am_lk own idx 1 y bytes maxL ret' n) (hmL : maxL ≤ 41) (hd : d' < d) (hRf : R.frames = d) (hRl : R.locals = 60 * d) (hRc : cells ≤ R.cells ∧ slots ≤ R.slots) (hC : am_Con l y bytes maxL ret' d' (.ref k0 :: as) wc Post') (hn : as.length = n)
    (hjs : (js.take wc.length).map (fun j => ws[j]?) = wc.map (fun x => some (am_re js x))) (hnd : va_nd (js.take wc.length) = true) (hW : (rest.map fun v => v.category).sum ≤ 8) (hr0 : wc[k0]? = some (.inr (ci, fs))) (hcl : vwCl[ci]? = some (y.cls, T, N))
    (kk : ∀ (r : Option Value) (w : am_W), Post' r w → w.length = wc.length → am_V p l e R s m args below meth c nL D cA ad ext A H0 cells slots Q (am_putb ws js w) (pc + 3) ls ((r.map (am_rv js)).toList ++ rest)) : am_V p l e R s m args below meth c nL D cA ad ext A H0 cells slots Q ws pc ls ((as.map (am_rv js)).reverse ++ .ref (js.getD k0 0) :: rest) := by
  intro H locs L hP hD hS hl
  obtain ⟨hx, hb, hml, hown, hts, hlk, hN, hK, hI⟩ := id K
  obtain ⟨k1, k2, ⟨k3, k4, k5⟩, k6, k7, k8⟩ := hk
  have hM := hC D cA (fun k => ad (js.getD k 0)) ext H.size
  have hargs : (as.map (am_rv js)).map (am_v ad ext) = as.map (am_v (fun k => ad (js.getD k 0)) ext) := by
    rw [List.map_map]
    exact List.map_congr_left (fun v _ => am_rv_v v)
  have hstk : ((as.map (am_rv js)).reverse ++ .ref (js.getD k0 0) :: rest).map (am_v ad ext) = (as.map (am_v (fun k => ad (js.getD k 0)) ext)).reverse ++ .ref (ad (js.getD k0 0)) :: rest.map (am_v ad ext) := by
    rw [List.map_append, List.map_reverse, hargs]
    rfl
  have hcat : ((rest.map (am_v ad ext)).map fun v => v.category).sum ≤ 8 := by
    rw [List.map_map, show ((fun v => v.category) ∘ am_v ad ext) = (fun v => v.category) from funext (fun v => am_v_cat v)]
    exact hW
  have hsig : ∀ sig, parseMethodDescriptor y.desc = some sig → n = sig.parameters.length := fun sig h => by
    rw [h] at k5
    exact (Option.some.inj k5).symm
  have hrecv : ∃ cellB : Cell, H[ad (js.getD k0 0)]? = some cellB ∧ cellB.vm.isStatics = false ∧ s.vm.findClass y.cls = some cellB.cls := by
    obtain ⟨j, -, h2, h3⟩ := am_jsg hjs hr0
    rw [h2]
    exact va_recv hK hP hcl (am_w_get h3)
  have hpre : PreV s H y.cls (ad (js.getD k0 0)) (va_Pc ((.ref k0 :: as).map (am_v (fun k => ad (js.getD k 0)) ext)) (am_S D cA (fun k => ad (js.getD k 0)) ext H.size wc)) (as.map (am_v (fun k => ad (js.getD k 0)) ext)) := ⟨am_S_blind, hrecv, fun U hU hWU => ⟨rfl, am_pre K hX hA hP hD hS hjs hnd hU hWU⟩⟩
  have hfr : (am_rm d' 0 0).frames + 1 ≤ R.frames := by rw [hRf]; exact hd
  have hlo : 8 + (maxL + 11) + (am_rm d' 0 0).locals ≤ R.locals := by
    rw [hRl]
    show 8 + (maxL + 11) + 60 * d' ≤ 60 * d
    omega
  have hmon : 2 * (F0 m pc L ((as.map (am_v (fun k => ad (js.getD k 0)) ext)).reverse ++ .ref (ad (js.getD k0 0)) :: rest.map (am_v ad ext))).monitorRoom + ((rest.map (am_v ad ext)).map fun v => v.category).sum ≤ 8 := by
    rw [show (F0 m pc L ((as.map (am_v (fun k => ad (js.getD k 0)) ext)).reverse ++ .ref (ad (js.getD k0 0)) :: rest.map (am_v ad ext))).monitorRoom = 0 from rfl]
    omega
  have hn2 : (as.map (am_v (fun k => ad (js.getD k 0)) ext)).length = n := by rw [List.length_map]; exact hn
  rw [hstk]
  refine am_back hP hD hS hA hl hjs hnd (Post := Post') (aa := (.ref (ad (js.getD k0 0)) :: as.map (am_v (fun k => ad (js.getD k 0)) ext)).toArray) ?_ kk
  rcases k6 with h6 | ⟨host, h6⟩
  · exact va_runV (nL := nL) ⟨hx, hb, hml, hown, hts⟩ hM ⟨⟨rfl, rfl, hfr, hlo, pay_in hts (am_code_good k1), List.mem_cons_self, hts _ k1, hts _ k2, ⟨k3, k4⟩, hsig, hts _ h6⟩, hts _ k7, hts _ k8⟩ hpre rfl hn2 hl.1 rfl hmon hdg ⟨hRc.1, hRc.2⟩
  · exact va_runVN (nL := nL) ⟨hx, hb, hml, hown, hts⟩ hM ⟨⟨⟨rfl, rfl, hfr, hlo, pay_in hts (am_code_good k1), List.mem_cons_self⟩, hts _ k1, hts _ k2, ⟨k3, k4⟩, hsig, va_Nw.use rfl (hN _ h6)⟩, hts _ k7, hts _ k8⟩ hpre rfl hn2 hl.1 rfl hmon hdg ⟨hRc.1, hRc.2⟩
theorem am_callX (K : am_K p s m args meth c cc nL own D cA ini) (hX : am_X ext A s H0) (hA : ∀ q : Nat, H0.size ≤ q → A q) {d d' idx maxL n k : Nat} {y : MethodName} {bytes : ByteArray} {ret' : Option FieldType} {ws : am_W} {pc : Nat} {ls : am_L} {rest as : List Value} {Post' : Option Value → am_W → Prop} (hdg : decode cc pc = .ok (.invokevirtual idx, 3)) (hk : am_lk own idx 1 y bytes maxL ret' n) (hmL : maxL ≤ 41) (hd : d' < d) (hRf : R.frames = d) (hRl : R.locals = 60 * d) (hRc : cells ≤ R.cells ∧ slots ≤ R.slots) (hC : am_Con l y bytes maxL ret' d' (.retAddr k :: as) [] Post') (hn : as.length = n)
    (has : as.map (am_rv []) = as) (hy : y.cls = "java/lang/String") (hkn : k < am_sn) (hW : (rest.map fun v => v.category).sum ≤ 8)
    (kk : ∀ (r : Option Value) (w : am_W), Post' r w → w.length = 0 → am_V p l e R s m args below meth c nL D cA ad ext A H0 cells slots Q ws (pc + 3) ls ((r.map (am_rv [])).toList ++ rest)) : am_V p l e R s m args below meth c nL D cA ad ext A H0 cells slots Q ws pc ls (as.reverse ++ .retAddr k :: rest) := by
  intro H locs L hP hD hS hl
  obtain ⟨hx, hb, hml, hown, hts, hlk, hN, hK, hI⟩ := id K
  obtain ⟨k1, k2, ⟨k3, k4, k5⟩, k6, k7, k8⟩ := hk
  have hM := hC D cA (fun k => ad (([] : List Nat).getD k 0)) ext H.size
  have hargs : (as.map (am_rv [])).map (am_v ad ext) = as.map (am_v (fun k => ad (([] : List Nat).getD k 0)) ext) := by
    rw [List.map_map]
    exact List.map_congr_left (fun v _ => am_rv_v v)
  have hstk : (as.reverse ++ .retAddr k :: rest).map (am_v ad ext) = (as.map (am_v (fun k => ad (([] : List Nat).getD k 0)) ext)).reverse ++ .ref (ext k) :: rest.map (am_v ad ext) := by
    rw [List.map_append, List.map_reverse, ← hargs, has]
    rfl
  have hcat : ((rest.map (am_v ad ext)).map fun v => v.category).sum ≤ 8 := by
    rw [List.map_map, show ((fun v => v.category) ∘ am_v ad ext) = (fun v => v.category) from funext (fun v => am_v_cat v)]
    exact hW
  have hsig : ∀ sig, parseMethodDescriptor y.desc = some sig → n = sig.parameters.length := fun sig h => by
    rw [h] at k5
    exact (Option.some.inj k5).symm
  have hrecv : ∃ cellB : Cell, H[ext k]? = some cellB ∧ cellB.vm.isStatics = false ∧ s.vm.findClass y.cls = some cellB.cls := by
    obtain ⟨-, h2, -⟩ := hX.1 k hkn
    obtain ⟨cell, g1, g2, g3, -⟩ := h2.kept hS.2.1
    exact ⟨cell, g1, g2, by rw [hy]; exact g3⟩
  have hpre : PreV s H y.cls (ext k) (va_Pc ((.retAddr k :: as).map (am_v (fun k => ad (([] : List Nat).getD k 0)) ext)) (am_S D cA (fun k => ad (([] : List Nat).getD k 0)) ext H.size [])) (as.map (am_v (fun k => ad (([] : List Nat).getD k 0)) ext)) := ⟨am_S_blind, hrecv, fun U hU hWU => ⟨rfl, am_pre K hX hA hP hD hS rfl rfl hU hWU⟩⟩
  have hfr : (am_rm d' 0 0).frames + 1 ≤ R.frames := by rw [hRf]; exact hd
  have hlo : 8 + (maxL + 11) + (am_rm d' 0 0).locals ≤ R.locals := by
    rw [hRl]
    show 8 + (maxL + 11) + 60 * d' ≤ 60 * d
    omega
  have hmon : 2 * (F0 m pc L ((as.map (am_v (fun k => ad (([] : List Nat).getD k 0)) ext)).reverse ++ .ref (ext k) :: rest.map (am_v ad ext))).monitorRoom + ((rest.map (am_v ad ext)).map fun v => v.category).sum ≤ 8 := by
    rw [show (F0 m pc L ((as.map (am_v (fun k => ad (([] : List Nat).getD k 0)) ext)).reverse ++ .ref (ext k) :: rest.map (am_v ad ext))).monitorRoom = 0 from rfl]
    omega
  have hn2 : (as.map (am_v (fun k => ad (([] : List Nat).getD k 0)) ext)).length = n := by rw [List.length_map]; exact hn
  rw [hstk]
  refine am_back (wc := []) (js := []) hP hD hS hA hl rfl rfl (Post := Post') (aa := (.ref (ext k) :: as.map (am_v (fun k => ad (([] : List Nat).getD k 0)) ext)).toArray) ?_ kk
  rcases k6 with h6 | ⟨host, h6⟩
  · exact va_runV (nL := nL) ⟨hx, hb, hml, hown, hts⟩ hM ⟨⟨rfl, rfl, hfr, hlo, pay_in hts (am_code_good k1), List.mem_cons_self, hts _ k1, hts _ k2, ⟨k3, k4⟩, hsig, hts _ h6⟩, hts _ k7, hts _ k8⟩ hpre rfl hn2 hl.1 rfl hmon hdg ⟨hRc.1, hRc.2⟩
  · exact va_runVN (nL := nL) ⟨hx, hb, hml, hown, hts⟩ hM ⟨⟨⟨rfl, rfl, hfr, hlo, pay_in hts (am_code_good k1), List.mem_cons_self⟩, hts _ k1, hts _ k2, ⟨k3, k4⟩, hsig, va_Nw.use rfl (hN _ h6)⟩, hts _ k7, hts _ k8⟩ hpre rfl hn2 hl.1 rfl hmon hdg ⟨hRc.1, hRc.2⟩
/-- a call of a method of one's own object: its world is the caller's -/
theorem am_callO (K : am_K p s m args meth c cc nL own D cA ini) (hX : am_X ext A s H0) (hA : ∀ q : Nat, H0.size ≤ q → A q) {d d' idx maxL n ci N : Nat} {T : u_T} {fs : List Value} {y : MethodName} {bytes : ByteArray} {ret' : Option FieldType} {ws : am_W} {pc : Nat} {ls : am_L} {rest as : List Value} {Post' : Option Value → am_W → Prop} (hdg : decode cc pc = .ok (.invokevirtual idx, 3)) (hk : am_lk own idx 1 y bytes maxL ret' n) (hmL : maxL ≤ 41) (hd : d' < d) (hRf : R.frames = d) (hRl : R.locals = 60 * d) (hRc : cells ≤ R.cells ∧ slots ≤ R.slots) (hC : am_Con l y bytes maxL ret' d' (.ref 0 :: as) ws Post') (hn : as.length = n)
    (hW : (rest.map fun v => v.category).sum ≤ 8) (hr0 : ws[0]? = some (.inr (ci, fs))) (hcl : vwCl[ci]? = some (y.cls, T, N))
    (kk : ∀ (r : Option Value) (w : am_W), Post' r w → w.length = ws.length → am_V p l e R s m args below meth c nL D cA ad ext A H0 cells slots Q w (pc + 3) ls (r.toList ++ rest)) : am_V p l e R s m args below meth c nL D cA ad ext A H0 cells slots Q ws pc ls (as.reverse ++ .ref 0 :: rest) := by
  intro H locs L hP hD hS hl
  obtain ⟨hx, hb, hml, hown, hts, hlk, hN, hK, hI⟩ := id K
  obtain ⟨k1, k2, ⟨k3, k4, k5⟩, k6, k7, k8⟩ := hk
  have hM := hC D cA ad ext H.size
  have hstk : (as.reverse ++ .ref 0 :: rest).map (am_v ad ext) = (as.map (am_v ad ext)).reverse ++ .ref (ad 0) :: rest.map (am_v ad ext) := by
    rw [List.map_append, List.map_reverse]
    rfl
  have hcat : ((rest.map (am_v ad ext)).map fun v => v.category).sum ≤ 8 := by
    rw [List.map_map, show ((fun v => v.category) ∘ am_v ad ext) = (fun v => v.category) from funext (fun v => am_v_cat v)]
    exact hW
  have hsig : ∀ sig, parseMethodDescriptor y.desc = some sig → n = sig.parameters.length := fun sig h => by
    rw [h] at k5
    exact (Option.some.inj k5).symm
  have hAin : ∀ q, va_A (am_w cA ad ext ws) H.size q → A q := by
    intro q hq
    rcases hq with ⟨k, x, hx⟩ | hq
    · exact hD.2 k (q, x) hx
    · exact hA q (Nat.le_trans hS.1 hq)
  have hrecv : ∃ cellB : Cell, H[ad 0]? = some cellB ∧ cellB.vm.isStatics = false ∧ s.vm.findClass y.cls = some cellB.cls := va_recv hK hP hcl (am_w_get hr0)
  have hpre : PreV s H y.cls (ad 0) (va_Pc ((.ref 0 :: as).map (am_v ad ext)) (am_S D cA ad ext H.size ws)) (as.map (am_v ad ext)) := ⟨am_S_blind, hrecv, fun U hU hWU => ⟨rfl, by rw [hU], by rw [hU]; exact hP, va_K.moved hWU.alike hK, hD.weaken (fun _ _ _ _ => trivial), gN_warm hWU hN, by rw [hU]; exact hX.move hWU hS.2.1 hAin⟩⟩
  have hfr : (am_rm d' 0 0).frames + 1 ≤ R.frames := by rw [hRf]; exact hd
  have hlo : 8 + (maxL + 11) + (am_rm d' 0 0).locals ≤ R.locals := by
    rw [hRl]
    show 8 + (maxL + 11) + 60 * d' ≤ 60 * d
    omega
  have hmon : 2 * (F0 m pc L ((as.map (am_v ad ext)).reverse ++ .ref (ad 0) :: rest.map (am_v ad ext))).monitorRoom + ((rest.map (am_v ad ext)).map fun v => v.category).sum ≤ 8 := by
    rw [show (F0 m pc L ((as.map (am_v ad ext)).reverse ++ .ref (ad 0) :: rest.map (am_v ad ext))).monitorRoom = 0 from rfl]
    omega
  have hn2 : (as.map (am_v ad ext)).length = n := by rw [List.length_map]; exact hn
  have hr : va_Run p l e R s m args below meth c H locs cells slots 0 0 (F0 m pc L ((as.map (am_v ad ext)).reverse ++ .ref (ad 0) :: rest.map (am_v ad ext))) (rest.map (am_v ad ext)) (am_Q D cA ad ext ws.length Post' (va_A (am_w cA ad ext ws) H.size) (.ref (ad 0) :: as.map (am_v ad ext)).toArray) (va_A (am_w cA ad ext ws) H.size) := by
    rcases k6 with h6 | ⟨host, h6⟩
    · exact va_runV (nL := nL) ⟨hx, hb, hml, hown, hts⟩ hM ⟨⟨rfl, rfl, hfr, hlo, pay_in hts (am_code_good k1), List.mem_cons_self, hts _ k1, hts _ k2, ⟨k3, k4⟩, hsig, hts _ h6⟩, hts _ k7, hts _ k8⟩ hpre rfl hn2 hl.1 rfl hmon hdg ⟨hRc.1, hRc.2⟩
    · exact va_runVN (nL := nL) ⟨hx, hb, hml, hown, hts⟩ hM ⟨⟨⟨rfl, rfl, hfr, hlo, pay_in hts (am_code_good k1), List.mem_cons_self⟩, hts _ k1, hts _ k2, ⟨k3, k4⟩, hsig, va_Nw.use rfl (hN _ h6)⟩, hts _ k7, hts _ k8⟩ hpre rfl hn2 hl.1 rfl hmon hdg ⟨hRc.1, hRc.2⟩
  rw [hstk]
  intro T hT X
  obtain ⟨v, st₀, t, T', L1, h0, X', hL1, e1, e2, ⟨⟨r, w, hpost, hwl, hoc, hP1⟩, hz, hkq⟩, st⟩ := hr T hT X
  have hv : v = r.map (am_v ad ext) := Outcome.returned.inj hoc
  rw [h0] at hz hkq
  have hS1 : va_S A H0 T'.heap (locs ++ L1) := by
    refine ⟨Nat.le_trans hS.1 (by rw [e1]; exact hz), fun q h1 h2 => ?_, fun q hq => ?_⟩
    · rw [e1, hkq q (Nat.lt_of_lt_of_le h1 hS.1) (fun z => h2 (hAin q z))]
      exact hS.2.1 q h1 h2
    · rcases List.mem_append.mp hq with h | h
      · exact hS.2.2 q h
      · exact hAin _ (hL1 q h)
  have hkk := kk r w hpost hwl T'.heap (locs ++ L1) L (by rw [e1]; exact hP1) (am_wD hD hwl) hS1 hl
  have hstk2 : v.toList ++ rest.map (am_v ad ext) = (r.toList ++ rest).map (am_v ad ext) := by
    subst hv
    cases r with
    | none => rfl
    | some x => rfl
  obtain ⟨t2, a1, b1⟩ := hkk T' rfl (X' : Stand p l e R s m args below meth c T' (locs ++ L1) cells slots)
  rw [← hstk2] at a1
  exact ⟨t2, st t2 a1, b1⟩
theorem am_ofW {l : Launch} {y : MethodName} {ws ws' : List Cond} {rm : Room} {Pc : Array Value → State → Prop} {Qc : Array Value → State → Outcome → State → Prop} {mc ms : Nat} {free : Addr → Prop} {cc : ByteArray} {maxL : Nat} {ret : Option FieldType}
    (hy : (plainName y.cls || plainFor y) = true) (hw : ws = Cond.code y cc maxL ret :: ws')
    (body : ∀ p e s m args below meth c s₁, BodyLoose p l y (headSpec ws rm) cc maxL ret e s m args below meth c s₁ → c.maxLocals = maxL → Pc args s →
      W p l e (headSpec ws rm).room s m args below meth c s.heap [] 0 0 (MQ below Qc args s mc ms free) (entryFrame m args maxL)) : Met l y ws rm Pc Qc mc ms free := by
  rcases (Bool.or_eq_true _ _).mp hy with h | h
  · exact Met.ofW h hw body
  · exact va_MetF h hw body
/-- a contract out of the rules -/
theorem am_met {l : Launch} {y : MethodName} {cc : ByteArray} {maxL d : Nat} {ret : Option FieldType} {as : List Value} {ws : am_W} {Post : Option Value → am_W → Prop} {own : String} {cd : am_cdT} {rf : am_rfT} {ini : Bool} (hy : (plainName y.cls || plainFor y) = true) (hown : y.cls = own) (hini : ini = true → y.name = "<init>") (hcd : am_cdok cc maxL cd) (hrf : am_rfok own rf) (hlen : (lg_sl as).length ≤ maxL)
    (h : ∀ V : am_VT, am_B l own ini d cd rf ret Post ws.length V → V ws 0 (lv_args 0 as) []) : am_Con l y cc maxL ret d as ws Post := by
  intro D cA ad ext sz
  refine am_ofW (cc := cc) (maxL := maxL) (ret := ret) hy rfl ?_
  intro p e s m args below meth c s₁ B hml hv
  obtain ⟨rfl, hsz, hP, hK, hD0, hN, hX⟩ := hv
  have hx := B.exec
  have hb := B.bytes
  have hr := B.returns
  have hts0 := atoms_spec (ws := Cond.code y cc maxL ret :: gW) B.pre
  have hts : ∀ w ∈ gW, w.before (as.map (am_v ad ext)).toArray s = true := fun w hw => hts0 w (List.mem_cons_of_mem _ hw)
  have hown2 : s.vm.findClass own = some m.cls := hown ▸ findClass_of_methodNamed B.named
  have hlocks := B.notSynchronized
  have hin : meth.name = y.name := (name_of_methodNamed B.named B.method).1
  subst hsz
  have hD := hD0.self (sz := s.heap.size)
  have K : am_K p s m (as.map (am_v ad ext)).toArray meth c cc maxL own D cA ini := ⟨hx, hb, hml, hown2, hts, hlocks, hN, hK, fun z => hin.trans (hini z)⟩
  have hA : ∀ q : Nat, s.heap.size ≤ q → va_A (am_w cA ad ext ws) s.heap.size q := fun q h => Or.inr h
  have hl := lv_entry (as.map (am_v ad ext)) (n := maxL) (by rw [am_lgsl]; exact hlen)
  rw [lg_entry_eq]
  rw [am_args] at hl
  refine h (fun w pc ls st => am_V p l e (am_rm d 0 0) s m (as.map (am_v ad ext)).toArray below meth c maxL D cA ad ext (va_A (am_w cA ad ext ws) s.heap.size) s.heap 0 0 (MQ below (am_Q D cA ad ext ws.length Post (va_A (am_w cA ad ext ws) s.heap.size)) (as.map (am_v ad ext)).toArray s 0 0 (va_A (am_w cA ad ext ws) s.heap.size)) w pc ls st) ?_ s.heap [] _ hP hD va_S.rf hl
  refine ⟨?_, ?_, ?_, ?_, ?_, ?_, ?_, ?_, ?_, ?_, ?_, ?_, ?_, ?_, ?_, ?_, ?_, ?_, ?_, ?_, ?_, ?_⟩
  · intro ins ln tg ds ws pc ls st ws' pc' ls' st' ps ds' hc hxx hp kk
    obtain ⟨h1, h2⟩ := hcd _ _ _ _ hc
    exact am_x_ok K hrf h1 h2 hxx hp kk
  · intro idx y bytes maxL ret' n ws pc ls rest as js wc Post' d' ln tg hc hk hmL hd hC hn hjs hnd hW kk
    obtain ⟨h1, h2⟩ := hcd _ _ _ _ hc
    exact am_callS K hX hA h1 hk hmL hd rfl rfl ⟨Nat.le_refl _, Nat.le_refl _⟩ hC hn hjs hnd hW kk
  · intro idx y bytes maxL ret' n ws pc ls rest k0 ci fs T N as js wc Post' d' ln tg hc hk hmL hd hC hn hjs hnd hW hr0 hcl kk
    obtain ⟨h1, h2⟩ := hcd _ _ _ _ hc
    exact am_callV K hX hA h1 hk hmL hd rfl rfl ⟨Nat.le_refl _, Nat.le_refl _⟩ hC hn hjs hnd hW hr0 hcl kk
  · intro w pc ls v ln tg hrt hc hwl hpo H locs L hP hD hS hl
    obtain ⟨h1, h2⟩ := hcd _ _ _ _ hc
    exact W.iret hx hb (hr.trans hrt) (fun t ht _ => ⟨⟨_, w, hpo, hwl, rfl, by rw [ht]; exact hP⟩, hS.F ht⟩) hS.2.2 h1 hlocks
  · intro w pc ls ln tg hrt hc hwl hpo H locs L hP hD hS hl
    obtain ⟨h1, h2⟩ := hcd _ _ _ _ hc
    exact W.vret hx hb (hr.trans hrt) (fun t ht _ => ⟨⟨_, w, hpo, hwl, rfl, by rw [ht]; exact hP⟩, hS.F ht⟩) hS.2.2 h1 hlocks
  · intro w pc ls v ln tg hrt hc hwl hv hpo H locs L hP hD hS hl
    obtain ⟨h1, h2⟩ := hcd _ _ _ _ hc
    exact W.zret hx hb (hr.trans hrt) (by rcases hv with rfl | rfl <;> decide) (fun t ht _ => ⟨⟨_, w, hpo, hwl, rfl, by rw [ht]; exact hP⟩, hS.F ht⟩) hS.2.2 h1 hlocks
  · intro w pc ls a ln tg hrt hc hwl hpo H locs L hP hD hS hl
    obtain ⟨h1, h2⟩ := hcd _ _ _ _ hc
    obtain ⟨nm, hrt⟩ := hrt
    exact W.aret hx hb (hr.trans hrt) (Or.inl ⟨nm, rfl⟩) (Or.inr ⟨ad a, rfl⟩) (fun t ht _ => ⟨⟨some (.ref a), w, hpo, hwl, rfl, by rw [ht]; exact hP⟩, hS.F ht⟩) hS.2.2 h1 hlocks
  · intro w pc ls st idx v ln tg hc hw kk H locs L hP hD hS hl
    obtain ⟨h1, h2⟩ := hcd _ _ _ _ hc
    exact lv_ldc hx hb hown2 (hts _ hw) h1 (kk H locs L hP hD hS hl)
  · intro w pc ls st idx v ln tg hc hw kk H locs L hP hD hS hl
    obtain ⟨h1, h2⟩ := hcd _ _ _ _ hc
    exact lv_ldc2 hx hb hown2 (hts _ hw) h1 (kk H locs L hP hD hS hl)
  · intro w pc ls st idx k tx ln tg hc hk hkn kk H locs L hP hD hS hl
    obtain ⟨h1, h2⟩ := hcd _ _ _ _ hc
    obtain ⟨hR, -⟩ := hX.1 k hkn
    rw [hk] at hR
    exact va_ldcS hx hb hown2 hR h1 (kk H locs L hP hD hS hl)
  · intro w pc ls st idx k tx ln tg hc hk hkn kk H locs L hP hD hS hl
    obtain ⟨h1, h2⟩ := hcd _ _ _ _ hc
    obtain ⟨hR, -⟩ := hX.1 k hkn
    rw [hk] at hR
    exact am_ldcSW hx hb hown2 hR h1 (kk H locs L hP hD hS hl)
  · intro w pc ls ls' st ks hk kk H locs L hP hD hS hl
    exact kk H locs L hP hD hS (lv_sub hl ks (am_pick_ok hk))
  · intro idx w pc ls rest q0 q1 n0 n1 f g sp dp n ln tg hc hlk hd0 h0 h1 g1 g2 g3 g4 g5 hW kk H locs L hP hD hS hl
    obtain ⟨hdg, h2⟩ := hcd _ _ _ _ hc
    have hcat : ((rest.map (am_v ad ext)).map fun v => v.category).sum ≤ 8 := by
      rw [List.map_map, show ((fun v => v.category) ∘ am_v ad ext) = (fun v => v.category) from funext (fun v => am_v_cat v)]
      exact hW
    exact va_copyi hx hb (hml.trans hl.1.symm) hown2 (hts _ hlk) (hts _ am_cpS.1) (hts _ am_cpS.2.1) (hts _ am_cpS.2.2) hK hP hD hS q0 q1 0 0 (am_w_get h0) (am_w_get h1) rfl rfl rfl g1 g2 g3 g4 g5 (fun _ _ => rfl) hd0 (by
      have e1 : nativeFrameWords "java/lang/System" "arraycopy" 5 ≤ 41 := by decide +kernel
      show _ ≤ 60 * d
      omega) hdg (fun H1 locs1 hP1 hD1 hS1 => kk H1 locs1 L (am_w_set (ws := w) ▸ hP1) (am_w_set (ws := w) ▸ hD1) hS1 hl)
  · intro idx y bytes maxL ret' n w pc ls rest k as Post' d' ln tg hc hk hmL hd hC hn has hy hkn hW kk
    obtain ⟨h1, h2⟩ := hcd _ _ _ _ hc
    exact am_callX K hX hA h1 hk hmL hd rfl rfl ⟨Nat.le_refl _, Nat.le_refl _⟩ hC hn has hy hkn hW kk
  · intro idx y bytes maxL ret' n w pc ls rest ci fs T N as Post' d' ln tg hc hk hmL hd hC hn hW hr0 hcl kk
    obtain ⟨h1, h2⟩ := hcd _ _ _ _ hc
    exact am_callO K hX hA h1 hk hmL hd rfl rfl ⟨Nat.le_refl _, Nat.le_refl _⟩ hC hn hW hr0 hcl kk
  · intro idx w pc ls st k ln tg hc hw hk kk H locs L hP hD hS hl
    obtain ⟨h1, h2⟩ := hcd _ _ _ _ hc
    exact vk_getf hx hb (hX.1 k hk).2.2.2.1 hS hown2 (hts _ hw) (fun _ z => z) h1 (kk H locs L hP hD hS hl)
  · intro idx w pc ls st k ln tg hc hw hk kk H locs L hP hD hS hl
    obtain ⟨h1, h2⟩ := hcd _ _ _ _ hc
    exact vk_getf hx hb (hX.1 k hk).2.2.1 hS hown2 (hts _ hw) (fun _ z => z) h1 (kk H locs L hP hD hS hl)
  · intro w pc ls st k ln tg hc hk kk H locs L hP hD hS hl
    obtain ⟨h1, h2⟩ := hcd _ _ _ _ hc
    exact va_tlen hx hb (hX.1 k hk).2.2.2.2 hS rfl h1 (kk H locs L hP hD hS hl)
  · intro w pc ls st k i ln tg hc hk hin kk H locs L hP hD hS hl
    obtain ⟨h1, h2⟩ := hcd _ _ _ _ hc
    exact va_tb hx hb (hX.1 k hk).2.2.2.2 hS hin rfl h1 (kk H locs L hP hD hS hl)
  · intro idx w pc ls st ln tg hc hw kk H locs L hP hD hS hl
    obtain ⟨h1, h2⟩ := hcd _ _ _ _ hc
    exact va_gets hx hb hX.2.1 hS hown2 (hts _ hw) (fun _ z => z) h1 (kk H locs L hP hD hS hl)
  · intro idx w pc ls st ln tg hc hw k1 k2 H locs L hP hD hS hl
    obtain ⟨h1, h2⟩ := hcd _ _ _ _ hc
    obtain ⟨v0, g2, g3⟩ := hX.2.2
    rcases g2 with rfl | rfl
    · exact va_gets hx hb g3 hS hown2 (hts _ hw) (fun _ z => z) h1 (k1 H locs L hP hD hS hl)
    · exact va_gets hx hb g3 hS hown2 (hts _ hw) (fun _ z => z) h1 (k2 H locs L hP hD hS hl)
  · intro w pc ls v ty ln tg hrt hnn hc hwl hpo H locs L hP hD hS hl
    obtain ⟨h1, h2⟩ := hcd _ _ _ _ hc
    exact W.zret hx hb (hr.trans hrt) hnn (fun t ht _ => ⟨⟨_, w, hpo, hwl, rfl, by rw [ht]; exact hP⟩, hS.F ht⟩) hS.2.2 h1 hlocks
end AMM
