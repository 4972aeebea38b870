/-! METHODS THAT MAY THROW: their contracts, their rules -/
def am_cw : Cond := Bundle.throwableAtoms.getD 3 (.initialized "")
theorem am_cs_ok {args a' : Array Value} {s U : State} {x : MethodName} {bytes : ByteArray} {maxL : Nat} {ret : Option FieldType} (h : s.vm.Alike U.vm) (hb : (Cond.codeSync x bytes maxL ret).before args s = true) : (Cond.codeSync x bytes maxL ret).before a' U = true := by
  have e1 : U.methodNamed? x = s.methodNamed? x := State.methodNamed?_setVm (s := s) (vm' := U.vm) h x
  have e2 : U.vm.method? = s.vm.method? := funext (fun m => h.method? m)
  simp only [Cond.before, Cond.holds, Cond.value] at hb ⊢
  rw [e1, e2]
  exact hb
theorem am_dc_ok {args a' : Array Value} {s U : State} {x : MethodName} (h : s.vm.Alike U.vm) (hb : (Cond.declares x).before args s = true) : (Cond.declares x).before a' U = true := by
  have e1 : U.methodNamed? x = s.methodNamed? x := State.methodNamed?_setVm (s := s) (vm' := U.vm) h x
  have e2 : U.vm.method? = s.vm.method? := funext (fun m => h.method? m)
  simp only [Cond.before, Cond.holds, Cond.value] at hb ⊢
  rw [e1, e2]
  exact hb
theorem am_ca_ok {args a' : Array Value} {s U : State} {x y : String} (h : s.vm.Alike U.vm) (hb : (Cond.castable x y).before args s = true) : (Cond.castable x y).before a' U = true := by
  have e1 : U.vm.findClass x = s.vm.findClass x := h.findClass ..
  have e2 : U.vm.findClass y = s.vm.findClass y := h.findClass ..
  simp only [Cond.before, Cond.holds, Cond.value] at hb ⊢
  rw [e1, e2]
  cases ha : s.vm.findClass x with
  | none => simp [ha] at hb
  | some c0 =>
    cases hc : s.vm.findClass y with
    | none => simp [ha, hc] at hb
    | some c1 =>
      have e3 : U.vm.assignable c0 c1 = s.vm.assignable c0 c1 := h.assignable ..
      simp only [ha, hc] at hb ⊢
      rw [e3]
      exact hb
/-- the words of a throw that aren't good ones -/
def am_nw : List Cond := [am_cw, .declares (Bundle.initS "java/lang/RuntimeException"), .declares (Bundle.initS "java/lang/Exception"), .declares (Bundle.initS Bundle.tN), .castable "java/lang/IllegalArgumentException" "java/lang/IllegalArgumentException", .castable "java/util/NoSuchElementException" "java/util/NoSuchElementException"]
theorem am_nw_ok {args a' : Array Value} {s U : State} (h : s.vm.Alike U.vm) {w : Cond} (hw : w ∈ am_nw) (hb : w.before args s = true) : w.before a' U = true := by
  simp only [am_nw, List.mem_cons, List.not_mem_nil, or_false] at hw
  rcases hw with rfl | rfl | rfl | rfl | rfl | rfl
  · exact am_cs_ok h hb
  · exact am_dc_ok h hb
  · exact am_dc_ok h hb
  · exact am_dc_ok h hb
  · exact am_ca_ok h hb
  · exact am_ca_ok h hb
/-- the texts of the class's exceptions -/
def am_xs : List (Nat × String) := [(59, "the tape has not so many bytes"), (106, "no such count"), (112, "no such STEP"), (124, "no such kind"), (129, "no such what"), (134, "no such ENDING"), (147, "no such HAND or no 'any' STEP"), (159, "nothing is kept, or no such STEP"), (161, "0 to 16 choices"), (167, "a choice is no HAND"), (173, "no PLAY, no such HAND or no such what"), (181, "no PLAY, or no such HAND of THE RING"), (194, "no PLAY, or no such choice"), (199, "no such ROOM")]
def am_XT (A : Nat → Prop) (U : State) (H : Heap) : Prop := (∀ q ∈ am_xs, ∃ sa : Nat, vk_R "SendHall" q.1 q.2 sa U) ∧ vx_Zq Bundle.tN "UNASSIGNED_STACK" Bundle.steD A U H ∧ vx_Zq Bundle.tN "SUPPRESSED_SENTINEL" Bundle.listD A U H ∧ ∀ w ∈ am_nw, ∀ a : Array Value, w.before a U = true
theorem am_XT.move {A B : Nat → Prop} {u U : State} {H H1 : Heap} (h : am_XT A u H) (hW : u.WarmedH U.vm) (hq : ∀ a : Nat, a < H.size → ¬ A a → H1[a]? = H[a]?) (hAB : ∀ q, B q → A q) : am_XT B U H1 := by
  obtain ⟨h1, h2, h3, h4⟩ := h
  have hv := hW.alike
  exact ⟨fun q hq => by obtain ⟨sa, h⟩ := h1 q hq; exact ⟨sa, h.warm hW⟩, vx_Zq.moved hv ((h2.kept hq).narrow hAB), vx_Zq.moved hv ((h3.kept hq).narrow hAB), fun w hw a => am_nw_ok hv hw (h4 w hw a)⟩
theorem am_XT.same {A : Nat → Prop} {u U : State} {H : Heap} (h : am_XT A u H) (hv : U.vm = u.vm) : am_XT A U H := by
  obtain ⟨h1, h2, h3, h4⟩ := h
  have ha : u.vm.Alike U.vm := by rw [hv]; exact Vm.Alike.refl _
  exact ⟨fun q hq => by obtain ⟨sa, h⟩ := h1 q hq; exact ⟨sa, h.same hv⟩, vx_Zq.moved ha h2, vx_Zq.moved ha h3, fun w hw a => am_nw_ok ha hw (h4 w hw a)⟩
def am_SX (D : va_G) (cA : Nat → ClassId) (ad ext : Nat → Nat) (sz : Nat) (ws : am_W) (U : State) : Prop := am_S D cA ad ext sz ws U ∧ am_XT (va_A (am_w cA ad ext ws) sz) U U.heap
theorem am_SX_blind {D : va_G} {cA : Nat → ClassId} {ad ext : Nat → Nat} {sz : Nat} {ws : am_W} {av : List Value} : FrameBlind (va_Pc av (am_SX D cA ad ext sz ws)) := by
  intro a U g mk h
  obtain ⟨h0, h1, h2⟩ := h
  exact ⟨h0, (am_S_blind (av := av) a U g mk ⟨h0, h1⟩).2, am_XT.same (u := U) (U := U.calling g mk a) h2 rfl⟩
def am_XC (D : va_G) (cA : Nat → ClassId) (ad ext : Nat → Nat) (len : Nat) (PX : am_W → Prop) (E0 : String) (A : Nat → Prop) : String → State → State → Prop := fun E st t => E = E0 ∧ (∃ w : am_W, PX w ∧ w.length = len ∧ va_P D vwCl (am_w cA ad ext w) t.heap) ∧ va_F A st t
/-- a contract of a method that may throw an E0: one cell of six slots may come -/
def am_CnX (l : Launch) (y : MethodName) (bytes : ByteArray) (maxL : Nat) (ret : Option FieldType) (d : Nat) (as : List Value) (ws : am_W) (Post : Option Value → am_W → Prop) (PX : am_W → Prop) (E0 : String) : Prop := ∀ (D : va_G) (cA : Nat → ClassId) (ad ext : Nat → Nat) (sz : Nat),
  vx_Met l y (.code y bytes maxL ret :: gW) (am_rm d 1 6) (va_Pc (as.map (am_v ad ext)) (am_SX D cA ad ext sz ws)) (am_Q D cA ad ext ws.length Post (va_A (am_w cA ad ext ws) sz)) (am_XC D cA ad ext ws.length PX E0 (va_A (am_w cA ad ext ws) sz)) 1 6 (va_A (am_w cA ad ext ws) sz)
/-- an exception that SendHall throws: its words -/
def am_ex (E0 : String) (ik ic i0 : Nat) (b0 : ByteArray) : Prop := Bundle.fit E0 = true ∧ am_dc i0 b0 ∧ Cond.classLink "SendHall" ik E0 ∈ gW ∧ Cond.initialized E0 ∈ gW ∧ ∀ w ∈ am_aS "SendHall" ic E0 "java/lang/RuntimeException" ["java/lang/Exception"] i0 b0, w ∈ gW ∨ w ∈ am_nw
def am_ok1 (q : Cond × Nat) : Bool := (decide (lw_tbl[q.2]? = some q.1) && goodWord q.1) || decide (q.1 ∈ am_nw)
theorem am_ok1_ok {L : List Cond} {pl : List Nat} (h : ((L.zip pl).all am_ok1 && Nat.ble L.length pl.length) = true) : ∀ w ∈ L, w ∈ gW ∨ w ∈ am_nw := by
  intro w hw
  obtain ⟨h1, h2⟩ := (Bool.and_eq_true _ _).mp h
  obtain ⟨k, hk⟩ := List.getElem?_of_mem hw
  have hlt : k < L.length := (List.getElem?_eq_some_iff.mp hk).1
  have hp : k < pl.length := Nat.lt_of_lt_of_le hlt (Nat.le_of_ble_eq_true h2)
  have hz : (w, pl[k]) ∈ L.zip pl := by
    refine List.mem_of_getElem? (i := k) ?_
    rw [List.getElem?_zip_eq_some]
    exact ⟨hk, List.getElem?_eq_getElem hp⟩
  have h3 := List.all_eq_true.mp h1 _ hz
  unfold am_ok1 at h3
  rcases (Bool.or_eq_true _ _).mp h3 with h4 | h4
  · rw [Bool.and_eq_true, decide_eq_true_eq] at h4
    exact Or.inl (gW_in (List.mem_of_getElem? h4.1) h4.2)
  · exact Or.inr (of_decide_eq_true h4)
set_option maxRecDepth 100000 in
theorem am_exI : am_ex "java/lang/IllegalArgumentException" 57 61 7 Bundle.six := ⟨by decide +kernel, ⟨by decide +kernel, by decide +kernel, by decide +kernel, by decide +kernel⟩, am_wd 873 (by decide +kernel) rfl, am_wd 187 (by decide +kernel) rfl, am_ok1_ok (pl := [184, 895, 904, 0, 910, 912, 896, 897, 203, 204, 898, 903, 908, 928, 885, 929, 887, 930, 889, 899, 901, 891, 924, 925, 927, 891, 915, 916, 917, 918, 877, 918, 919, 920, 921, 879, 921, 922, 923, 924, 881, 914, 874, 875, 882, 883, 884, 886, 888, 890, 894, 893, 892]) (by decide +kernel)⟩
set_option maxRecDepth 100000 in
theorem am_exN : am_ex "java/util/NoSuchElementException" 104 108 13 prog_27_method_4_code := ⟨by decide +kernel, ⟨by decide +kernel, by decide +kernel, by decide +kernel, by decide +kernel⟩, am_wd 1148 (by decide +kernel) rfl, am_wd 193 (by decide +kernel) rfl, am_ok1_ok (pl := [184, 895, 904, 0, 910, 912, 896, 897, 203, 204, 898, 903, 908, 928, 885, 929, 887, 930, 889, 899, 901, 891, 924, 925, 927, 891, 1159, 1160, 1161, 918, 877, 918, 919, 920, 921, 879, 921, 922, 923, 924, 881, 1158, 1149, 1150, 1151, 906, 1152, 1153, 1154, 1155, 894, 893, 1156]) (by decide +kernel)⟩
theorem am_nw_ot : ∀ w ∈ am_nw, vx_ot w = true := by decide +kernel
def am_TX (cd : am_cdT) (ik ic n0 : Nat) (PX : am_W → Prop) (V : am_VT) : Prop := ∀ (is : Nat) (tx : String) (ws : am_W) (pc : Nat) (ls : am_L) (t0 t3 t4 t6 t9 : Nat × List Nat), cd pc = some (.new ik, t0) → cd (pc + 3) = some (.dup, t3) → cd (pc + 4) = some (.ldc is, t4) → cd (pc + 6) = some (.invokespecial ic, t6) → cd (pc + 9) = some (.athrow, t9) → (is, tx) ∈ am_xs → ws.length = n0 → PX ws → V ws pc ls []
abbrev am_BX (l : Launch) (own : String) (ini : Bool) (d : Nat) (cd : am_cdT) (rf : am_rfT) (ret : Option FieldType) (Post : Option Value → am_W → Prop) (PX : am_W → Prop) (ik ic : Nat) (n0 : Nat) (V : am_VT) : Prop := am_B l own ini d cd rf ret Post n0 V ∧ am_TX cd ik ic n0 PX V
theorem am_throw {l : Launch} (hl : l.stackTraces = false) {p : Program} {e : Env} {s : State} {m : MethodId} {args : Array Value} {below : List Frame} {meth : Method} {c : Code} {cc : ByteArray} {nL : Nat} {D : va_G} {cA : Nat → ClassId} {ad ext : Nat → Nat} {A : Nat → Prop} {ini : Bool} {Qc : Array Value → State → Outcome → State → Prop} {d len : Nat} {PX : am_W → Prop} {E0 : String} {ik ic i0 : Nat} {b0 : ByteArray} (K : am_K p s m args meth c cc nL "SendHall" D cA ini) (hT : am_XT A s s.heap) (he : am_ex E0 ik ic i0 b0) (hd : 6 ≤ d) (htab : ∀ x ∈ c.exceptionTable.toList, False)
    {ws : am_W} {pc is : Nat} {tx : String} {ls : am_L} (d0 : decode cc pc = .ok (.new ik, 3)) (d3 : decode cc (pc + 3) = .ok (.dup, 1)) (d4 : decode cc (pc + 4) = .ok (.ldc is, 2)) (d6 : decode cc (pc + 6) = .ok (.invokespecial ic, 3)) (d9 : decode cc (pc + 9) = .ok (.athrow, 1)) (hx : (is, tx) ∈ am_xs) (hwl : ws.length = len) (hPX : PX ws) :
    am_V p l e (am_rm d 1 6) s m args below meth c nL D cA ad ext A s.heap 0 0 (vx_MQ below Qc (am_XC D cA ad ext len PX E0 A) args s 1 6 A) ws pc ls [] := by
  intro H locs L hP hD hS hl2
  obtain ⟨hxe, hb, hml, hown, hts, hlk, hN, hK, hI⟩ := id K
  obtain ⟨e1, e2, e3, e4, e5⟩ := he
  obtain ⟨x1, x2, x3, x4⟩ := hT
  obtain ⟨sa, x1⟩ := x1 _ hx
  refine am_throwS (cc := cc) (own := "SendHall") (cls := E0) (text := tx) (Y0 := "java/lang/RuntimeException") (r0 := ["java/lang/Exception"]) (A := A) hxe hb hl hown e2 e1 ?_ (hts _ e3) (hts _ e4) x1 ?_ ?_ x2 x3 hS (hl2.1.trans hml.symm) d0 d3 d4 d6 d9 (fun x hx => absurd (htab x hx) (fun h => h)) ?_ ?_ (Nat.le_refl _) (Nat.le_refl _) hlk ?_ hS.2.2 (Nat.le_refl _) (Nat.le_refl _)
  · intro n hn
    rcases List.mem_cons.mp hn with rfl | hn
    · decide +kernel
    · rcases List.mem_cons.mp hn with rfl | hn
      · decide +kernel
      · cases hn
  · intro w hw
    rcases e5 w hw with h | h
    · exact hts _ h
    · exact x4 w h _
  · intro w hw
    rcases List.mem_cons.mp hw with rfl | hw
    · exact (Bool.or_eq_true _ _).mpr (Or.inr (List.mem_filter.mp e3).2)
    · rcases List.mem_cons.mp hw with rfl | hw
      · exact (Bool.or_eq_true _ _).mpr (Or.inr (List.mem_filter.mp e4).2)
      · rcases e5 w hw with h | h
        · exact (Bool.or_eq_true _ _).mpr (Or.inr (List.mem_filter.mp h).2)
        · exact am_nw_ot w h
  · show (["java/lang/Exception"].length + 1) + 3 < d
    simp only [List.length_cons, List.length_nil]
    omega
  · show (([] : List Value).map fun v => v.category).sum + (13 * ((["java/lang/Exception"].length + 1) + 1) + 43) ≤ 60 * d
    simp only [List.length_cons, List.length_nil, List.map_nil, List.sum_nil]
    omega
  · intro t hv h1 h2
    refine ⟨rfl, ⟨ws, hPX, hwl, fun k q hq => (hP k q hq).kept (h2 q.1 (hP k q hq).lt)⟩, Nat.le_trans hS.1 h1, fun q h3 h4 => ?_⟩
    rw [h2 q (Nat.lt_of_lt_of_le h3 hS.1)]
    exact hS.2.1 q h3 h4
section AMXM
/-- a contract out of the rules -/
theorem am_metX {l : Launch} {y : MethodName} {cc : ByteArray} {maxL d : Nat} {ret : Option FieldType} {as : List Value} {ws : am_W} {Post : Option Value → am_W → Prop} {PX : am_W → Prop} {E0 : String} {ik ic i0 : Nat} {b0 : ByteArray} {cd : am_cdT} {rf : am_rfT} {ini : Bool} (hst : l.stackTraces = false) (he : am_ex E0 ik ic i0 b0) (hd6 : 6 ≤ d) (hy : plainName y.cls = true) (hown : y.cls = "SendHall") (hini : ini = true → y.name = "<init>") (hcd : am_cdok cc maxL cd) (hrf : am_rfok "SendHall" rf) (hlen : (lg_sl as).length ≤ maxL)
    (h : ∀ V : am_VT, am_BX l "SendHall" ini d cd rf ret Post PX ik ic ws.length V → V ws 0 (lv_args 0 as) []) : am_CnX l y cc maxL ret d as ws Post PX E0 := by
  intro D cA ad ext sz
  refine vx_ofW (cc := cc) (maxL := maxL) (ret := ret) hy rfl ?_
  intro p e s m args below meth c s₁ B hml htab hv
  obtain ⟨rfl, ⟨hsz, hP, hK, hD0, hN, hX⟩, hT⟩ := hv
  have hx := B.exec
  have hb := B.bytes
  have hr := B.returns
  have hts0 := atoms_spec (ws := Cond.code y cc maxL ret :: gW) B.pre
  have hts : ∀ w ∈ gW, w.before (as.map (am_v ad ext)).toArray s = true := fun w hw => hts0 w (List.mem_cons_of_mem _ hw)
  have hown2 : s.vm.findClass "SendHall" = some m.cls := hown ▸ findClass_of_methodNamed B.named
  have hlocks := B.notSynchronized
  have hin : meth.name = y.name := (name_of_methodNamed B.named B.method).1
  subst hsz
  have hD := hD0.self (sz := s.heap.size)
  have K : am_K p s m (as.map (am_v ad ext)).toArray meth c cc maxL "SendHall" D cA ini := ⟨hx, hb, hml, hown2, hts, hlocks, hN, hK, fun z => hin.trans (hini z)⟩
  have hA : ∀ q : Nat, s.heap.size ≤ q → va_A (am_w cA ad ext ws) s.heap.size q := fun q h => Or.inr h
  have hl := lv_entry (as.map (am_v ad ext)) (n := maxL) (by rw [am_lgsl]; exact hlen)
  rw [lg_entry_eq]
  rw [am_args] at hl
  refine h (fun w pc ls st => am_V p l e (am_rm d 1 6) s m (as.map (am_v ad ext)).toArray below meth c maxL D cA ad ext (va_A (am_w cA ad ext ws) s.heap.size) s.heap 0 0 (vx_MQ below (am_Q D cA ad ext ws.length Post (va_A (am_w cA ad ext ws) s.heap.size)) (am_XC D cA ad ext ws.length PX E0 (va_A (am_w cA ad ext ws) s.heap.size)) (as.map (am_v ad ext)).toArray s 1 6 (va_A (am_w cA ad ext ws) s.heap.size)) w pc ls st) ?_ s.heap [] _ hP hD va_S.rf hl
  refine ⟨⟨?_, ?_, ?_, ?_, ?_, ?_, ?_, ?_, ?_, ?_, ?_, ?_, ?_, ?_, ?_, ?_, ?_, ?_, ?_, ?_, ?_, ?_⟩, ?_⟩
  · intro ins ln tg ds ws pc ls st ws' pc' ls' st' ps ds' hc hxx hp kk
    obtain ⟨h1, h2⟩ := hcd _ _ _ _ hc
    exact am_x_ok K hrf h1 h2 hxx hp kk
  · intro idx y bytes maxL ret' n ws pc ls rest as js wc Post' d' ln tg hc hk hmL hd hC hn hjs hnd hW kk
    obtain ⟨h1, h2⟩ := hcd _ _ _ _ hc
    exact am_callS K hX hA h1 hk hmL hd rfl rfl ⟨Nat.zero_le _, Nat.zero_le _⟩ hC hn hjs hnd hW kk
  · intro idx y bytes maxL ret' n ws pc ls rest k0 ci fs T N as js wc Post' d' ln tg hc hk hmL hd hC hn hjs hnd hW hr0 hcl kk
    obtain ⟨h1, h2⟩ := hcd _ _ _ _ hc
    exact am_callV K hX hA h1 hk hmL hd rfl rfl ⟨Nat.zero_le _, Nat.zero_le _⟩ hC hn hjs hnd hW hr0 hcl kk
  · intro w pc ls v ln tg hrt hc hwl hpo H locs L hP hD hS hl
    obtain ⟨h1, h2⟩ := hcd _ _ _ _ hc
    exact vx_ret (W.widen (k := 1) (n := 6) (Nat.zero_le _) (Nat.zero_le _) (W.iret hx hb (hr.trans hrt) (fun t ht _ => ⟨⟨_, w, hpo, hwl, rfl, by rw [ht]; exact hP⟩, hS.F ht⟩) hS.2.2 h1 hlocks))
  · intro w pc ls ln tg hrt hc hwl hpo H locs L hP hD hS hl
    obtain ⟨h1, h2⟩ := hcd _ _ _ _ hc
    exact vx_ret (W.widen (k := 1) (n := 6) (Nat.zero_le _) (Nat.zero_le _) (W.vret hx hb (hr.trans hrt) (fun t ht _ => ⟨⟨_, w, hpo, hwl, rfl, by rw [ht]; exact hP⟩, hS.F ht⟩) hS.2.2 h1 hlocks))
  · intro w pc ls v ln tg hrt hc hwl hv hpo H locs L hP hD hS hl
    obtain ⟨h1, h2⟩ := hcd _ _ _ _ hc
    exact vx_ret (W.widen (k := 1) (n := 6) (Nat.zero_le _) (Nat.zero_le _) (W.zret hx hb (hr.trans hrt) (by rcases hv with rfl | rfl <;> decide) (fun t ht _ => ⟨⟨_, w, hpo, hwl, rfl, by rw [ht]; exact hP⟩, hS.F ht⟩) hS.2.2 h1 hlocks))
  · intro w pc ls a ln tg hrt hc hwl hpo H locs L hP hD hS hl
    obtain ⟨h1, h2⟩ := hcd _ _ _ _ hc
    obtain ⟨nm, hrt⟩ := hrt
    exact vx_ret (W.widen (k := 1) (n := 6) (Nat.zero_le _) (Nat.zero_le _) (W.aret hx hb (hr.trans hrt) (Or.inl ⟨nm, rfl⟩) (Or.inr ⟨ad a, rfl⟩) (fun t ht _ => ⟨⟨some (.ref a), w, hpo, hwl, rfl, by rw [ht]; exact hP⟩, hS.F ht⟩) hS.2.2 h1 hlocks))
  · intro w pc ls st idx v ln tg hc hw kk H locs L hP hD hS hl
    obtain ⟨h1, h2⟩ := hcd _ _ _ _ hc
    exact lv_ldc hx hb hown2 (hts _ hw) h1 (kk H locs L hP hD hS hl)
  · intro w pc ls st idx v ln tg hc hw kk H locs L hP hD hS hl
    obtain ⟨h1, h2⟩ := hcd _ _ _ _ hc
    exact lv_ldc2 hx hb hown2 (hts _ hw) h1 (kk H locs L hP hD hS hl)
  · intro w pc ls st idx k tx ln tg hc hk hkn kk H locs L hP hD hS hl
    obtain ⟨h1, h2⟩ := hcd _ _ _ _ hc
    obtain ⟨hR, -⟩ := hX.1 k hkn
    rw [hk] at hR
    exact va_ldcS hx hb hown2 hR h1 (kk H locs L hP hD hS hl)
  · intro w pc ls st idx k tx ln tg hc hk hkn kk H locs L hP hD hS hl
    obtain ⟨h1, h2⟩ := hcd _ _ _ _ hc
    obtain ⟨hR, -⟩ := hX.1 k hkn
    rw [hk] at hR
    exact am_ldcSW hx hb hown2 hR h1 (kk H locs L hP hD hS hl)
  · intro w pc ls ls' st ks hk kk H locs L hP hD hS hl
    exact kk H locs L hP hD hS (lv_sub hl ks (am_pick_ok hk))
  · intro idx w pc ls rest q0 q1 n0 n1 f g sp dp n ln tg hc hlk hd0 h0 h1 g1 g2 g3 g4 g5 hW kk H locs L hP hD hS hl
    obtain ⟨hdg, h2⟩ := hcd _ _ _ _ hc
    have hcat : ((rest.map (am_v ad ext)).map fun v => v.category).sum ≤ 8 := by
      rw [List.map_map, show ((fun v => v.category) ∘ am_v ad ext) = (fun v => v.category) from funext (fun v => am_v_cat v)]
      exact hW
    exact va_copyi hx hb (hml.trans hl.1.symm) hown2 (hts _ hlk) (hts _ am_cpS.1) (hts _ am_cpS.2.1) (hts _ am_cpS.2.2) hK hP hD hS q0 q1 0 0 (am_w_get h0) (am_w_get h1) rfl rfl rfl g1 g2 g3 g4 g5 (fun _ _ => rfl) hd0 (by
      have e1 : nativeFrameWords "java/lang/System" "arraycopy" 5 ≤ 41 := by decide +kernel
      show _ ≤ 60 * d
      omega) hdg (fun H1 locs1 hP1 hD1 hS1 => kk H1 locs1 L (am_w_set (ws := w) ▸ hP1) (am_w_set (ws := w) ▸ hD1) hS1 hl)
  · intro idx y bytes maxL ret' n w pc ls rest k as Post' d' ln tg hc hk hmL hd hC hn has hy hkn hW kk
    obtain ⟨h1, h2⟩ := hcd _ _ _ _ hc
    exact am_callX K hX hA h1 hk hmL hd rfl rfl ⟨Nat.zero_le _, Nat.zero_le _⟩ hC hn has hy hkn hW kk
  · intro idx y bytes maxL ret' n w pc ls rest ci fs T N as Post' d' ln tg hc hk hmL hd hC hn hW hr0 hcl kk
    obtain ⟨h1, h2⟩ := hcd _ _ _ _ hc
    exact am_callO K hX hA h1 hk hmL hd rfl rfl ⟨Nat.zero_le _, Nat.zero_le _⟩ hC hn hW hr0 hcl kk
  · intro idx w pc ls st k ln tg hc hw hk kk H locs L hP hD hS hl
    obtain ⟨h1, h2⟩ := hcd _ _ _ _ hc
    exact vk_getf hx hb (hX.1 k hk).2.2.2.1 hS hown2 (hts _ hw) (fun _ z => z) h1 (kk H locs L hP hD hS hl)
  · intro idx w pc ls st k ln tg hc hw hk kk H locs L hP hD hS hl
    obtain ⟨h1, h2⟩ := hcd _ _ _ _ hc
    exact vk_getf hx hb (hX.1 k hk).2.2.1 hS hown2 (hts _ hw) (fun _ z => z) h1 (kk H locs L hP hD hS hl)
  · intro w pc ls st k ln tg hc hk kk H locs L hP hD hS hl
    obtain ⟨h1, h2⟩ := hcd _ _ _ _ hc
    exact va_tlen hx hb (hX.1 k hk).2.2.2.2 hS rfl h1 (kk H locs L hP hD hS hl)
  · intro w pc ls st k i ln tg hc hk hin kk H locs L hP hD hS hl
    obtain ⟨h1, h2⟩ := hcd _ _ _ _ hc
    exact va_tb hx hb (hX.1 k hk).2.2.2.2 hS hin rfl h1 (kk H locs L hP hD hS hl)
  · intro idx w pc ls st ln tg hc hw kk H locs L hP hD hS hl
    obtain ⟨h1, h2⟩ := hcd _ _ _ _ hc
    exact va_gets hx hb hX.2.1 hS hown2 (hts _ hw) (fun _ z => z) h1 (kk H locs L hP hD hS hl)
  · intro idx w pc ls st ln tg hc hw k1 k2 H locs L hP hD hS hl
    obtain ⟨h1, h2⟩ := hcd _ _ _ _ hc
    obtain ⟨v0, g2, g3⟩ := hX.2.2
    rcases g2 with rfl | rfl
    · exact va_gets hx hb g3 hS hown2 (hts _ hw) (fun _ z => z) h1 (k1 H locs L hP hD hS hl)
    · exact va_gets hx hb g3 hS hown2 (hts _ hw) (fun _ z => z) h1 (k2 H locs L hP hD hS hl)
  · intro w pc ls v ty ln tg hrt hnn hc hwl hpo H locs L hP hD hS hl
    obtain ⟨h1, h2⟩ := hcd _ _ _ _ hc
    exact vx_ret (W.widen (k := 1) (n := 6) (Nat.zero_le _) (Nat.zero_le _) (W.zret hx hb (hr.trans hrt) hnn (fun t ht _ => ⟨⟨_, w, hpo, hwl, rfl, by rw [ht]; exact hP⟩, hS.F ht⟩) hS.2.2 h1 hlocks))
  · intro is tx w pc ls t0 t3 t4 t6 t9 c0 c3 c4 c6 c9 hxs hwl hPX
    exact am_throw hst K hT he hd6 htab (hcd _ _ _ _ c0).1 (hcd _ _ _ _ c3).1 (hcd _ _ _ _ c4).1 (hcd _ _ _ _ c6).1 (hcd _ _ _ _ c9).1 hxs hwl hPX
end AMXM
theorem am_metXn {l : Launch} {y : MethodName} {cc : ByteArray} {maxL d n0 : Nat} {ret : Option FieldType} {as : List Value} {ws : am_W} {Post : Option Value → am_W → Prop} {PX : am_W → Prop} {E0 : String} {ik ic i0 : Nat} {b0 : ByteArray} {cd : am_cdT} {rf : am_rfT} (hst : l.stackTraces = false) (he : am_ex E0 ik ic i0 b0) (hd6 : Nat.ble 6 d = true) (hn0 : ws.length = n0) (hy : plainName y.cls = true) (hown : y.cls = "SendHall") (hcd : am_cdok cc maxL cd) (hrf : am_rfok "SendHall" rf) (hlen : (lg_sl as).length ≤ maxL)
    (h : ∀ V : am_VT, am_B l "SendHall" false d cd rf ret Post n0 V → am_TX cd ik ic n0 PX V → V ws 0 (lv_args 0 as) []) : am_CnX l y cc maxL ret d as ws Post PX E0 := by
  subst hn0
  exact am_metX hst he (Nat.le_of_ble_eq_true hd6) hy hown (fun z => by cases z) hcd hrf hlen (fun V hV => h V hV.1 hV.2)
theorem am_updN_id {χ : Nat → Nat} {c v : Nat} (h : χ c = v) : updN χ c v = χ := by
  funext k
  by_cases hk : k = c
  · subst hk
    have e : Nat.beq k k = true := by simp
    show (match Nat.beq k k with | true => v | false => χ k) = χ k
    rw [e]
    exact h.symm
  · have e : Nat.beq k c = false := by cases h9 : Nat.beq k c with
      | false => rfl
      | true => exact absurd (Nat.eq_of_beq_eq_true h9) hk
    show (match Nat.beq k c with | true => v | false => χ k) = χ k
    rw [e]
/-- behind text(): which block is the parser's script, which the current one -/
def am_fp : Option Int32 → Nat
  | some v => if v = 0 then 18 else 7
  | none => 7
def am_fc : Option Int32 → Nat
  | some v => if v = 0 then 7 else 18
  | none => 18
def am_tW (k : Nat) (a b c e f g : Int32) : am_W := [.inr (1, [.ref 1, .ref k, .int a, .int b, .ref 3, .ref 4, .int c, .ref 5, .int e, .int f, .int g])]
theorem c_X1_trade (l : Launch) (a b c e f g : Int32) : am_Con l yX1_trade cX1_trade 3 (some (.object "SendHall$Script")) 1 [.ref 0, .ref 6] (am_tW 2 a b c e f g) (fun (r : Option Value) (w : am_W) => r = some (.ref 2) ∧ w = am_tW 6 a b c e f g) := by
  refine am_metn (n0 := 1) (own := RX1) (cd := am_cdT' tX1_trade) (rf := am_rfL rfX1) (ini := false) rfl (by decide +kernel) rfl (by decide) dX1_trade rfX1_ok (Nat.le_of_ble_eq_true rfl) ?_
  intro V hV
  show V (am_tW 2 a b c e f g) 0 [(0, .ref 0), (1, .ref 6)] []
  refine hV.run 7 [] (ws' := am_tW 6 a b c e f g) (pc' := 11) (ls' := [(2, .ref 2), (0, .ref 0), (1, .ref 6)]) (st' := [.ref 2]) (ps := []) rfl trivial ?_
  exact hV.2.2.2.2.2.2.1 _ _ _ _ _ _ ⟨_, rfl⟩ rfl rfl ⟨rfl, rfl⟩
theorem am_B.cTr {l : Launch} {own : String} {ini : Bool} {d n0 : Nat} {cd : am_cdT} {rf : am_rfT} {ret : Option FieldType} {Post : Option Value → am_W → Prop} {V : am_VT} (h : am_B l own ini d cd rf ret Post n0 V) {rest st : List Value} {ws2 ws : am_W} {pc2 pc idx ln n d' : Nat} {tg : List Nat} {ret' : Option FieldType} {ls : am_L} {a b c e f g : Int32} (hk : am_lk own idx 1 yX1_trade cX1_trade 3 ret' n) (hC : am_Con l yX1_trade cX1_trade 3 ret' d' [.ref 0, .ref 6] (am_tW 2 a b c e f g) (fun (r : Option Value) (w : am_W) => r = some (.ref 2) ∧ w = am_tW 6 a b c e f g)) (hc : cd pc = some (.invokevirtual idx, ln, tg)) (hd : Nat.ble (d' + 1) d = true) (hn : 1 = n) (hjs : [1].map (fun j => ws[j]?) = (am_tW 2 a b c e f g).map (fun x => some (am_re [1, 2, 7, 15, 16, 17, 18] x))) (hW : Nat.ble (rest.map fun v => v.category).sum 8 = true) (e0 : .ref 18 :: .ref 1 :: rest = st) (e1 : am_putb ws [1, 2, 7, 15, 16, 17, 18] (am_tW 6 a b c e f g) = ws2) (e2 : pc + 3 = pc2) (kk : V ws2 pc2 ls (.ref 7 :: rest)) : V ws pc ls st := by
  subst e0 e1 e2
  exact h.2.2.1 idx yX1_trade cX1_trade 3 ret' n ws pc ls rest 0 1 [.ref 1, .ref 2, .int a, .int b, .ref 3, .ref 4, .int c, .ref 5, .int e, .int f, .int g] TX1 11 [.ref 6] [1, 2, 7, 15, 16, 17, 18] (am_tW 2 a b c e f g) _ d' ln tg hc hk (by decide) (Nat.le_of_ble_eq_true hd) hC hn hjs rfl (Nat.le_of_ble_eq_true hW) rfl rfl (fun r w hp _ => by obtain ⟨rfl, rfl⟩ := hp; exact kk)
