/-- one instruction; ds: which way at a branch (1 taken), which row of a switch (0 the default) -/
def am_x (ini : Bool) (rf : Nat → Option (Nat × Nat × Nat × Bool)) (ins : Instr) (tg : List Nat) (ds : List Nat) (ws : am_W) (pc : Nat) (ls : am_L) (st : List Value) : Option am_R6 := match ins with
  | .iconst n => some (ws, pc + 1, ls, .int (Int32.ofInt n) :: st, [], ds)
  | .bipush n => some (ws, pc + 2, ls, .int (Int8.ofInt n).toInt32 :: st, [], ds)
  | .sipush n => some (ws, pc + 3, ls, .int (Int16.ofInt n).toInt32 :: st, [], ds)
  | .lconst n => some (ws, pc + 1, ls, .long (Int64.ofNat n.val) :: st, [], ds)
  | .aconst_null => some (ws, pc + 1, ls, .null :: st, [], ds)
  | .iload_n k => match am_get ls k.val with
    | some (.int x) => some (ws, pc + 1, ls, .int x :: st, [], ds)
    | _ => none
  | .iload i => match am_get ls i with
    | some (.int x) => some (ws, pc + 2, ls, .int x :: st, [], ds)
    | _ => none
  | .lload_n k => match am_get ls k.val with
    | some (.long x) => some (ws, pc + 1, ls, .long x :: st, [], ds)
    | _ => none
  | .lload i => match am_get ls i with
    | some (.long x) => some (ws, pc + 2, ls, .long x :: st, [], ds)
    | _ => none
  | .aload_n k => match am_get ls k.val with
    | some (.ref x) => some (ws, pc + 1, ls, .ref x :: st, [], ds)
    | some (.retAddr x) => some (ws, pc + 1, ls, .retAddr x :: st, [], ds)
    | _ => none
  | .aload i => match am_get ls i with
    | some (.ref x) => some (ws, pc + 2, ls, .ref x :: st, [], ds)
    | some (.retAddr x) => some (ws, pc + 2, ls, .retAddr x :: st, [], ds)
    | _ => none
  | .istore_n k => match st with
    | .int x :: r => some (ws, pc + 1, am_put1 ls k.val (.int x), r, [], ds)
    | _ => none
  | .istore i => match st with
    | .int x :: r => some (ws, pc + 2, am_put1 ls i (.int x), r, [], ds)
    | _ => none
  | .lstore_n k => match st with
    | .long x :: r => some (ws, pc + 1, am_put2 ls k.val (.long x), r, [], ds)
    | _ => none
  | .lstore i => match st with
    | .long x :: r => some (ws, pc + 2, am_put2 ls i (.long x), r, [], ds)
    | _ => none
  | .astore_n k => match st with
    | .ref x :: r => some (ws, pc + 1, am_put1 ls k.val (.ref x), r, [], ds)
    | .retAddr x :: r => some (ws, pc + 1, am_put1 ls k.val (.retAddr x), r, [], ds)
    | _ => none
  | .astore i => match st with
    | .ref x :: r => some (ws, pc + 2, am_put1 ls i (.ref x), r, [], ds)
    | .retAddr x :: r => some (ws, pc + 2, am_put1 ls i (.retAddr x), r, [], ds)
    | _ => none
  | .iinc i n => match am_get ls i with
    | some (.int x) => some (ws, pc + 3, am_put1 ls i (.int (x + Int32.ofInt n)), st, [], ds)
    | _ => none
  | .iadd => match st with
    | .int y :: .int x :: r => some (ws, pc + 1, ls, .int (x + y) :: r, [], ds)
    | _ => none
  | .isub => match st with
    | .int y :: .int x :: r => some (ws, pc + 1, ls, .int (x - y) :: r, [], ds)
    | _ => none
  | .imul => match st with
    | .int y :: .int x :: r => some (ws, pc + 1, ls, .int (x * y) :: r, [], ds)
    | _ => none
  | .iand => match st with
    | .int y :: .int x :: r => some (ws, pc + 1, ls, .int (x &&& y) :: r, [], ds)
    | _ => none
  | .ior => match st with
    | .int y :: .int x :: r => some (ws, pc + 1, ls, .int (x ||| y) :: r, [], ds)
    | _ => none
  | .ixor => match st with
    | .int y :: .int x :: r => some (ws, pc + 1, ls, .int (x ^^^ y) :: r, [], ds)
    | _ => none
  | .land => match st with
    | .long y :: .long x :: r => some (ws, pc + 1, ls, .long (x &&& y) :: r, [], ds)
    | _ => none
  | .lor => match st with
    | .long y :: .long x :: r => some (ws, pc + 1, ls, .long (x ||| y) :: r, [], ds)
    | _ => none
  | .idiv => match st with
    | .int y :: .int x :: r => some (ws, pc + 1, ls, .int (x / y) :: r, [¬ y = 0], ds)
    | _ => none
  | .irem => match st with
    | .int y :: .int x :: r => some (ws, pc + 1, ls, .int (x - x / y * y) :: r, [¬ y = 0], ds)
    | _ => none
  | .ishl => match st with
    | .int y :: .int x :: r => some (ws, pc + 1, ls, .int (x <<< (y &&& 31)) :: r, [], ds)
    | _ => none
  | .ishr => match st with
    | .int y :: .int x :: r => some (ws, pc + 1, ls, .int (x >>> (y &&& 31)) :: r, [], ds)
    | _ => none
  | .iushr => match st with
    | .int y :: .int x :: r => some (ws, pc + 1, ls, .int (x.toUInt32 >>> (y.toUInt32 &&& Int32.toUInt32 31)).toInt32 :: r, [], ds)
    | _ => none
  | .lshl => match st with
    | .int y :: .long x :: r => some (ws, pc + 1, ls, .long (x <<< (y.toInt64 &&& 63)) :: r, [], ds)
    | _ => none
  | .lshr => match st with
    | .int y :: .long x :: r => some (ws, pc + 1, ls, .long (x >>> (y.toInt64 &&& 63)) :: r, [], ds)
    | _ => none
  | .lushr => match st with
    | .int y :: .long x :: r => some (ws, pc + 1, ls, .long (x.toUInt64 >>> (y.toInt64.toUInt64 &&& Int64.toUInt64 63)).toInt64 :: r, [], ds)
    | _ => none
  | .lcmp => match st with
    | .long y :: .long x :: r => some (ws, pc + 1, ls, .int (lg_cmp x y) :: r, [], ds)
    | _ => none
  | .i2l => match st with
    | .int x :: r => some (ws, pc + 1, ls, .long x.toInt64 :: r, [], ds)
    | _ => none
  | .i2c => match st with
    | .int x :: r => some (ws, pc + 1, ls, .int (x.toUInt32 % 65536).toInt32 :: r, [], ds)
    | _ => none
  | .ineg => match st with
    | .int x :: r => some (ws, pc + 1, ls, .int (-x) :: r, [], ds)
    | _ => none
  | .l2i => match st with
    | .long x :: r => some (ws, pc + 1, ls, .int x.toInt32 :: r, [], ds)
    | _ => none
  | .dup => match st with
    | v :: r => if v.category = 1 then some (ws, pc + 1, ls, v :: v :: r, [], ds) else none
    | _ => none
  | .pop => match st with
    | v :: r => if v.category = 1 then some (ws, pc + 1, ls, r, [], ds) else none
    | _ => none
  | .dup2 => match st with
    | v :: w :: r => if v.category = 1 ∧ w.category = 1 then some (ws, pc + 1, ls, v :: w :: v :: w :: r, [], ds) else none
    | _ => none
  | .goto off => match tg with
    | [t] => some (ws, t, ls, st, [], ds)
    | _ => none
  | .ifCond cd off => match tg, ds, st with
    | [t], 1 :: ds, .int x :: r => some (ws, t, ls, r, [am_c1 1 cd x], ds)
    | [_], 0 :: ds, .int x :: r => some (ws, pc + 3, ls, r, [am_c1 0 cd x], ds)
    | _, _, _ => none
  | .if_icmp cd off => match tg, ds, st with
    | [t], 1 :: ds, .int y :: .int x :: r => some (ws, t, ls, r, [am_c2 1 cd x y], ds)
    | [_], 0 :: ds, .int y :: .int x :: r => some (ws, pc + 3, ls, r, [am_c2 0 cd x y], ds)
    | _, _, _ => none
  | .tableswitch dflt lo hi offs => match ds, st with
    | 0 :: ds, .int x :: r => some (ws, tg.getD 0 0, ls, r, [x.toInt < lo ∨ hi < x.toInt], ds)
    | (k + 1) :: ds, .int x :: r => some (ws, tg.getD (k + 1) 0, ls, r, [x.toInt = lo + (k : Int), k < offs.size, ¬ hi < x.toInt], ds)
    | _, _ => none
  | .lookupswitch dflt ps => match ds, st with
    | k :: ds, .int x :: r => some (ws, tg.getD k 0, ls, r, [(pc : Int) + Op.lookupswitch.offset ps.toList dflt x.toInt = ((tg.getD k 0 : Nat) : Int)], ds)
    | _, _ => none
  | .getfield idx => match rf idx, st with
    | some (ci, k, _, _), .ref a :: r => match ws[a]? with
      | some (.inr (cj, fs)) => if cj = ci then (match fs[k]? with
          | some v => some (ws, pc + 3, ls, v :: r, [], ds)
          | none => none) else none
      | _ => none
    | _, _ => none
  | .putfield idx => match rf idx, st with
    | some (ci, k, t, fin), v :: .ref a :: r => match ws[a]? with
      | some (.inr (cj, fs)) => if cj = ci ∧ (fin = true → ini = true) ∧ k < fs.length then (match am_fit t v with
          | some ps => some (ws.set a (.inr (ci, fs.set k v)), pc + 3, ls, r, ps, ds)
          | none => none) else none
      | _ => none
    | _, _ => none
  | .iaload => match st with
    | .int i :: .ref a :: r => match ws[a]? with
      | some (.inl (0, n, .inl f)) => some (ws, pc + 1, ls, .int (f i.toNatClampNeg) :: r, [vp_in i n], ds)
      | _ => none
    | _ => none
  | .baload => match st with
    | .int i :: .ref a :: r => match ws[a]? with
      | some (.inl (1, n, .inl f)) => some (ws, pc + 1, ls, .int (f i.toNatClampNeg) :: r, [vp_in i n], ds)
      | _ => none
    | _ => none
  | .laload => match st with
    | .int i :: .ref a :: r => match ws[a]? with
      | some (.inl (2, n, .inr (.inl f))) => some (ws, pc + 1, ls, .long (f i.toNatClampNeg) :: r, [vp_in i n], ds)
      | _ => none
    | _ => none
  | .aaload => match st with
    | .int i :: .ref a :: r => match ws[a]? with
      | some (.inl (3, n, .inr (.inr (.inr (.inr f))))) => some (ws, pc + 1, ls, am_q (f i.toNatClampNeg) :: r, [vp_in i n], ds)
      | _ => none
    | _ => none
  | .iastore => match st with
    | .int x :: .int i :: .ref a :: r => match ws[a]? with
      | some (.inl (0, n, .inl f)) => some (ws.set a (.inl (0, n, .inl (upd f i.toNatClampNeg x))), pc + 1, ls, r, [vp_in i n], ds)
      | _ => none
    | _ => none
  | .bastore => match st with
    | .int x :: .int i :: .ref a :: r => match ws[a]? with
      | some (.inl (1, n, .inl f)) => some (ws.set a (.inl (1, n, .inl (upd f i.toNatClampNeg x))), pc + 1, ls, r, [vp_in i n, x = 0 ∨ x = 1], ds)
      | _ => none
    | _ => none
  | .lastore => match st with
    | .long x :: .int i :: .ref a :: r => match ws[a]? with
      | some (.inl (2, n, .inr (.inl f))) => some (ws.set a (.inl (2, n, .inr (.inl (vp_updL f i.toNatClampNeg x)))), pc + 1, ls, r, [vp_in i n], ds)
      | _ => none
    | _ => none
  | .arraylength => match st with
    | .ref a :: r => match ws[a]? with
      | some (.inl (k, n, g)) => if k < 4 then some (ws, pc + 1, ls, .int (Int32.ofNat n) :: r, [], ds) else none
      | _ => none
    | _ => none
  | _ => none
section AMX
variable {p : Program} {l : Launch} {e : Env} {R : Room} {s : State} {m : MethodId} {args : Array Value} {below : List Frame} {meth : Method} {c : Code} {cc : ByteArray} {nL : Nat} {own : String} {D : va_G} {cA : Nat → ClassId} {ad ext : Nat → Nat} {A : Nat → Prop} {H0 : Heap} {cells slots : Nat} {Q : State → Prop} {ini : Bool} {rf : Nat → Option (Nat × Nat × Nat × Bool)}
/-- what stands fast in a frame -/
def am_K (p : Program) (s : State) (m : MethodId) (args : Array Value) (meth : Method) (c : Code) (cc : ByteArray) (nL : Nat) (own : String) (D : va_G) (cA : Nat → ClassId) (ini : Bool) : Prop :=
  p.tables.exec = Jvm.exec ∧ c.code = cc ∧ c.maxLocals = nL ∧ s.vm.findClass own = some m.cls ∧ (∀ w ∈ gW, w.before args s = true) ∧ meth.locks = false ∧ (∀ w ∈ gN, va_Nw w s) ∧ va_K D vwCl (am_tys cA) s ∧ (ini = true → meth.name = "<init>")
/-- the abstract state is one from which the machine comes to Q -/
def am_V (p : Program) (l : Launch) (e : Env) (R : Room) (s : State) (m : MethodId) (args : Array Value) (below : List Frame) (meth : Method) (c : Code) (nL : Nat) (D : va_G) (cA : Nat → ClassId) (ad ext : Nat → Nat) (A : Nat → Prop) (H0 : Heap) (cells slots : Nat) (Q : State → Prop) (ws : am_W) (pc : Nat) (ls : am_L) (st : List Value) : Prop :=
  ∀ (H : Heap) (locs : List Loc) (L : Array Slot), va_P D vwCl (am_w cA ad ext ws) H → va_D A (am_w cA ad ext ws) → va_S A H0 H locs → lv_has L nL (am_vl ad ext ls) → W p l e R s m args below meth c H locs cells slots Q (F0 m pc L (st.map (am_v ad ext)))
theorem am_p {ws : am_W} {pc pc' : Nat} {ls : am_L} {st st' : List Value} (h : ∀ (H : Heap) (locs : List Loc) (L : Array Slot), va_P D vwCl (am_w cA ad ext ws) H → va_D A (am_w cA ad ext ws) → va_S A H0 H locs → lv_has L nL (am_vl ad ext ls) → W p l e R s m args below meth c H locs cells slots Q (F0 m pc' L (st'.map (am_v ad ext))) → W p l e R s m args below meth c H locs cells slots Q (F0 m pc L (st.map (am_v ad ext))))
    (kk : am_V p l e R s m args below meth c nL D cA ad ext A H0 cells slots Q ws pc' ls st') : am_V p l e R s m args below meth c nL D cA ad ext A H0 cells slots Q ws pc ls st := fun H locs L hP hD hS hl => h H locs L hP hD hS hl (kk H locs L hP hD hS hl)
theorem am_pl {ws : am_W} {pc pc' : Nat} {ls ls' : am_L} {st st' : List Value} (h : ∀ (H : Heap) (locs : List Loc) (L : Array Slot), va_P D vwCl (am_w cA ad ext ws) H → va_D A (am_w cA ad ext ws) → va_S A H0 H locs → lv_has L nL (am_vl ad ext ls) → (∀ L' : Array Slot, lv_has L' nL (am_vl ad ext ls') → W p l e R s m args below meth c H locs cells slots Q (F0 m pc' L' (st'.map (am_v ad ext)))) → W p l e R s m args below meth c H locs cells slots Q (F0 m pc L (st.map (am_v ad ext))))
    (kk : am_V p l e R s m args below meth c nL D cA ad ext A H0 cells slots Q ws pc' ls' st') : am_V p l e R s m args below meth c nL D cA ad ext A H0 cells slots Q ws pc ls st := fun H locs L hP hD hS hl => h H locs L hP hD hS hl (fun L' hl' => kk H locs L' hP hD hS hl')
theorem am_getf (K : am_K p s m args meth c cc nL own D cA ini) {H : Heap} {locs : List Loc} {ws : va_W} (hP : va_P D vwCl ws H) {a' a ci k t idx pc : Nat} {fin : Bool} {fs : List Value} {v : Value} {L : Array Slot} {rest : List Value} (hw : ws[a']? = some (a, .inr (ci, fs))) (hq : am_fl own idx ci k t fin) (hv : fs[k]? = some v) (hdg : decode cc pc = .ok (.getfield idx, 3))
    (kk : W p l e R s m args below meth c H locs cells slots Q (F0 m (pc + 3) L (v :: rest))) : W p l e R s m args below meth c H locs cells slots Q (F0 m pc L (.ref a :: rest)) := by
  obtain ⟨hx, hb, hml, hown, hts, -, hN, hK, -⟩ := K
  obtain ⟨C, T, N, ty, h1, h2, h3, h4, h5, h6, h7, h8, h9, h10⟩ := hq
  rcases h10 with h | ⟨host, h⟩
  · exact va_get (ref := C) hx hb hts h3 hown hK hP a' hw h1 k h2 (hts _ h) (by rw [h8]; exact fun _ z => z) hv hdg kk
  · exact va_getN (ref := C) hx hb hts h3 hown hK hP a' hw h1 k h2 (va_Nw.use rfl (hN _ h)) (by rw [h8]; exact fun _ z => z) hv hdg kk
theorem am_putf (K : am_K p s m args meth c cc nL own D cA ini) {H : Heap} {locs : List Loc} {ws : am_W} (hP : va_P D vwCl (am_w cA ad ext ws) H) (hD : va_D A (am_w cA ad ext ws)) (hS : va_S A H0 H locs) {a ci k t idx pc : Nat} {fin : Bool} {fs : List Value} {v : Value} {ps : List Prop} {L : Array Slot} {rest : List Value} (hw : ws[a]? = some (.inr (ci, fs))) (hq : am_fl own idx ci k t fin) (hk : k < fs.length) (hfi : fin = true → ini = true) (hf : am_fit t v = some ps) (hp : am_all ps) (hdg : decode cc pc = .ok (.putfield idx, 3))
    (kk : ∀ (H1 : Heap) (locs1 : List Loc), va_P D vwCl (am_w cA ad ext (ws.set a (.inr (ci, fs.set k v)))) H1 → va_D A (am_w cA ad ext (ws.set a (.inr (ci, fs.set k v)))) → va_S A H0 H1 locs1 → W p l e R s m args below meth c H1 locs1 cells slots Q (F0 m (pc + 3) L (rest.map (am_v ad ext)))) : W p l e R s m args below meth c H locs cells slots Q (F0 m pc L ((v :: .ref a :: rest).map (am_v ad ext))) := by
  obtain ⟨hx, hb, hml, hown, hts, -, hN, hK, hI⟩ := K
  obtain ⟨C, T, N, ty, h1, h2, h3, h4, h5, h6, h7, h8, h9, h10⟩ := hq
  obtain ⟨f1, f2⟩ := am_fit_ok (ad := ad) (ext := ext) hf hp h7
  have hm : (fs.map (am_v ad ext)).set k (am_v ad ext v) = (fs.set k v).map (am_v ad ext) := by rw [List.map_set]
  have hkk : ∀ (H1 : Heap) (locs1 : List Loc), va_P D vwCl ((am_w cA ad ext ws).set a (ad a, .inr (ci, (fs.map (am_v ad ext)).set k (am_v ad ext v)))) H1 → va_D A ((am_w cA ad ext ws).set a (ad a, .inr (ci, (fs.map (am_v ad ext)).set k (am_v ad ext v)))) → va_S A H0 H1 locs1 → W p l e R s m args below meth c H1 locs1 cells slots Q (F0 m (pc + 3) L (rest.map (am_v ad ext))) := by
    intro H1 locs1 g1 g2 g3
    rw [hm, show (Sum.inr (ci, (fs.set k v).map (am_v ad ext)) : va_E) = am_e cA ad ext (.inr (ci, fs.set k v)) from rfl, am_w_set] at g1 g2
    exact kk H1 locs1 g1 g2 g3
  have hlen : k < (fs.map (am_v ad ext)).length := by rw [List.length_map]; exact hk
  cases fin with
  | false =>
    rcases h10 with h | ⟨host, h⟩
    · exact va_put (ref := C) hx hb hts h3 ty h4 h5 hown hK hP hD hS a (am_w_get hw) h1 k h2 (hts _ h) (by rw [h8]; exact fun _ z => z) h6 (h4 k h2) f1 f2 hlen hdg hkk
    · exact va_putN (ref := C) hx hb hts h3 ty h4 h5 hown hK hP hD hS a (am_w_get hw) h1 k h2 (va_Nw.use rfl (hN _ h)) (by rw [h8]; exact fun _ z => z) h6 (h4 k h2) f1 f2 hlen hdg hkk
  | true =>
    rcases h9 rfl with h | ⟨hC, h⟩
    · subst h
      simp [am_fit] at hf
    · exact va_putF (ref := C) hx hb hts h3 ty h4 h5 hown hK hP hD hS a (am_w_get hw) h1 k h2 (hts _ h) (by rw [h8]; exact fun _ z => z) h6 (hI (hfi rfl)) (h8.trans hC) (h4 k h2) f1 f2 hlen hdg hkk
theorem am_alen (K : am_K p s m args meth c cc nL own D cA ini) {H : Heap} {locs : List Loc} {ws : va_W} (hP : va_P D vwCl ws H) {a' a k n pc : Nat} {g : (Nat → Int32) ⊕ (Nat → Int64) ⊕ (Nat → UInt32) ⊕ (Nat → UInt64) ⊕ (Nat → Option Nat)} {L : Array Slot} {rest : List Value} (hw : ws[a']? = some (a, .inl (cA k, am_a ext (n, g)))) (hk : k < 4) (hdg : decode cc pc = .ok (.arraylength, 1))
    (kk : W p l e R s m args below meth c H locs cells slots Q (F0 m (pc + 1) L (.int (Int32.ofNat n) :: rest))) : W p l e R s m args below meth c H locs cells slots Q (F0 m pc L (.ref a :: rest)) := by
  obtain ⟨hx, hb, hml, hown, hts, -, hN, hK, hI⟩ := K
  obtain ⟨ty, ht⟩ : ∃ ty, (am_tys cA)[k]? = some (cA k, ty) := by
    match k, hk with
    | 0, _ => exact ⟨_, rfl⟩
    | 1, _ => exact ⟨_, rfl⟩
    | 2, _ => exact ⟨_, rfl⟩
    | 3, _ => exact ⟨_, rfl⟩
  exact va_alen hx hb hK hP a' k hw ht rfl hdg kk
theorem am_if1 (hx : p.tables.exec = Jvm.exec) (hb : c.code = cc) {H : Heap} {locs : List Loc} {cd : Jvm.ClassFile.Cond} {off : Int} {pc tgt : Nat} {x : Int32} {L : Array Slot} {rest : List Value} (hdg : decode cc pc = .ok (.ifCond cd off, 3)) (ht : (pc : Int) + off = (tgt : Int)) (hc : am_c1 1 cd x) (kk : W p l e R s m args below meth c H locs cells slots Q (F0 m tgt L rest)) : W p l e R s m args below meth c H locs cells slots Q (F0 m pc L (.int x :: rest)) := by
  cases cd with
  | eq => exact lv_if_eq hx hb hdg ht (fun _ => kk) (fun q => absurd hc q)
  | ne => exact lv_if_ne hx hb hdg ht (fun _ => kk) (fun q => absurd q hc)
  | lt => exact lv_if_lt hx hb hdg ht (fun _ => kk) (fun q => absurd hc q)
  | ge => exact lv_if_ge hx hb hdg ht (fun _ => kk) (fun q => absurd hc q)
  | gt => exact lv_if_gt hx hb hdg ht (fun _ => kk) (fun q => absurd hc q)
  | le => exact lv_if_le hx hb hdg ht (fun _ => kk) (fun q => absurd hc q)
theorem am_if0 (hx : p.tables.exec = Jvm.exec) (hb : c.code = cc) {H : Heap} {locs : List Loc} {cd : Jvm.ClassFile.Cond} {off : Int} {pc tgt : Nat} {x : Int32} {L : Array Slot} {rest : List Value} (hdg : decode cc pc = .ok (.ifCond cd off, 3)) (ht : (pc : Int) + off = (tgt : Int)) (hc : am_c1 0 cd x) (kk : W p l e R s m args below meth c H locs cells slots Q (F0 m (pc + 3) L rest)) : W p l e R s m args below meth c H locs cells slots Q (F0 m pc L (.int x :: rest)) := by
  cases cd with
  | eq => exact lv_if_eq hx hb hdg ht (fun q => absurd q hc) (fun _ => kk)
  | ne => exact lv_if_ne hx hb hdg ht (fun q => absurd hc q) (fun _ => kk)
  | lt => exact lv_if_lt hx hb hdg ht (fun q => absurd q hc) (fun _ => kk)
  | ge => exact lv_if_ge hx hb hdg ht (fun q => absurd q hc) (fun _ => kk)
  | gt => exact lv_if_gt hx hb hdg ht (fun q => absurd q hc) (fun _ => kk)
  | le => exact lv_if_le hx hb hdg ht (fun q => absurd q hc) (fun _ => kk)
theorem am_ic1 (hx : p.tables.exec = Jvm.exec) (hb : c.code = cc) {H : Heap} {locs : List Loc} {cd : Jvm.ClassFile.Cond} {off : Int} {pc tgt : Nat} {x y : Int32} {L : Array Slot} {rest : List Value} (hdg : decode cc pc = .ok (.if_icmp cd off, 3)) (ht : (pc : Int) + off = (tgt : Int)) (hc : am_c2 1 cd x y) (kk : W p l e R s m args below meth c H locs cells slots Q (F0 m tgt L rest)) : W p l e R s m args below meth c H locs cells slots Q (F0 m pc L (.int y :: .int x :: rest)) := by
  cases cd with
  | eq => exact lv_icmp_eq hx hb hdg ht (fun _ => kk) (fun q => absurd hc q)
  | ne => exact lv_icmp_ne hx hb hdg ht (fun _ => kk) (fun q => absurd q hc)
  | lt => exact lv_icmp_lt hx hb hdg ht (fun _ => kk) (fun q => absurd hc q)
  | ge => exact lv_icmp_ge hx hb hdg ht (fun _ => kk) (fun q => absurd hc q)
  | gt => exact lv_icmp_gt hx hb hdg ht (fun _ => kk) (fun q => absurd hc q)
  | le => exact lv_icmp_le hx hb hdg ht (fun _ => kk) (fun q => absurd hc q)
theorem am_ic0 (hx : p.tables.exec = Jvm.exec) (hb : c.code = cc) {H : Heap} {locs : List Loc} {cd : Jvm.ClassFile.Cond} {off : Int} {pc tgt : Nat} {x y : Int32} {L : Array Slot} {rest : List Value} (hdg : decode cc pc = .ok (.if_icmp cd off, 3)) (ht : (pc : Int) + off = (tgt : Int)) (hc : am_c2 0 cd x y) (kk : W p l e R s m args below meth c H locs cells slots Q (F0 m (pc + 3) L rest)) : W p l e R s m args below meth c H locs cells slots Q (F0 m pc L (.int y :: .int x :: rest)) := by
  cases cd with
  | eq => exact lv_icmp_eq hx hb hdg ht (fun q => absurd q hc) (fun _ => kk)
  | ne => exact lv_icmp_ne hx hb hdg ht (fun q => absurd hc q) (fun _ => kk)
  | lt => exact lv_icmp_lt hx hb hdg ht (fun q => absurd q hc) (fun _ => kk)
  | ge => exact lv_icmp_ge hx hb hdg ht (fun q => absurd q hc) (fun _ => kk)
  | gt => exact lv_icmp_gt hx hb hdg ht (fun q => absurd q hc) (fun _ => kk)
  | le => exact lv_icmp_le hx hb hdg ht (fun q => absurd q hc) (fun _ => kk)
theorem am_x_ok (K : am_K p s m args meth c cc nL own D cA ini) (hrf : am_rfok own rf) {ins : Instr} {tg ds ds' : List Nat} {ps : List Prop} {ws ws' : am_W} {pc pc' : Nat} {ls ls' : am_L} {st st' : List Value} {ln : Nat} (hdg : decode cc pc = .ok (ins, am_len ins ln)) (htg : am_tg nL ins pc tg = true) (h : am_x ini rf ins tg ds ws pc ls st = some (ws', pc', ls', st', ps, ds')) (hp : am_all ps)
    (kk : am_V p l e R s m args below meth c nL D cA ad ext A H0 cells slots Q ws' pc' ls' st') : am_V p l e R s m args below meth c nL D cA ad ext A H0 cells slots Q ws pc ls st := by
  have hx := K.1
  have hb := K.2.1
  unfold am_x at h
  split at h
  · cases h; exact am_p (fun H locs L hP hD hS hl kk => lv_iconst hx hb hdg rfl kk) kk
  · cases h; exact am_p (fun H locs L hP hD hS hl kk => lv_bipush hx hb hdg rfl kk) kk
  · cases h; exact am_p (fun H locs L hP hD hS hl kk => lv_sipush hx hb hdg rfl kk) kk
  · cases h; exact am_p (fun H locs L hP hD hS hl kk => lv_lconst hx hb hdg rfl kk) kk
  · cases h; exact am_p (fun H locs L hP hD hS hl kk => lv_null hx hb hdg kk) kk
  · split at h
    · rename_i x hg
      cases h; exact am_p (fun H locs L hP hD hS hl kk => lv_iload_n hx hb hdg rfl (am_get_ok hl hg) kk) kk
    · cases h
  · split at h
    · rename_i x hg
      cases h; exact am_p (fun H locs L hP hD hS hl kk => lv_iload hx hb hdg (am_get_ok hl hg) kk) kk
    · cases h
  · split at h
    · rename_i x hg
      cases h; exact am_p (fun H locs L hP hD hS hl kk => lv_lload_n hx hb hdg rfl (am_get_ok hl hg) kk) kk
    · cases h
  · split at h
    · rename_i x hg
      cases h; exact am_p (fun H locs L hP hD hS hl kk => lv_lload hx hb hdg (am_get_ok hl hg) kk) kk
    · cases h
  · split at h
    · rename_i x hg
      cases h; exact am_p (fun H locs L hP hD hS hl kk => lv_aload_n hx hb hdg rfl (am_get_ok hl hg) kk) kk
    · rename_i x hg
      cases h; exact am_p (fun H locs L hP hD hS hl kk => lv_aload_n hx hb hdg rfl (am_get_ok hl hg) kk) kk
    · cases h
  · split at h
    · rename_i x hg
      cases h; exact am_p (fun H locs L hP hD hS hl kk => lv_aload hx hb hdg (am_get_ok hl hg) kk) kk
    · rename_i x hg
      cases h; exact am_p (fun H locs L hP hD hS hl kk => lv_aload hx hb hdg (am_get_ok hl hg) kk) kk
    · cases h
  · split at h
    · cases h; exact am_pl (fun H locs L hP hD hS hl kk => lv_istore_n hx hb hdg rfl hl (of_decide_eq_true htg) (am_put1_ok (v := .int _)) kk) kk
    · cases h
  · split at h
    · cases h; exact am_pl (fun H locs L hP hD hS hl kk => lv_istore hx hb hdg hl (of_decide_eq_true htg) (am_put1_ok (v := .int _)) kk) kk
    · cases h
  · split at h
    · cases h; exact am_pl (fun H locs L hP hD hS hl kk => lv_lstore_n hx hb hdg rfl hl (of_decide_eq_true htg) (am_put2_ok (v := .long _)) kk) kk
    · cases h
  · split at h
    · cases h; exact am_pl (fun H locs L hP hD hS hl kk => lv_lstore hx hb hdg hl (of_decide_eq_true htg) (am_put2_ok (v := .long _)) kk) kk
    · cases h
  · split at h
    · cases h; exact am_pl (fun H locs L hP hD hS hl kk => lv_astore_n hx hb hdg rfl hl (of_decide_eq_true htg) (am_put1_ok (v := .ref _)) kk) kk
    · cases h; exact am_pl (fun H locs L hP hD hS hl kk => lv_astore_n hx hb hdg rfl hl (of_decide_eq_true htg) (am_put1_ok (v := .retAddr _)) kk) kk
    · cases h
  · split at h
    · cases h; exact am_pl (fun H locs L hP hD hS hl kk => lv_astore hx hb hdg hl (of_decide_eq_true htg) (am_put1_ok (v := .ref _)) kk) kk
    · cases h; exact am_pl (fun H locs L hP hD hS hl kk => lv_astore hx hb hdg hl (of_decide_eq_true htg) (am_put1_ok (v := .retAddr _)) kk) kk
    · cases h
  · split at h
    · rename_i x hg
      cases h; exact am_pl (fun H locs L hP hD hS hl kk => (am_get_ix hg).elim fun k hk => lv_iinc hx hb hdg hl (k := k) hk rfl (of_decide_eq_true htg) (am_put1_ok (v := .int _)) kk) kk
    · cases h
  · split at h
    · cases h; exact am_p (fun H locs L hP hD hS hl kk => lv_iadd hx hb hdg kk) kk
    · cases h
  · split at h
    · cases h; exact am_p (fun H locs L hP hD hS hl kk => lv_isub hx hb hdg kk) kk
    · cases h
  · split at h
    · cases h; exact am_p (fun H locs L hP hD hS hl kk => lv_imul hx hb hdg kk) kk
    · cases h
  · split at h
    · cases h; exact am_p (fun H locs L hP hD hS hl kk => lv_iand hx hb hdg kk) kk
    · cases h
  · split at h
    · cases h; exact am_p (fun H locs L hP hD hS hl kk => lv_ior hx hb hdg kk) kk
    · cases h
  · split at h
    · cases h; exact am_p (fun H locs L hP hD hS hl kk => lv_ixor hx hb hdg kk) kk
    · cases h
  · split at h
    · cases h; exact am_p (fun H locs L hP hD hS hl kk => lv_land hx hb hdg kk) kk
    · cases h
  · split at h
    · cases h; exact am_p (fun H locs L hP hD hS hl kk => lv_lor hx hb hdg kk) kk
    · cases h
  · split at h
    · cases h; exact am_p (fun H locs L hP hD hS hl kk => lv_idiv hx hb hdg hp.1 kk) kk
    · cases h
  · split at h
    · cases h; exact am_p (fun H locs L hP hD hS hl kk => lv_irem hx hb hdg hp.1 kk) kk
    · cases h
  · split at h
    · cases h; exact am_p (fun H locs L hP hD hS hl kk => lv_ishl hx hb hdg kk) kk
    · cases h
  · split at h
    · cases h; exact am_p (fun H locs L hP hD hS hl kk => lv_ishr hx hb hdg kk) kk
    · cases h
  · split at h
    · cases h; exact am_p (fun H locs L hP hD hS hl kk => lv_iushr hx hb hdg rfl kk) kk
    · cases h
  · split at h
    · cases h; exact am_p (fun H locs L hP hD hS hl kk => lv_lshl hx hb hdg rfl kk) kk
    · cases h
  · split at h
    · cases h; exact am_p (fun H locs L hP hD hS hl kk => lv_lshr hx hb hdg rfl kk) kk
    · cases h
  · split at h
    · cases h; exact am_p (fun H locs L hP hD hS hl kk => lv_lushr hx hb hdg rfl kk) kk
    · cases h
  · split at h
    · cases h; exact am_p (fun H locs L hP hD hS hl kk => W.lcmp hx hb hdg kk) kk
    · cases h
  · split at h
    · cases h; exact am_p (fun H locs L hP hD hS hl kk => lv_i2l hx hb hdg rfl kk) kk
    · cases h
  · split at h
    · cases h; exact am_p (fun H locs L hP hD hS hl kk => lv_i2c hx hb hdg rfl kk) kk
    · cases h
  · split at h
    · cases h; exact am_p (fun H locs L hP hD hS hl kk => lv_ineg hx hb hdg kk) kk
    · cases h
  · split at h
    · cases h; exact am_p (fun H locs L hP hD hS hl kk => lv_l2i hx hb hdg rfl kk) kk
    · cases h
  · split at h
    · split at h
      · rename_i hc
        cases h; exact am_p (fun H locs L hP hD hS hl kk => lv_dup hx hb hdg ((am_v_cat _).trans hc) kk) kk
      · cases h
    · cases h
  · split at h
    · split at h
      · rename_i hc
        cases h; exact am_p (fun H locs L hP hD hS hl kk => lv_pop hx hb hdg ((am_v_cat _).trans hc) kk) kk
      · cases h
    · cases h
  · split at h
    · split at h
      · rename_i hc
        cases h; exact am_p (fun H locs L hP hD hS hl kk => lv_dup2_11 hx hb hdg ((am_v_cat _).trans hc.1) ((am_v_cat _).trans hc.2) kk) kk
      · cases h
    · cases h
  · split at h
    · cases h; exact am_p (fun H locs L hP hD hS hl kk => lv_goto hx hb hdg (of_decide_eq_true htg) kk) kk
    · cases h
  · split at h
    · cases h; exact am_p (fun H locs L hP hD hS hl kk => am_if1 hx hb hdg (of_decide_eq_true htg) hp.1 kk) kk
    · cases h; exact am_p (fun H locs L hP hD hS hl kk => am_if0 hx hb hdg (of_decide_eq_true htg) hp.1 kk) kk
    · cases h
  · split at h
    · cases h; exact am_p (fun H locs L hP hD hS hl kk => am_ic1 hx hb hdg (of_decide_eq_true htg) hp.1 kk) kk
    · cases h; exact am_p (fun H locs L hP hD hS hl kk => am_ic0 hx hb hdg (of_decide_eq_true htg) hp.1 kk) kk
    · cases h
  · split at h
    · cases h; exact am_p (fun H locs L hP hD hS hl kk => lv_tableOut hx hb hdg hp.1 (am_tw0 (of_decide_eq_true htg)) kk) kk
    · rename_i k ds x r
      cases h
      obtain ⟨h1, h2, h3, -⟩ := hp
      exact am_p (fun H locs L hP hD hS hl kk => lv_tableIn hx hb hdg (by omega) h3 (am_sw h1 h2) (am_tw1 (of_decide_eq_true htg) h2) kk) kk
    · cases h
  · split at h
    · cases h; exact am_p (fun H locs L hP hD hS hl kk => lv_lookup hx hb hdg (of_decide_eq_true htg) rfl hp.1 kk) kk
    · cases h
  · split at h
    · rename_i ci k t fin a r hq
      split at h
      · rename_i cj fs hw
        split at h
        · rename_i hcc
          subst hcc
          split at h
          · rename_i v hf
            cases h
            exact am_p (fun H locs L hP hD hS hl kk => am_getf K hP (am_w_get hw) (hrf _ _ _ _ _ hq) (by rw [List.getElem?_map, hf]; rfl) hdg kk) kk
          · cases h
        · cases h
      · cases h
    · cases h
  · split at h
    · rename_i ci k t fin v a r hq
      split at h
      · rename_i cj fs hw
        split at h
        · rename_i hcc
          obtain ⟨hcc, hfi, hk⟩ := hcc
          subst hcc
          split at h
          · rename_i qs hf
            cases h
            intro H locs L hP hD hS hl
            exact am_putf K hP hD hS hw (hrf _ _ _ _ _ hq) hk hfi hf hp hdg (fun H1 locs1 hP1 hD1 hS1 => kk H1 locs1 L hP1 hD1 hS1 hl)
          · cases h
        · cases h
      · cases h
    · cases h
  · split at h
    · split at h
      · rename_i hw
        cases h
        exact am_p (fun H locs L hP hD hS hl kk => va_iald hx hb K.2.2.2.2.2.2.2.1 hP _ 0 (am_w_get hw) rfl hp.1 hdg kk) kk
      · cases h
    · cases h
  · split at h
    · split at h
      · rename_i hw
        cases h
        exact am_p (fun H locs L hP hD hS hl kk => va_zald hx hb K.2.2.2.2.2.2.2.1 hP _ 1 (am_w_get hw) rfl hp.1 hdg kk) kk
      · cases h
    · cases h
  · split at h
    · split at h
      · rename_i hw
        cases h
        exact am_p (fun H locs L hP hD hS hl kk => va_lald hx hb K.2.2.2.2.2.2.2.1 hP _ 2 (am_w_get hw) rfl hp.1 hdg kk) kk
      · cases h
    · cases h
  · split at h
    · split at h
      · rename_i hw
        cases h
        exact am_p (fun H locs L hP hD hS hl kk => va_aldq hx hb K.2.2.2.2.2.2.2.1 hP _ 3 (am_w_get hw) rfl hp.1 hdg (by rw [am_q_ok (ad := ad)]; exact kk)) kk
      · cases h
    · cases h
  · split at h
    · split at h
      · rename_i hw
        cases h
        intro H locs L hP hD hS hl
        refine va_iast hx hb K.2.2.2.2.2.2.2.1 hP hD hS _ 0 (am_w_get hw) rfl hp.1 hdg (fun H1 locs1 hP1 hD1 hS1 => ?_)
        skip
        exact kk H1 locs1 L (am_w_set (ws := ws) ▸ hP1) (am_w_set (ws := ws) ▸ hD1) hS1 hl
      · cases h
    · cases h
  · split at h
    · split at h
      · rename_i hw
        cases h
        intro H locs L hP hD hS hl
        refine va_zast hx hb K.2.2.2.2.2.2.2.1 hP hD hS _ 1 (am_w_get hw) rfl hp.1 hdg (fun H1 locs1 hP1 hD1 hS1 => ?_)
        rw [am_nz hp.2.1] at hP1 hD1
        exact kk H1 locs1 L (am_w_set (ws := ws) ▸ hP1) (am_w_set (ws := ws) ▸ hD1) hS1 hl
      · cases h
    · cases h
  · split at h
    · split at h
      · rename_i hw
        cases h
        intro H locs L hP hD hS hl
        refine va_last hx hb K.2.2.2.2.2.2.2.1 hP hD hS _ 2 (am_w_get hw) rfl hp.1 hdg (fun H1 locs1 hP1 hD1 hS1 => ?_)
        skip
        exact kk H1 locs1 L (am_w_set (ws := ws) ▸ hP1) (am_w_set (ws := ws) ▸ hD1) hS1 hl
      · cases h
    · cases h
  · split at h
    · split at h
      · rename_i k n g hw
        split at h
        · rename_i hk
          cases h
          exact am_p (fun H locs L hP hD hS hl kk => am_alen K hP (am_w_get hw) hk hdg kk) kk
        · cases h
      · cases h
    · cases h
  · cases h
end AMX
