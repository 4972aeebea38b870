/-! CONTENTS: a world's ints by cell and place; what a method does to them is its mirror, a function -/
abbrev am_M : Type := Nat → Nat → Int32
/- 'match' over Nat.beq and 'abbrev': so that a comparison looks a cell up before it opens what stands in it -/
abbrev sC (σ : am_M) (c : Nat) (g : Nat → Int32) : am_M := fun k => match Nat.beq k c with
  | true => g
  | false => σ k
abbrev am_u (f : Nat → Int32) (c : Nat) (v : Int32) : Nat → Int32 := fun k => match Nat.beq k c with
  | true => v
  | false => f k
abbrev am_sub {α : Type} (f : Nat → α) (o : Nat) : Nat → α := fun k => f (o + k)
abbrev am_put {α : Type} (f : Nat → α) (o len : Nat) (g : Nat → α) : Nat → α := fun k => match Nat.ble o k with
  | true => (match Nat.ble (o + len) k with
    | true => f k
    | false => g (k - o))
  | false => f k
abbrev upd64 (f : Nat → Int64) (c : Nat) (v : Int64) : Nat → Int64 := fun k => match Nat.beq k c with
  | true => v
  | false => f k
def b2i (b : Bool) : Int32 := match b with
  | true => 1
  | false => 0
theorem b2i_01 (b : Bool) : b2i b = 0 ∨ b2i b = 1 := by cases b <;> decide
theorem b2i_t {b : Bool} (h : b = true) : ¬ b2i b = 0 := by subst h; decide
theorem b2i_f {b : Bool} (h : ¬ b = true) : b2i b = 0 := by
  cases b with
  | false => rfl
  | true => exact absurd rfl h
def am_ushr (x y : Int32) : Int32 := (x.toUInt32 >>> (y.toUInt32 &&& Int32.toUInt32 31)).toInt32
def am_lshl (x : Int64) (y : Int32) : Int64 := x <<< (y.toInt64 &&& 63)
def am_lshr (x : Int64) (y : Int32) : Int64 := x >>> (y.toInt64 &&& 63)
def am_lushr (x : Int64) (y : Int32) : Int64 := (x.toUInt64 >>> (y.toInt64.toUInt64 &&& Int64.toUInt64 63)).toInt64
theorem am_in1 {i : Int32} {n : Nat} (h1 : ¬ i < 0) (h2 : ¬ Int32.ofNat n ≤ i) (hn : n < 2 ^ 31) : vp_in i n := by
  intro h
  rcases h with h | h
  · exact h1 h
  · refine h2 ?_
    have e : i = Int32.ofNat i.toNatClampNeg := by
      have h0 : (0 : Int32) ≤ i := Int32.not_lt.mp h1
      have h3 := Int32.le_iff_toInt_le.mp h0
      apply Int32.toInt_inj.mp
      have h4 : i.toNatClampNeg < 2 ^ 31 := by
        have := Int32.toInt_lt i
        show i.toInt.toNat < 2 ^ 31
        omega
      rw [show Int32.ofNat i.toNatClampNeg = nI i.toNatClampNeg from rfl, nI_toInt h4]
      show i.toInt = ((i.toInt.toNat : Nat) : Int)
      simp at h3
      omega
    rw [e]
    exact nI_le h (by
      have := Int32.toInt_lt i
      show i.toInt.toNat < 2 ^ 31
      omega)
theorem am_ne {x y : Int32} {k : Int} (h : ¬ x = y) (hk : y.toInt = k) : x.toInt ≠ k := fun q => h (Int32.toInt_inj.mp (q.trans hk.symm))
theorem am_bind {α β : Type} {a : Option α} {f : α → Option β} {b : β} (h : a.bind f = some b) : ∃ q, a = some q ∧ f q = some b := by
  cases a with
  | none => cases h
  | some q => exact ⟨q, rfl, h⟩
theorem am_inc {i : Int32} {n : Nat} (h : ¬ (i < 0 ∨ n ≤ i.toNatClampNeg)) : vp_in i n := h
theorem am_bA {c k e : Nat} (h : c + 1 ≤ k) : Nat.ble (c + 1) (e + k) = true := Nat.ble_eq_true_of_le (Nat.le_trans h (Nat.le_add_left k e))
theorem am_bB {j k e : Nat} (h : j + 1 ≤ k) : Nat.ble (e + j + 1) (e + k) = true := Nat.ble_eq_true_of_le (by omega)
theorem am_bC {k e : Nat} (h : 1 ≤ k) : Nat.ble (e + 1) (e + k) = true := Nat.ble_eq_true_of_le (by omega)
theorem am_metn {l : Launch} {y : MethodName} {cc : ByteArray} {maxL d n0 : Nat} {ret : Option FieldType} {as : List Value} {ws : am_W} {Post : Option Value → am_W → Prop} {own : String} {cd : am_cdT} {rf : am_rfT} {ini : Bool} (hn0 : ws.length = n0) (hy : (plainName y.cls || plainFor y) = true) (hown : y.cls = own) (hini : ini = true → y.name = "<init>") (hcd : am_cdok cc maxL cd) (hrf : am_rfok own rf) (hlen : (lg_sl as).length ≤ maxL)
    (h : ∀ V : am_VT, am_B l own ini d cd rf ret Post n0 V → V ws 0 (lv_args 0 as) []) : am_Con l y cc maxL ret d as ws Post := by
  subst hn0
  exact am_met hy hown hini hcd hrf hlen h
theorem am_rf0 {own : String} : am_rfok own (am_rfL []) := fun idx ci k t fin h => by simp [am_rfL] at h
section AMH
variable {l : Launch} {own : String} {ini : Bool} {d n0 : Nat} {cd : am_cdT} {rf : am_rfT} {ret : Option FieldType} {Post : Option Value → am_W → Prop} {V : am_VT}
theorem am_B.pick (h : am_B l own ini d cd rf ret Post n0 V) (ks : List Nat) {ws : am_W} {pc : Nat} {ls ls' : am_L} {st : List Value} (e : am_pick ls ks = ls') (k : V ws pc ls' st) : V ws pc ls st := h.2.2.2.2.2.2.2.2.2.2.2.1 _ _ _ _ _ _ e k
theorem am_B.ri (h : am_B l own ini d cd rf ret Post n0 V) {ws : am_W} {pc ln : Nat} {ls : am_L} {tg : List Nat} {v : Int32} (hr : ret = some .int) (hc : cd pc = some (.ireturn, ln, tg)) (hn : ws.length = n0) (hp : Post (some (.int v)) ws) : V ws pc ls [.int v] := h.2.2.2.1 _ _ _ _ _ _ hr hc hn hp
theorem am_B.rv (h : am_B l own ini d cd rf ret Post n0 V) {ws : am_W} {pc ln : Nat} {ls : am_L} {tg : List Nat} (hr : ret = none) (hc : cd pc = some (.return_, ln, tg)) (hn : ws.length = n0) (hp : Post none ws) : V ws pc ls [] := h.2.2.2.2.1 _ _ _ _ _ hr hc hn hp
theorem am_B.rz (h : am_B l own ini d cd rf ret Post n0 V) {ws : am_W} {pc ln : Nat} {ls : am_L} {tg : List Nat} {v : Int32} (hr : ret = some .boolean) (hc : cd pc = some (.ireturn, ln, tg)) (hn : ws.length = n0) (hv : v = 0 ∨ v = 1) (hp : Post (some (.int v)) ws) : V ws pc ls [.int v] := h.2.2.2.2.2.1 _ _ _ _ _ _ hr hc hn hv hp
theorem am_B.kI (h : am_B l own ini d cd rf ret Post n0 V) (pl : Nat) {ws : am_W} {pc ln idx : Nat} {ls : am_L} {st : List Value} {tg : List Nat} {v : Int32} (hc : cd pc = some (.ldc idx, ln, tg)) (hl : lw_tbl[pl]? = some (Cond.constant own idx v)) (g : goodWord (Cond.constant own idx v) = true) (k : V ws (pc + 2) ls (.int v :: st)) : V ws pc ls st := h.2.2.2.2.2.2.2.1 _ _ _ _ _ _ _ _ hc (gW_in (List.mem_of_getElem? hl) g) k
theorem am_B.kS (h : am_B l own ini d cd rf ret Post n0 V) (k : Nat) {ws : am_W} {pc ln idx : Nat} {ls : am_L} {st : List Value} {tg : List Nat} {tx : String} (hc : cd pc = some (.ldc idx, ln, tg)) (hk : am_sT k = (own, idx, tx)) (hn : k < am_sn) (kk : V ws (pc + 2) ls (.retAddr k :: st)) : V ws pc ls st := h.2.2.2.2.2.2.2.2.2.1 _ _ _ _ _ _ _ _ _ hc hk hn kk
theorem am_B.kSW (h : am_B l own ini d cd rf ret Post n0 V) (k : Nat) {ws : am_W} {pc ln idx : Nat} {ls : am_L} {st : List Value} {tg : List Nat} {tx : String} (hc : cd pc = some (.ldc_w idx, ln, tg)) (hk : am_sT k = (own, idx, tx)) (hn : k < am_sn) (kk : V ws (pc + 3) ls (.retAddr k :: st)) : V ws pc ls st := h.2.2.2.2.2.2.2.2.2.2.1 _ _ _ _ _ _ _ _ _ hc hk hn kk
theorem am_B.cVi (h : am_B l own ini d cd rf ret Post n0 V) {as rest st : List Value} {js : List Nat} {ws2 ws wc w' : am_W} {pc2 pc idx ln maxL n d' ci N : Nat} {T : u_T} {tg : List Nat} {y : MethodName} {bytes : ByteArray} {ret' : Option FieldType} {ls : am_L} {v : Int32} {fs : List Value} (hk : am_lk own idx 1 y bytes maxL ret' n) (hC : am_Con l y bytes maxL ret' d' (.ref 0 :: as) wc (fun r w => r = some (.int v) ∧ w = w')) (hc : cd pc = some (.invokevirtual idx, ln, tg)) (hm : Nat.ble maxL 41 = true) (hd : Nat.ble (d' + 1) d = true) (hn : as.length = n) (hjs : (js.take wc.length).map (fun j => ws[j]?) = wc.map (fun x => some (am_re js x))) (hnd : va_nd (js.take wc.length) = true) (hW : Nat.ble (rest.map fun v => v.category).sum 8 = true) (hr0 : wc[0]? = some (.inr (ci, fs))) (hcl : vwCl[ci]? = some (y.cls, T, N)) (e0 : (as.map (am_rv js)).reverse ++ .ref (js.getD 0 0) :: rest = st) (e1 : am_putb ws js w' = ws2) (e2 : pc + 3 = pc2) (kk : V ws2 pc2 ls (.int v :: rest)) : V ws pc ls st := by
  subst e0 e1 e2
  exact h.2.2.1 _ _ _ _ _ _ _ _ _ _ _ _ _ _ _ _ _ _ _ _ _ _ hc hk (Nat.le_of_ble_eq_true hm) (Nat.le_of_ble_eq_true hd) hC hn hjs hnd (Nat.le_of_ble_eq_true hW) hr0 hcl (fun r w hp _ => by obtain ⟨rfl, rfl⟩ := hp; exact kk)
theorem am_B.cVv (h : am_B l own ini d cd rf ret Post n0 V) {as rest st : List Value} {js : List Nat} {ws2 ws wc w' : am_W} {pc2 pc idx ln maxL n d' ci N : Nat} {T : u_T} {tg : List Nat} {y : MethodName} {bytes : ByteArray} {ret' : Option FieldType} {ls : am_L} {fs : List Value} (hk : am_lk own idx 1 y bytes maxL ret' n) (hC : am_Con l y bytes maxL ret' d' (.ref 0 :: as) wc (fun r w => r = none ∧ w = w')) (hc : cd pc = some (.invokevirtual idx, ln, tg)) (hm : Nat.ble maxL 41 = true) (hd : Nat.ble (d' + 1) d = true) (hn : as.length = n) (hjs : (js.take wc.length).map (fun j => ws[j]?) = wc.map (fun x => some (am_re js x))) (hnd : va_nd (js.take wc.length) = true) (hW : Nat.ble (rest.map fun v => v.category).sum 8 = true) (hr0 : wc[0]? = some (.inr (ci, fs))) (hcl : vwCl[ci]? = some (y.cls, T, N)) (e0 : (as.map (am_rv js)).reverse ++ .ref (js.getD 0 0) :: rest = st) (e1 : am_putb ws js w' = ws2) (e2 : pc + 3 = pc2) (kk : V ws2 pc2 ls rest) : V ws pc ls st := by
  subst e0 e1 e2
  exact h.2.2.1 _ _ _ _ _ _ _ _ _ _ _ _ _ _ _ _ _ _ _ _ _ _ hc hk (Nat.le_of_ble_eq_true hm) (Nat.le_of_ble_eq_true hd) hC hn hjs hnd (Nat.le_of_ble_eq_true hW) hr0 hcl (fun r w hp _ => by obtain ⟨rfl, rfl⟩ := hp; exact kk)
theorem am_B.cSi (h : am_B l own ini d cd rf ret Post n0 V) {as rest st : List Value} {js : List Nat} {ws2 ws wc w' : am_W} {pc2 pc idx ln maxL n d' : Nat} {tg : List Nat} {y : MethodName} {bytes : ByteArray} {ret' : Option FieldType} {ls : am_L} {v : Int32} (hk : am_lk own idx 0 y bytes maxL ret' n) (hC : am_Con l y bytes maxL ret' d' as wc (fun r w => r = some (.int v) ∧ w = w')) (hc : cd pc = some (.invokestatic idx, ln, tg)) (hm : Nat.ble maxL 41 = true) (hd : Nat.ble (d' + 1) d = true) (hn : as.length = n) (hjs : (js.take wc.length).map (fun j => ws[j]?) = wc.map (fun x => some (am_re js x))) (hnd : va_nd (js.take wc.length) = true) (hW : Nat.ble (rest.map fun v => v.category).sum 8 = true) (e0 : (as.map (am_rv js)).reverse ++ rest = st) (e1 : am_putb ws js w' = ws2) (e2 : pc + 3 = pc2) (kk : V ws2 pc2 ls (.int v :: rest)) : V ws pc ls st := by
  subst e0 e1 e2
  exact h.2.1 _ _ _ _ _ _ _ _ _ _ _ _ _ _ _ _ _ hc hk (Nat.le_of_ble_eq_true hm) (Nat.le_of_ble_eq_true hd) hC hn hjs hnd (Nat.le_of_ble_eq_true hW) (fun r w hp _ => by obtain ⟨rfl, rfl⟩ := hp; exact kk)
theorem am_B.cSv (h : am_B l own ini d cd rf ret Post n0 V) {as rest st : List Value} {js : List Nat} {ws2 ws wc w' : am_W} {pc2 pc idx ln maxL n d' : Nat} {tg : List Nat} {y : MethodName} {bytes : ByteArray} {ret' : Option FieldType} {ls : am_L} (hk : am_lk own idx 0 y bytes maxL ret' n) (hC : am_Con l y bytes maxL ret' d' as wc (fun r w => r = none ∧ w = w')) (hc : cd pc = some (.invokestatic idx, ln, tg)) (hm : Nat.ble maxL 41 = true) (hd : Nat.ble (d' + 1) d = true) (hn : as.length = n) (hjs : (js.take wc.length).map (fun j => ws[j]?) = wc.map (fun x => some (am_re js x))) (hnd : va_nd (js.take wc.length) = true) (hW : Nat.ble (rest.map fun v => v.category).sum 8 = true) (e0 : (as.map (am_rv js)).reverse ++ rest = st) (e1 : am_putb ws js w' = ws2) (e2 : pc + 3 = pc2) (kk : V ws2 pc2 ls rest) : V ws pc ls st := by
  subst e0 e1 e2
  exact h.2.1 _ _ _ _ _ _ _ _ _ _ _ _ _ _ _ _ _ hc hk (Nat.le_of_ble_eq_true hm) (Nat.le_of_ble_eq_true hd) hC hn hjs hnd (Nat.le_of_ble_eq_true hW) (fun r w hp _ => by obtain ⟨rfl, rfl⟩ := hp; exact kk)
theorem am_B.cOi (h : am_B l own ini d cd rf ret Post n0 V) {as rest st : List Value} {ws2 ws : am_W} {pc2 pc idx ln maxL n d' ci N : Nat} {T : u_T} {tg : List Nat} {y : MethodName} {bytes : ByteArray} {ret' : Option FieldType} {ls : am_L} {v : Int32} {fs : List Value} (hk : am_lk own idx 1 y bytes maxL ret' n) (hC : am_Con l y bytes maxL ret' d' (.ref 0 :: as) ws (fun r w => r = some (.int v) ∧ w = ws2)) (hc : cd pc = some (.invokevirtual idx, ln, tg)) (hm : Nat.ble maxL 41 = true) (hd : Nat.ble (d' + 1) d = true) (hn : as.length = n) (hW : Nat.ble (rest.map fun v => v.category).sum 8 = true) (hr0 : ws[0]? = some (.inr (ci, fs))) (hcl : vwCl[ci]? = some (y.cls, T, N)) (e0 : as.reverse ++ .ref 0 :: rest = st) (e2 : pc + 3 = pc2) (kk : V ws2 pc2 ls (.int v :: rest)) : V ws pc ls st := by
  subst e0 e2
  exact h.2.2.2.2.2.2.2.2.2.2.2.2.2.2.1 _ _ _ _ _ _ _ _ _ _ _ _ _ _ _ _ _ _ _ hc hk (Nat.le_of_ble_eq_true hm) (Nat.le_of_ble_eq_true hd) hC hn (Nat.le_of_ble_eq_true hW) hr0 hcl (fun r w hp _ => by obtain ⟨rfl, rfl⟩ := hp; exact kk)
theorem am_B.cOv (h : am_B l own ini d cd rf ret Post n0 V) {as rest st : List Value} {ws2 ws : am_W} {pc2 pc idx ln maxL n d' ci N : Nat} {T : u_T} {tg : List Nat} {y : MethodName} {bytes : ByteArray} {ret' : Option FieldType} {ls : am_L} {fs : List Value} (hk : am_lk own idx 1 y bytes maxL ret' n) (hC : am_Con l y bytes maxL ret' d' (.ref 0 :: as) ws (fun r w => r = none ∧ w = ws2)) (hc : cd pc = some (.invokevirtual idx, ln, tg)) (hm : Nat.ble maxL 41 = true) (hd : Nat.ble (d' + 1) d = true) (hn : as.length = n) (hW : Nat.ble (rest.map fun v => v.category).sum 8 = true) (hr0 : ws[0]? = some (.inr (ci, fs))) (hcl : vwCl[ci]? = some (y.cls, T, N)) (e0 : as.reverse ++ .ref 0 :: rest = st) (e2 : pc + 3 = pc2) (kk : V ws2 pc2 ls rest) : V ws pc ls st := by
  subst e0 e2
  exact h.2.2.2.2.2.2.2.2.2.2.2.2.2.2.1 _ _ _ _ _ _ _ _ _ _ _ _ _ _ _ _ _ _ _ hc hk (Nat.le_of_ble_eq_true hm) (Nat.le_of_ble_eq_true hd) hC hn (Nat.le_of_ble_eq_true hW) hr0 hcl (fun r w hp _ => by obtain ⟨rfl, rfl⟩ := hp; exact kk)
/-- a block of cells from o on -/
def am_blk (ws : am_W) (o : Nat) (js : List Nat) (w : am_W) : am_W := ws.take o ++ (w.map (am_re js) ++ ws.drop (o + w.length))
theorem am_blk_ok {ws w : am_W} {o m : Nat} {ex : List Nat} (hw : w.length = m) (hl : o + m ≤ ws.length) : am_putb ws (List.range' o m ++ ex) w = am_blk ws o (List.range' o m ++ ex) w := by
  apply List.ext_getElem?
  intro k
  have hz : ∀ (i : Nat) (q : Nat × am_E), (am_zip (List.range' o m ++ ex) w)[i]? = some q → i < m ∧ q.1 = o + i ∧ ∃ x, w[i]? = some x ∧ q.2 = am_re (List.range' o m ++ ex) x := by
    intro i q hi
    unfold am_zip at hi
    rw [List.getElem?_zip_eq_some] at hi
    obtain ⟨h1, h2⟩ := hi
    rw [List.getElem?_map] at h2
    cases hx : w[i]? with
    | none => rw [hx] at h2; cases h2
    | some x =>
      rw [hx] at h2
      have him : i < m := by rw [← hw]; exact (List.getElem?_eq_some_iff.mp hx).1
      rw [List.getElem?_append_left (by rw [List.length_range']; exact him), List.getElem?_range' him] at h1
      refine ⟨him, ?_, x, rfl, (Option.some.inj h2).symm⟩
      have := Option.some.inj h1
      omega
  unfold am_blk
  by_cases h1 : k < o
  · rw [List.getElem?_append_left (by rw [List.length_take]; omega), List.getElem?_take, if_pos h1]
    exact am_sets_ne (fun x hx hxe => by
      obtain ⟨i, hi⟩ := List.getElem?_of_mem hx
      have := (hz i x hi).2.1
      omega)
  · rw [List.getElem?_append_right (by rw [List.length_take]; omega)]
    have hlt : (ws.take o).length = o := by rw [List.length_take]; omega
    rw [hlt]
    by_cases h2 : k < o + m
    · rw [List.getElem?_append_left (by rw [List.length_map]; omega), List.getElem?_map]
      have h3 : k - o < w.length := by omega
      rw [List.getElem?_eq_getElem h3]
      have h4 : (am_zip (List.range' o m ++ ex) w)[k - o]? = some (k, am_re (List.range' o m ++ ex) w[k - o]) := by
        unfold am_zip
        rw [List.getElem?_zip_eq_some, List.getElem?_append_left (by rw [List.length_range']; omega), List.getElem?_range' (by omega), List.getElem?_map, List.getElem?_eq_getElem h3]
        refine ⟨?_, rfl⟩
        congr 1
        omega
      refine am_sets_eq h4 (fun a b p q ha hb he => ?_) (by omega)
      have h5 := (hz a p ha).2.1
      have h6 := (hz b q hb).2.1
      omega
    · rw [List.getElem?_append_right (by rw [List.length_map]; omega), List.length_map, List.getElem?_drop]
      rw [show o + w.length + (k - o - w.length) = k by omega]
      exact am_sets_ne (fun x hx hxe => by
        obtain ⟨i, hi⟩ := List.getElem?_of_mem hx
        have h5 := hz i x hi
        omega)
theorem am_nd_range : ∀ (m o : Nat), va_nd (List.range' o m) = true := by
  intro m
  induction m with
  | zero => intro o; rfl
  | succ m ih =>
    intro o
    rw [List.range'_succ]
    simp only [va_nd, Bool.and_eq_true, decide_eq_true_eq]
    refine ⟨?_, ih _⟩
    intro h
    have := (List.mem_range'.mp h)
    obtain ⟨i, _, h2⟩ := this
    omega
/-- the callee's block among the caller's cells -/
theorem am_hjs {ws wc : am_W} {o m : Nat} {ex : List Nat} (hw : wc.length = m) (h : (ws.drop o).take m = wc.map (am_re (List.range' o m ++ ex))) : ((List.range' o m ++ ex).take wc.length).map (fun j => ws[j]?) = wc.map (fun x => some (am_re (List.range' o m ++ ex) x)) := by
  have e1 : (List.range' o m ++ ex).take wc.length = List.range' o m := by
    rw [hw, List.take_left' (by rw [List.length_range'])]
  rw [e1]
  apply List.ext_getElem?
  intro k
  have hk := congrArg (fun l => l[k]?) h
  simp only [List.getElem?_map] at hk ⊢
  by_cases hkm : k < m
  · rw [List.getElem?_range' hkm]
    rw [List.getElem?_take, if_pos hkm, List.getElem?_drop] at hk
    simp only [Nat.one_mul, Option.map_some]
    rw [hk]
    cases hx : wc[k]? with
    | none =>
      have := List.getElem?_eq_none_iff.mp hx
      omega
    | some x => rfl
  · rw [List.getElem?_eq_none (by rw [List.length_range']; omega), List.getElem?_eq_none (l := wc) (by omega)]
    rfl
theorem am_B.cBi (h : am_B l own ini d cd rf ret Post n0 V) (o m : Nat) (ex : List Nat) {as rest st : List Value} {ws2 ws wc w' : am_W} {pc2 pc idx ln maxL n d' ci N : Nat} {T : u_T} {tg : List Nat} {y : MethodName} {bytes : ByteArray} {ret' : Option FieldType} {ls : am_L} {v : Int32} {fs : List Value} (hk : am_lk own idx 1 y bytes maxL ret' n) (hC : am_Con l y bytes maxL ret' d' (.ref 0 :: as) wc (fun r w => r = some (.int v) ∧ w = w')) (hc : cd pc = some (.invokevirtual idx, ln, tg)) (hm : Nat.ble maxL 41 = true) (hd : Nat.ble (d' + 1) d = true) (hn : as.length = n) (hwl : wc.length = m) (hjs : (ws.drop o).take m = wc.map (am_re (List.range' o m ++ ex))) (hW : Nat.ble (rest.map fun v => v.category).sum 8 = true) (hr0 : wc[0]? = some (.inr (ci, fs))) (hcl : vwCl[ci]? = some (y.cls, T, N)) (e0 : (as.map (am_rv (List.range' o m ++ ex))).reverse ++ .ref ((List.range' o m ++ ex).getD 0 0) :: rest = st) (hwl2 : w'.length = m) (hol : Nat.ble (o + m) ws.length = true) (e1 : am_blk ws o (List.range' o m ++ ex) w' = ws2) (e2 : pc + 3 = pc2) (kk : V ws2 pc2 ls (.int v :: rest)) : V ws pc ls st :=
  h.cVi hk hC hc hm hd hn (am_hjs hwl hjs) (by rw [hwl, List.take_left' (by rw [List.length_range'])]; exact am_nd_range m o) hW hr0 hcl e0 ((am_blk_ok hwl2 (Nat.le_of_ble_eq_true hol)).trans e1) e2 kk
theorem am_B.cBv (h : am_B l own ini d cd rf ret Post n0 V) (o m : Nat) (ex : List Nat) {as rest st : List Value} {ws2 ws wc w' : am_W} {pc2 pc idx ln maxL n d' ci N : Nat} {T : u_T} {tg : List Nat} {y : MethodName} {bytes : ByteArray} {ret' : Option FieldType} {ls : am_L} {fs : List Value} (hk : am_lk own idx 1 y bytes maxL ret' n) (hC : am_Con l y bytes maxL ret' d' (.ref 0 :: as) wc (fun r w => r = none ∧ w = w')) (hc : cd pc = some (.invokevirtual idx, ln, tg)) (hm : Nat.ble maxL 41 = true) (hd : Nat.ble (d' + 1) d = true) (hn : as.length = n) (hwl : wc.length = m) (hjs : (ws.drop o).take m = wc.map (am_re (List.range' o m ++ ex))) (hW : Nat.ble (rest.map fun v => v.category).sum 8 = true) (hr0 : wc[0]? = some (.inr (ci, fs))) (hcl : vwCl[ci]? = some (y.cls, T, N)) (e0 : (as.map (am_rv (List.range' o m ++ ex))).reverse ++ .ref ((List.range' o m ++ ex).getD 0 0) :: rest = st) (hwl2 : w'.length = m) (hol : Nat.ble (o + m) ws.length = true) (e1 : am_blk ws o (List.range' o m ++ ex) w' = ws2) (e2 : pc + 3 = pc2) (kk : V ws2 pc2 ls rest) : V ws pc ls st :=
  h.cVv hk hC hc hm hd hn (am_hjs hwl hjs) (by rw [hwl, List.take_left' (by rw [List.length_range'])]; exact am_nd_range m o) hW hr0 hcl e0 ((am_blk_ok hwl2 (Nat.le_of_ble_eq_true hol)).trans e1) e2 kk
theorem am_B.cp (h : am_B l own ini d cd rf ret Post n0 V) (pl q0 q1 : Nat) {rest : List Value} {ws ws2 : am_W} {pc pc2 idx ln k0 k1 : Nat} {ls : am_L} {tg : List Nat} {f g : Nat → Int32} {sp dp n : Int32} (hb : ¬ (sp < 0 ∨ dp < 0 ∨ n < 0 ∨ k0 < sp.toNatClampNeg + n.toNatClampNeg ∨ k1 < dp.toNatClampNeg + n.toNatClampNeg)) (hc : cd pc = some (.invokestatic idx, ln, tg)) (hl : lw_tbl[pl]? = some (Cond.methodLink own idx arraycopyName)) (hd : Nat.ble 1 d = true) (h0 : ws[q0]? = some (.inl (0, k0, .inl f))) (h1 : ws[q1]? = some (.inl (0, k1, .inl g))) (hW : Nat.ble (rest.map fun v => v.category).sum 8 = true) (e1 : ws.set q1 (.inl (0, k1, .inl (va_cpy f g sp.toNatClampNeg dp.toNatClampNeg n.toNatClampNeg))) = ws2) (e2 : pc + 3 = pc2) (kk : V ws2 pc2 ls rest) : V ws pc ls (.int n :: .int dp :: .ref q1 :: .int sp :: .ref q0 :: rest) := by
  subst e1 e2
  obtain ⟨a1, a2⟩ := not_or.mp hb
  obtain ⟨a2, a3⟩ := not_or.mp a2
  obtain ⟨a3, a4⟩ := not_or.mp a3
  obtain ⟨a4, a5⟩ := not_or.mp a4
  exact h.2.2.2.2.2.2.2.2.2.2.2.2.1 _ _ _ _ _ _ _ _ _ _ _ _ _ _ _ _ hc (gW_in (List.mem_of_getElem? hl) rfl) (Nat.le_of_ble_eq_true hd) h0 h1 a1 a2 a3 (Nat.not_lt.mp a4) (Nat.not_lt.mp a5) (Nat.le_of_ble_eq_true hW) kk
end AMH
/-- SendHall.at, SendHall.put, Arrays.fill -/
def jat (n : Nat) (f : Nat → Int32) (p : Int32) : Int32 := if p < 0 then 0 else if Int32.ofNat n ≤ p then 0 else f p.toNatClampNeg
def jput (n : Nat) (f : Nat → Int32) (p v : Int32) : Nat → Int32 := if p < 0 then f else if Int32.ofNat n ≤ p then f else upd f p.toNatClampNeg v
def jfill (n : Nat) (f : Nat → Int32) (v : Int32) : Nat → Int32 := fun j => if j < n then v else f j
theorem c_at (l : Launch) (d n : Nat) (hn : n < 2 ^ 31) (f : Nat → Int32) (p : Int32) : am_Con l yX7_at cX7_at 2 (some .int) d [.ref 0, .int p] [.inl (0, n, .inl f)] (fun r w => r = some (.int (jat n f p)) ∧ w = [.inl (0, n, .inl f)]) := by
  refine am_met (own := RX7) (cd := am_cdT' tX7_at) (rf := am_rfL rfX7) (ini := false) (by decide +kernel) rfl (by decide) dX7_at rfX7_ok (Nat.le_of_ble_eq_true rfl) ?_
  intro V hV
  show V [.inl (0, n, .inl f)] 0 [(0, .ref 0), (1, .int p)] []
  unfold jat at hV
  by_cases h1 : p < 0
  · rw [if_pos h1] at hV
    refine hV.run 3 [1] (ws' := [.inl (0, n, .inl f)]) (pc' := 17) (ls' := [(0, .ref 0), (1, .int p)]) (st' := [.int 0]) (ps := [p < 0]) rfl ⟨h1, trivial⟩ ?_
    exact hV.ri rfl rfl rfl ⟨rfl, rfl⟩
  · rw [if_neg h1] at hV
    by_cases h2 : Int32.ofNat n ≤ p
    · rw [if_pos h2] at hV
      refine hV.run 7 [0, 1] (ws' := [.inl (0, n, .inl f)]) (pc' := 17) (ls' := [(0, .ref 0), (1, .int p)]) (st' := [.int 0]) (ps := [¬ p < 0, Int32.ofNat n ≤ p]) rfl ⟨h1, h2, trivial⟩ ?_
      exact hV.ri rfl rfl rfl ⟨rfl, rfl⟩
    · rw [if_neg h2] at hV
      refine hV.run 10 [0, 0] (ws' := [.inl (0, n, .inl f)]) (pc' := 17) (ls' := [(0, .ref 0), (1, .int p)]) (st' := [.int (f p.toNatClampNeg)]) (ps := [¬ p < 0, ¬ Int32.ofNat n ≤ p, vp_in p n]) rfl ⟨h1, h2, am_in1 h1 h2 hn, trivial⟩ ?_
      exact hV.ri rfl rfl rfl ⟨rfl, rfl⟩
theorem c_put (l : Launch) (d n : Nat) (hn : n < 2 ^ 31) (f : Nat → Int32) (p v : Int32) : am_Con l yX7_put cX7_put 3 none d [.ref 0, .int p, .int v] [.inl (0, n, .inl f)] (fun r w => r = none ∧ w = [.inl (0, n, .inl (jput n f p v))]) := by
  refine am_met (own := RX7) (cd := am_cdT' tX7_put) (rf := am_rfL rfX7) (ini := false) (by decide +kernel) rfl (by decide) dX7_put rfX7_ok (Nat.le_of_ble_eq_true rfl) ?_
  intro V hV
  show V [.inl (0, n, .inl f)] 0 [(0, .ref 0), (1, .int p), (2, .int v)] []
  unfold jput at hV
  by_cases h1 : p < 0
  · rw [if_pos h1] at hV
    refine hV.run 2 [1] (ws' := [.inl (0, n, .inl f)]) (pc' := 14) (ls' := [(0, .ref 0), (1, .int p), (2, .int v)]) (st' := []) (ps := [p < 0]) rfl ⟨h1, trivial⟩ ?_
    exact hV.rv rfl rfl rfl ⟨rfl, rfl⟩
  · rw [if_neg h1] at hV
    by_cases h2 : Int32.ofNat n ≤ p
    · rw [if_pos h2] at hV
      refine hV.run 6 [0, 1] (ws' := [.inl (0, n, .inl f)]) (pc' := 14) (ls' := [(0, .ref 0), (1, .int p), (2, .int v)]) (st' := []) (ps := [¬ p < 0, Int32.ofNat n ≤ p]) rfl ⟨h1, h2, trivial⟩ ?_
      exact hV.rv rfl rfl rfl ⟨rfl, rfl⟩
    · rw [if_neg h2] at hV
      refine hV.run 10 [0, 0] (ws' := [.inl (0, n, .inl (upd f p.toNatClampNeg v))]) (pc' := 14) (ls' := [(0, .ref 0), (1, .int p), (2, .int v)]) (st' := []) (ps := [¬ p < 0, ¬ Int32.ofNat n ≤ p, vp_in p n]) rfl ⟨h1, h2, am_in1 h1 h2 hn, trivial⟩ ?_
      exact hV.rv rfl rfl rfl ⟨rfl, rfl⟩
theorem p_fill {l : Launch} {Post : Option Value → am_W → Prop} {V : am_VT} {n : Nat} (hV : am_B l RJ7 false 1 (am_cdT' tJ7_fill_53178) (am_rfL []) none Post 1 V) (hn : n < 2 ^ 31) (f : Nat → Int32) (v : Int32) (hP : Post none [.inl (0, n, .inl (jfill n f v))]) : ∀ (k i : Nat), i + k = n → V [.inl (0, n, .inl (jfill i f v))] 5 [(0, .ref 0), (1, .int v), (2, .int (nI i)), (3, .int (Int32.ofNat n))] [] := by
  intro k
  induction k with
  | zero =>
    intro i hi
    have e : i = n := by omega
    subst e
    refine hV.run 3 [1] (ws' := [.inl (0, i, .inl (jfill i f v))]) (pc' := 20) (ls' := [(0, .ref 0), (1, .int v), (2, .int (nI i)), (3, .int (Int32.ofNat i))]) (st' := []) (ps := [Int32.ofNat i ≤ nI i]) rfl ⟨nI_le (Nat.le_refl _) hn, trivial⟩ ?_
    exact hV.rv rfl rfl rfl hP
  | succ k ih =>
    intro i hi
    have h1 : ¬ Int32.ofNat n ≤ nI i := nI_ge (by omega) hn
    refine hV.run 9 [0] (ws' := [.inl (0, n, .inl (upd (jfill i f v) (nI i).toNatClampNeg v))]) (pc' := 5) (ls' := [(2, .int (nI i + 1)), (0, .ref 0), (1, .int v), (3, .int (Int32.ofNat n))]) (st' := []) (ps := [¬ Int32.ofNat n ≤ nI i, vp_in (nI i) n]) rfl ⟨h1, nI_in (by omega) hn, trivial⟩ ?_
    refine hV.pick [1, 2, 0, 3] (ls' := [(0, .ref 0), (1, .int v), (2, .int (nI i + 1)), (3, .int (Int32.ofNat n))]) rfl ?_
    have e2 : upd (jfill i f v) (nI i).toNatClampNeg v = jfill (i + 1) f v := by
      funext j
      rw [nI_clamp (by omega)]
      unfold upd jfill
      by_cases hj : j = i
      · subst hj
        simp
      · by_cases hj2 : j < i
        · rw [if_neg hj, if_pos hj2, if_pos (by omega)]
        · rw [if_neg hj, if_neg hj2, if_neg (by omega)]
    rw [e2, ← nI_succ]
    exact ih (i + 1) (by omega)
theorem c_fill (l : Launch) (d n : Nat) (hn : n < 2 ^ 31) (f : Nat → Int32) (v : Int32) : am_Con l yJ7_fill_53178 cJ7_fill_53178 4 none 1 [.ref 0, .int v] [.inl (0, n, .inl f)] (fun r w => r = none ∧ w = [.inl (0, n, .inl (jfill n f v))]) := by
  refine am_met (own := RJ7) (cd := am_cdT' tJ7_fill_53178) (rf := am_rfL []) (ini := false) (by decide +kernel) rfl (by decide) dJ7_fill_53178 am_rf0 (Nat.le_of_ble_eq_true rfl) ?_
  intro V hV
  show V [.inl (0, n, .inl f)] 0 [(0, .ref 0), (1, .int v)] []
  refine hV.run 5 [] (ws' := [.inl (0, n, .inl f)]) (pc' := 5) (ls' := [(3, .int (Int32.ofNat n)), (2, .int 0), (0, .ref 0), (1, .int v)]) (st' := []) (ps := []) rfl trivial ?_
  refine hV.pick [2, 3, 1, 0] (ls' := [(0, .ref 0), (1, .int v), (2, .int 0), (3, .int (Int32.ofNat n))]) rfl ?_
  have e : f = jfill 0 f v := by funext j; simp [jfill]
  rw [e]
  have := p_fill hV hn f v ⟨rfl, rfl⟩ n 0 (by omega)
  rw [nI_0] at this
  exact this
