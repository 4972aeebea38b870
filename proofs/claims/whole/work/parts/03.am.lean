/-! AN ABSTRACT MACHINE over the kit's worlds: cells by places, refs are places (.ref k), things outside the world are .retAddr k; am_run walks straight stretches by calculation -/
abbrev am_E : Type := (Nat × vp_A) ⊕ (Nat × List Value)
abbrev am_W : Type := List am_E
abbrev am_L : Type := List (Nat × Value)
def am_v (ad ext : Nat → Nat) (v : Value) : Value := match v with
  | .ref k => .ref (ad k)
  | .retAddr k => .ref (ext k)
  | .int x => .int x
  | .long x => .long x
  | .float x => .float x
  | .double x => .double x
  | .null => .null
def am_a (ext : Nat → Nat) (a : vp_A) : vp_A := (a.1, match a.2 with
  | .inl f => .inl f
  | .inr (.inl f) => .inr (.inl f)
  | .inr (.inr (.inl f)) => .inr (.inr (.inl f))
  | .inr (.inr (.inr (.inl f))) => .inr (.inr (.inr (.inl f)))
  | .inr (.inr (.inr (.inr f))) => .inr (.inr (.inr (.inr (fun j => (f j).map ext)))))
def am_e (cA : Nat → ClassId) (ad ext : Nat → Nat) (e : am_E) : va_E := match e with
  | .inl (k, a) => .inl (cA k, am_a ext a)
  | .inr (ci, fs) => .inr (ci, fs.map (am_v ad ext))
def am_w (cA : Nat → ClassId) (ad ext : Nat → Nat) (ws : am_W) : va_W := ws.mapIdx (fun k e => (ad k, am_e cA ad ext e))
theorem am_w_get {cA : Nat → ClassId} {ad ext : Nat → Nat} {ws : am_W} {k : Nat} {e : am_E} (h : ws[k]? = some e) : (am_w cA ad ext ws)[k]? = some (ad k, am_e cA ad ext e) := by
  simp [am_w, List.getElem?_mapIdx, h]
theorem am_w_set {cA : Nat → ClassId} {ad ext : Nat → Nat} {ws : am_W} {k : Nat} {e : am_E} : (am_w cA ad ext ws).set k (ad k, am_e cA ad ext e) = am_w cA ad ext (ws.set k e) := by
  apply List.ext_getElem?
  intro i
  simp only [am_w, List.getElem?_mapIdx, List.getElem?_set, List.length_mapIdx]
  by_cases h : k = i
  · subst h
    by_cases hk : k < ws.length <;> simp [hk]
  · simp [h]
theorem am_v_cat {ad ext : Nat → Nat} (v : Value) : (am_v ad ext v).category = v.category := by cases v <;> rfl
/-- the kinds of arrays -/
def am_tys (cA : Nat → ClassId) : List (ClassId × FieldType) := [(cA 0, .int), (cA 1, .boolean), (cA 2, .long), (cA 3, .object "java/lang/String")]
/-- the words that are good for every callee; those of nest mates -/
def gW : List Cond := lw_tbl.filter goodWord
def am_isN (w : Cond) : Bool := match w with
  | .fieldLinkNest _ _ _ _ _ _ => true
  | .methodLinkNest _ _ _ _ => true
  | _ => false
def gN : List Cond := tables_1.filter am_isN
theorem gW_good : GoodIn gW gW := fun w h => ⟨h, good_of_word (List.mem_filter.mp h).2⟩
theorem gW_in {w : Cond} (h : w ∈ lw_tbl) (g : goodWord w = true) : w ∈ gW := List.mem_filter.mpr ⟨h, g⟩
theorem gN_in {w : Cond} (h : w ∈ tables_1) (g : am_isN w = true) : w ∈ gN := List.mem_filter.mpr ⟨h, g⟩
theorem gN_warm {s U : State} (hW : s.WarmedH U.vm) (h : ∀ w ∈ gN, va_Nw w s) : ∀ w ∈ gN, va_Nw w U := by
  intro w hw
  have h1 := h w hw
  have h2 := (List.mem_filter.mp hw).2
  unfold am_isN at h2
  split at h2
  · exact va_Nw.warmF hW h1
  · exact va_Nw.warmM hW h1
  · cases h2
theorem gN_same {u U : State} (hv : u.vm = U.vm) (h : ∀ w ∈ gN, va_Nw w u) : ∀ w ∈ gN, va_Nw w U := by
  intro w hw
  have h1 := h w hw
  have h2 := (List.mem_filter.mp hw).2
  unfold am_isN at h2
  split at h2
  · exact va_Nw.same rfl hv h1
  · exact va_Nw.same rfl hv h1
  · cases h2
/-- side conditions -/
def am_all : List Prop → Prop
  | [] => True
  | a :: r => a ∧ am_all r
theorem am_all_app {a b : List Prop} (h : am_all (a ++ b)) : am_all a ∧ am_all b := by
  induction a with
  | nil => exact ⟨trivial, h⟩
  | cons x r ih => exact ⟨⟨h.1, (ih h.2).1⟩, (ih h.2).2⟩
def am_get (ls : am_L) (i : Nat) : Option Value := (ls.find? (fun q => q.1 == i)).map (fun q => q.2)
def am_put1 (ls : am_L) (i : Nat) (v : Value) : am_L := (i, v) :: ls.filter (fun q => !(q.1 == i) && !(q.1 + 1 == i && q.2.category == 2))
def am_put2 (ls : am_L) (i : Nat) (v : Value) : am_L := (i, v) :: ls.filter (fun q => !(q.1 == i) && (!(q.1 == i + 1) && !(q.1 + 1 == i && q.2.category == 2)))
def am_vl (ad ext : Nat → Nat) (ls : am_L) : List (Nat × Value) := ls.map (fun q => (q.1, am_v ad ext q.2))
theorem am_get_ok {ad ext : Nat → Nat} {L : Array Slot} {nL : Nat} {ls : am_L} {i : Nat} {v : Value} (h : lv_has L nL (am_vl ad ext ls)) (hg : am_get ls i = some v) : L[i]? = some (.val (am_v ad ext v)) := by
  unfold am_get at hg
  cases hf : ls.find? (fun q => q.1 == i) with
  | none => rw [hf] at hg; cases hg
  | some q =>
    rw [hf] at hg
    cases hg
    have h1 : q.1 = i := by have := List.find?_some hf; simpa using this
    have h2 := h.2.2 (q.1, am_v ad ext q.2) (List.mem_map.mpr ⟨q, List.mem_of_find?_eq_some hf, rfl⟩)
    rw [← h1]
    exact h2
theorem am_put1_ok {ad ext : Nat → Nat} {ls : am_L} {i : Nat} {v : Value} : (i, am_v ad ext v) :: (am_vl ad ext ls).filter (fun q => !(q.1 == i) && !(q.1 + 1 == i && q.2.category == 2)) = am_vl ad ext (am_put1 ls i v) := by
  simp only [am_put1, am_vl, List.map_cons, List.filter_map]
  congr 2
  apply List.filter_congr
  intro q _
  simp [am_v_cat]
theorem am_put2_ok {ad ext : Nat → Nat} {ls : am_L} {i : Nat} {v : Value} : (i, am_v ad ext v) :: (am_vl ad ext ls).filter (fun q => !(q.1 == i) && (!(q.1 == i + 1) && !(q.1 + 1 == i && q.2.category == 2))) = am_vl ad ext (am_put2 ls i v) := by
  simp only [am_put2, am_vl, List.map_cons, List.filter_map]
  congr 2
  apply List.filter_congr
  intro q _
  simp [am_v_cat]
abbrev am_R6 : Type := am_W × Nat × am_L × List Value × List Prop × List Nat
def am_c1 (b : Nat) (cd : Jvm.ClassFile.Cond) (x : Int32) : Prop := match b, cd with
  | 1, .eq => x = 0
  | _, .eq => ¬ x = 0
  | 1, .ne => ¬ x = 0
  | _, .ne => x = 0
  | 1, .lt => x < 0
  | _, .lt => ¬ x < 0
  | 1, .ge => 0 ≤ x
  | _, .ge => ¬ 0 ≤ x
  | 1, .gt => 0 < x
  | _, .gt => ¬ 0 < x
  | 1, .le => x ≤ 0
  | _, .le => ¬ x ≤ 0
def am_c2 (b : Nat) (cd : Jvm.ClassFile.Cond) (x y : Int32) : Prop := match b, cd with
  | 1, .eq => x = y
  | _, .eq => ¬ x = y
  | 1, .ne => ¬ x = y
  | _, .ne => x = y
  | 1, .lt => x < y
  | _, .lt => ¬ x < y
  | 1, .ge => y ≤ x
  | _, .ge => ¬ y ≤ x
  | 1, .gt => y < x
  | _, .gt => ¬ y < x
  | 1, .le => x ≤ y
  | _, .le => ¬ x ≤ y
theorem am_get_ix {ad ext : Nat → Nat} {ls : am_L} {i : Nat} {v : Value} (hg : am_get ls i = some v) : ∃ k : Nat, (am_vl ad ext ls)[k]? = some (i, am_v ad ext v) := by
  unfold am_get at hg
  cases hf : ls.find? (fun q => q.1 == i) with
  | none => rw [hf] at hg; cases hg
  | some q =>
    rw [hf] at hg
    cases hg
    have h1 : q.1 = i := by have := List.find?_some hf; simpa using this
    obtain ⟨k, hk⟩ := List.getElem?_of_mem (List.mem_of_find?_eq_some hf)
    refine ⟨k, ?_⟩
    rw [am_vl, List.getElem?_map, hk, ← h1]
    rfl
theorem am_ab {a b : Prop} (h : ¬ a) (h2 : a) : b := absurd h2 h
theorem am_ba {a b : Prop} (h : a) (h2 : ¬ a) : b := absurd h h2
theorem am_nz {x : Int32} (h : x = 0 ∨ x = 1) : vp_nar .boolean x = x := by
  rcases h with rfl | rfl <;> decide
/-- what a field of a kind may hold: 0 int, 1 boolean, 2 long, 3 a reference -/
def am_fit (t : Nat) (v : Value) : Option (List Prop) := match t, v with
  | 0, .int _ => some []
  | 1, .int x => some [x = 0 ∨ x = 1]
  | 2, .long _ => some []
  | 3, .ref _ => some []
  | 3, .null => some []
  | _, _ => none
def am_ty (t : Nat) (ty : FieldType) : Prop := match t with
  | 0 => ty = .int
  | 1 => ty = .boolean
  | 2 => ty = .long
  | 3 => (∃ n, ty = .object n) ∨ ∃ u, ty = .array u
  | 9 => True
  | _ => False
theorem am_fit_ok {ad ext : Nat → Nat} {t : Nat} {v : Value} {ps : List Prop} {ty : FieldType} (h : am_fit t v = some ps) (hp : am_all ps) (ht : am_ty t ty) : narrow ty (am_v ad ext v) = am_v ad ext v ∧ fits ty (am_v ad ext v) = true := by
  unfold am_fit at h
  split at h
  · cases h; cases ht; exact ⟨rfl, rfl⟩
  · cases h; cases ht
    rcases hp.1 with rfl | rfl
    · exact ⟨show narrow .boolean (.int 0) = .int 0 by decide, show fits .boolean (.int 0) = true by decide⟩
    · exact ⟨show narrow .boolean (.int 1) = .int 1 by decide, show fits .boolean (.int 1) = true by decide⟩
  · cases h; cases ht; exact ⟨rfl, rfl⟩
  · cases h
    rcases ht with ⟨n, rfl⟩ | ⟨u, rfl⟩ <;> exact ⟨rfl, rfl⟩
  · cases h
    rcases ht with ⟨n, rfl⟩ | ⟨u, rfl⟩ <;> exact ⟨rfl, rfl⟩
  · cases h
def am_len (ins : Instr) (ln : Nat) : Nat := match ins with
  | .tableswitch _ _ _ _ => ln
  | .lookupswitch _ _ => ln
  | .bipush _ => 2
  | .sipush _ => 3
  | .iload _ => 2
  | .lload _ => 2
  | .aload _ => 2
  | .istore _ => 2
  | .lstore _ => 2
  | .astore _ => 2
  | .iinc _ _ => 3
  | .goto _ => 3
  | .ifCond _ _ => 3
  | .if_icmp _ _ => 3
  | .getfield _ => 3
  | .getstatic _ => 3
  | .putfield _ => 3
  | .invokevirtual _ => 3
  | .invokestatic _ => 3
  | .invokespecial _ => 3
  | .new _ => 3
  | .newarray _ => 2
  | .anewarray _ => 3
  | .ldc _ => 2
  | .ldc_w _ => 3
  | .ldc2_w _ => 3
  | _ => 1
/-- what a program checks of an instruction: the targets, the locals -/
def am_tg (nL : Nat) (ins : Instr) (pc : Nat) (tg : List Nat) : Bool := match ins with
  | .istore_n k => decide (k.val < nL)
  | .istore i => decide (i < nL)
  | .lstore_n k => decide (k.val + 1 < nL)
  | .lstore i => decide (i + 1 < nL)
  | .astore_n k => decide (k.val < nL)
  | .astore i => decide (i < nL)
  | .iinc i _ => decide (i < nL)
  | .goto off => decide ((pc : Int) + off = ((tg.getD 0 0 : Nat) : Int))
  | .ifCond _ off => decide ((pc : Int) + off = ((tg.getD 0 0 : Nat) : Int))
  | .if_icmp _ off => decide ((pc : Int) + off = ((tg.getD 0 0 : Nat) : Int))
  | .tableswitch dflt _ _ offs => decide ((dflt :: offs.toList).map (fun o => (pc : Int) + o) = tg.map Int.ofNat)
  | .lookupswitch _ ps => decide ((ps.toList.zip (ps.toList.drop 1)).all (fun (a, next) => a.1 < next.1) = true)
  | _ => true
theorem am_tw0 {pc : Nat} {dflt : Int} {os : List Int} {tg : List Nat} (h : (dflt :: os).map (fun o => (pc : Int) + o) = tg.map Int.ofNat) : (pc : Int) + dflt = ((tg.getD 0 0 : Nat) : Int) := by
  cases tg with
  | nil => simp at h
  | cons t r => simp at h; simpa using h.1
theorem am_tw1 {pc k : Nat} {dflt : Int} {os : Array Int} {tg : List Nat} (h : (dflt :: os.toList).map (fun o => (pc : Int) + o) = tg.map Int.ofNat) (hk : k < os.size) : (pc : Int) + os[k] = ((tg.getD (k + 1) 0 : Nat) : Int) := by
  have h1 : ((dflt :: os.toList).map (fun o => (pc : Int) + o))[k + 1]? = some ((pc : Int) + os[k]) := by simp [hk]
  rw [h, List.getElem?_map] at h1
  cases ht : tg[k + 1]? with
  | none => rw [ht] at h1; cases h1
  | some t =>
    rw [ht] at h1
    have h2 := Option.some.inj h1
    simp only [List.getD_eq_getElem?_getD, ht, Option.getD_some]
    exact h2.symm
theorem am_sw {x : Int32} {lo : Int} {k : Nat} {os : Array Int} (h1 : x.toInt = lo + (k : Int)) (h2 : k < os.size) : os[(x.toInt - lo).toNat]? = some os[k] := by
  have h3 : (x.toInt - lo).toNat = k := by omega
  rw [h3]
  exact Array.getElem?_eq_getElem h2
def am_q (o : Option Nat) : Value := match o with
  | some k => .retAddr k
  | none => .null
theorem am_q_ok {ad ext : Nat → Nat} (o : Option Nat) : va_rf (o.map ext) = am_v ad ext (am_q o) := by cases o <;> rfl
abbrev am_cdT : Type := Nat → Option (Instr × Nat × List Nat)
abbrev am_rfT : Type := Nat → Option (Nat × Nat × Nat × Bool)
/-- the code table is the method's -/
def am_cdok (cc : ByteArray) (nL : Nat) (cd : am_cdT) : Prop := ∀ pc ins ln tg, cd pc = some (ins, ln, tg) → decode cc pc = .ok (ins, am_len ins ln) ∧ am_tg nL ins pc tg = true
/-- a field by its index in the pool: class, place, kind, final -/
def am_fl (own : String) (idx ci k t : Nat) (fin : Bool) : Prop := ∃ (C : String) (T : u_T) (N : Nat) (ty : Nat → FieldType), vwCl[ci]? = some (C, T, N) ∧ k < N ∧ (∀ w ∈ u_ws C T N, w ∈ gW) ∧ (∀ j, j < N → parseFieldDescriptor (T j).2.2.1 = some (ty j)) ∧ (∀ a, a < N → ∀ b, b < N → a ≠ b → (T a).2.1 ≠ (T b).2.1) ∧ (T k).2.2.2 = fin ∧ am_ty t (ty k) ∧ (T k).1 = C ∧ (fin = true → t = 9 ∨ (C = own ∧ Cond.fieldLink own idx C (T k).2.1 (T k).2.2.1 ∈ gW)) ∧ (Cond.fieldLink own idx C (T k).2.1 (T k).2.2.1 ∈ gW ∨ ∃ host, Cond.fieldLinkNest own idx C (T k).2.1 (T k).2.2.1 host ∈ gN)
def am_rfok (own : String) (rf : Nat → Option (Nat × Nat × Nat × Bool)) : Prop := ∀ idx ci k t fin, rf idx = some (ci, k, t, fin) → am_fl own idx ci k t fin
/-- a callee, by its index in the pool: kind 0 static, 1 virtual; n parameters -/
def am_lk (own : String) (idx kind : Nat) (y : MethodName) (bytes : ByteArray) (maxL : Nat) (ret : Option FieldType) (n : Nat) : Prop :=
  Cond.code y bytes maxL ret ∈ gW ∧ Cond.initialized y.cls ∈ gW ∧ (y.cls ≠ "java/lang/invoke/MethodHandle" ∧ y.cls ≠ "java/lang/invoke/VarHandle" ∧ (parseMethodDescriptor y.desc).map (fun d => d.parameters.length) = some n) ∧ (Cond.methodLink own idx y ∈ gW ∨ ∃ host, Cond.methodLinkNest own idx y host ∈ gN) ∧ (match kind with
    | 0 => Cond.static y ∈ gW
    | _ => Cond.instanceMethod y ∈ gW ∧ Cond.selects y.cls y y ∈ gW)
