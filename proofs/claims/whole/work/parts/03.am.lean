/-! AN ABSTRACT MACHINE over the kit's worlds: cells by places, refs are places (.ref k), things outside the world are .retAddr k; am_run walks straight stretches by calculation -/
abbrev am_E : Type := (Nat × vp_A) ⊕ (Nat × List Value)
abbrev am_W : Type := List am_E
abbrev am_L : Type := List (Nat × Value)
def am_v (ad ext : Nat → Nat) (v : Value) : Value := match v with
  | .ref k => .ref (ad k)
  | .retAddr k => .ref (ext k)
  | .int x => .int x
  | .long x => .long x
  | .float x => .float x
  | .double x => .double x
  | .null => .null
def am_a (ext : Nat → Nat) (a : vp_A) : vp_A := (a.1, match a.2 with
  | .inl f => .inl f
  | .inr (.inl f) => .inr (.inl f)
  | .inr (.inr (.inl f)) => .inr (.inr (.inl f))
  | .inr (.inr (.inr (.inl f))) => .inr (.inr (.inr (.inl f)))
  | .inr (.inr (.inr (.inr f))) => .inr (.inr (.inr (.inr (fun j => (f j).map ext)))))
def am_e (cA : Nat → ClassId) (ad ext : Nat → Nat) (e : am_E) : va_E := match e with
  | .inl (k, a) => .inl (cA k, am_a ext a)
  | .inr (ci, fs) => .inr (ci, fs.map (am_v ad ext))
def am_w (cA : Nat → ClassId) (ad ext : Nat → Nat) (ws : am_W) : va_W := ws.mapIdx (fun k e => (ad k, am_e cA ad ext e))
theorem am_w_get {cA : Nat → ClassId} {ad ext : Nat → Nat} {ws : am_W} {k : Nat} {e : am_E} (h : ws[k]? = some e) : (am_w cA ad ext ws)[k]? = some (ad k, am_e cA ad ext e) := by
  simp [am_w, List.getElem?_mapIdx, h]
theorem am_w_set {cA : Nat → ClassId} {ad ext : Nat → Nat} {ws : am_W} {k : Nat} {e : am_E} : (am_w cA ad ext ws).set k (ad k, am_e cA ad ext e) = am_w cA ad ext (ws.set k e) := by
  apply List.ext_getElem?
  intro i
  simp only [am_w, List.getElem?_mapIdx, List.getElem?_set, List.length_mapIdx]
  by_cases h : k = i
  · subst h
    by_cases hk : k < ws.length <;> simp [hk]
  · simp [h]
theorem am_v_cat {ad ext : Nat → Nat} (v : Value) : (am_v ad ext v).category = v.category := by cases v <;> rfl
/-- the kinds of arrays -/
def am_tys (cA : Nat → ClassId) : List (ClassId × FieldType) := [(cA 0, .int), (cA 1, .boolean), (cA 2, .long), (cA 3, .object "java/lang/String")]
/-- the words that are good for every callee; those of nest mates -/
def gW : List Cond := lw_tbl.filter goodWord
def am_isN (w : Cond) : Bool := match w with
  | .fieldLinkNest _ _ _ _ _ _ => true
  | .methodLinkNest _ _ _ _ => true
  | _ => false
def gN : List Cond := tables_1.filter am_isN
theorem gW_good : GoodIn gW gW := fun w h => ⟨h, good_of_word (List.mem_filter.mp h).2⟩
theorem gW_in {w : Cond} (h : w ∈ lw_tbl) (g : goodWord w = true) : w ∈ gW := List.mem_filter.mpr ⟨h, g⟩
theorem gN_in {w : Cond} (h : w ∈ tables_1) (g : am_isN w = true) : w ∈ gN := List.mem_filter.mpr ⟨h, g⟩
theorem gN_warm {s U : State} (hW : s.WarmedH U.vm) (h : ∀ w ∈ gN, va_Nw w s) : ∀ w ∈ gN, va_Nw w U := by
  intro w hw
  have h1 := h w hw
  have h2 := (List.mem_filter.mp hw).2
  unfold am_isN at h2
  split at h2
  · exact va_Nw.warmF hW h1
  · exact va_Nw.warmM hW h1
  · cases h2
theorem gN_same {u U : State} (hv : u.vm = U.vm) (h : ∀ w ∈ gN, va_Nw w u) : ∀ w ∈ gN, va_Nw w U := by
  intro w hw
  have h1 := h w hw
  have h2 := (List.mem_filter.mp hw).2
  unfold am_isN at h2
  split at h2
  · exact va_Nw.same rfl hv h1
  · exact va_Nw.same rfl hv h1
  · cases h2
/-- side conditions -/
def am_all : List Prop → Prop
  | [] => True
  | a :: r => a ∧ am_all r
theorem am_all_app {a b : List Prop} (h : am_all (a ++ b)) : am_all a ∧ am_all b := by
  induction a with
  | nil => exact ⟨trivial, h⟩
  | cons x r ih => exact ⟨⟨h.1, (ih h.2).1⟩, (ih h.2).2⟩
def am_get (ls : am_L) (i : Nat) : Option Value := (ls.find? (fun q => q.1 == i)).map (fun q => q.2)
def am_put1 (ls : am_L) (i : Nat) (v : Value) : am_L := (i, v) :: ls.filter (fun q => !(q.1 == i) && !(q.1 + 1 == i && q.2.category == 2))
def am_put2 (ls : am_L) (i : Nat) (v : Value) : am_L := (i, v) :: ls.filter (fun q => !(q.1 == i) && (!(q.1 == i + 1) && !(q.1 + 1 == i && q.2.category == 2)))
def am_vl (ad ext : Nat → Nat) (ls : am_L) : List (Nat × Value) := ls.map (fun q => (q.1, am_v ad ext q.2))
theorem am_get_ok {ad ext : Nat → Nat} {L : Array Slot} {nL : Nat} {ls : am_L} {i : Nat} {v : Value} (h : lv_has L nL (am_vl ad ext ls)) (hg : am_get ls i = some v) : L[i]? = some (.val (am_v ad ext v)) := by
  unfold am_get at hg
  cases hf : ls.find? (fun q => q.1 == i) with
  | none => rw [hf] at hg; cases hg
  | some q =>
    rw [hf] at hg
    cases hg
    have h1 : q.1 = i := by have := List.find?_some hf; simpa using this
    have h2 := h.2.2 (q.1, am_v ad ext q.2) (List.mem_map.mpr ⟨q, List.mem_of_find?_eq_some hf, rfl⟩)
    rw [← h1]
    exact h2
theorem am_put1_ok {ad ext : Nat → Nat} {ls : am_L} {i : Nat} {v : Value} : (i, am_v ad ext v) :: (am_vl ad ext ls).filter (fun q => !(q.1 == i) && !(q.1 + 1 == i && q.2.category == 2)) = am_vl ad ext (am_put1 ls i v) := by
  simp only [am_put1, am_vl, List.map_cons, List.filter_map]
  congr 2
  apply List.filter_congr
  intro q _
  simp [am_v_cat]
theorem am_put2_ok {ad ext : Nat → Nat} {ls : am_L} {i : Nat} {v : Value} : (i, am_v ad ext v) :: (am_vl ad ext ls).filter (fun q => !(q.1 == i) && (!(q.1 == i + 1) && !(q.1 + 1 == i && q.2.category == 2))) = am_vl ad ext (am_put2 ls i v) := by
  simp only [am_put2, am_vl, List.map_cons, List.filter_map]
  congr 2
  apply List.filter_congr
  intro q _
  simp [am_v_cat]
abbrev am_R6 : Type := am_W × Nat × am_L × List Value × List Prop × List Nat
def am_c1 (b : Nat) (cd : Jvm.ClassFile.Cond) (x : Int32) : Prop := match b, cd with
  | 1, .eq => x = 0
  | _, .eq => ¬ x = 0
  | 1, .ne => ¬ x = 0
  | _, .ne => x = 0
  | 1, .lt => x < 0
  | _, .lt => ¬ x < 0
  | 1, .ge => 0 ≤ x
  | _, .ge => ¬ 0 ≤ x
  | 1, .gt => 0 < x
  | _, .gt => ¬ 0 < x
  | 1, .le => x ≤ 0
  | _, .le => ¬ x ≤ 0
def am_c2 (b : Nat) (cd : Jvm.ClassFile.Cond) (x y : Int32) : Prop := match b, cd with
  | 1, .eq => x = y
  | _, .eq => ¬ x = y
  | 1, .ne => ¬ x = y
  | _, .ne => x = y
  | 1, .lt => x < y
  | _, .lt => ¬ x < y
  | 1, .ge => y ≤ x
  | _, .ge => ¬ y ≤ x
  | 1, .gt => y < x
  | _, .gt => ¬ y < x
  | 1, .le => x ≤ y
  | _, .le => ¬ x ≤ y
theorem am_probe : True := trivial
