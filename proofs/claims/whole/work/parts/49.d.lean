/-! THE LAW'S WORLD: the Hall's cells, the long that helpers lay down, the model's -/
def wL (p c : Nat) (χ : Nat → Nat) (σ : am_M) (τ : Nat → Int64) (o : Nat → Int64) (ρ : am_M) : am_W := (wX7 p c χ σ τ ++ [.inl (2, 1, .inr (.inl o))]) ++ (wX8 ρ).map (am_re (List.range' 75 36))
def jI : List Nat := List.range' 0 75 ++ List.range' 75 125
theorem jI_eq : jI = List.range' 0 200 := by decide +kernel
theorem jI_get {k : Nat} (h : k < 200) : jI.getD k 0 = k := by
  rw [jI_eq, List.getD_eq_getElem?_getD, List.getElem?_range' h]
  simp
theorem jI_v {v : Value} (h : am_clo 200 v = true) : am_rv jI v = v := by
  cases v <;> try rfl
  rename_i k
  have hk : k < 200 := by simpa [am_clo, Nat.blt_eq] using h
  show Value.ref (jI.getD k 0) = Value.ref k
  rw [jI_get hk]
theorem jI_re {e : am_E} (h : am_clE 200 e = true) : am_re jI e = e := by
  cases e with
  | inl a => rfl
  | inr o =>
    obtain ⟨ci, fs⟩ := o
    show Sum.inr (ci, fs.map (am_rv jI)) = Sum.inr (ci, fs)
    have e1 : fs.map (am_rv jI) = fs := (List.map_congr_left (f := am_rv jI) (g := id) (fun v hv => jI_v (List.all_eq_true.mp h v hv))).trans (List.map_id fs)
    rw [e1]
theorem jI_w {w : am_W} (h : w.all (am_clE 200) = true) : w.map (am_re jI) = w :=
  (List.map_congr_left (f := am_re jI) (g := id) (fun e he => jI_re (List.all_eq_true.mp h e he))).trans (List.map_id w)
theorem jI_pre {wc tl : am_W} (hl : wc.length = 75) (hc : wc.all (am_clE 200) = true) : (jI.take wc.length).map (fun j => (wc ++ tl)[j]?) = wc.map (fun x => some (am_re jI x)) := by
  refine am_hjs (o := 0) (m := 75) (ex := List.range' 75 125) hl ?_
  rw [List.drop_zero, List.take_left' hl]
  exact (jI_w hc).symm
theorem jI_nd {wc : am_W} (hl : wc.length = 75) : va_nd (jI.take wc.length) = true := by
  rw [hl]
  unfold jI
  rw [List.take_left' (by rw [List.length_range'])]
  exact am_nd_range 75 0
theorem jI_put {wc w tl : am_W} (hl : wc.length = 75) (hl2 : w.length = 75) (hc : w.all (am_clE 200) = true) : am_putb (wc ++ tl) jI w = w ++ tl := by
  have h1 := am_blk_ok (ws := wc ++ tl) (w := w) (o := 0) (m := 75) (ex := List.range' 75 125) hl2 (by rw [List.length_append]; omega)
  rw [show jI = List.range' 0 75 ++ List.range' 75 125 from rfl, h1]
  unfold am_blk
  rw [show w.map (am_re (List.range' 0 75 ++ List.range' 75 125)) = w from jI_w hc, List.take_zero, List.nil_append, hl2, Nat.zero_add, List.drop_left' hl]
def wO (o : Nat → Int64) : am_E := .inl (2, 1, .inr (.inl o))
theorem wX7_len {p c : Nat} {χ : Nat → Nat} {σ : am_M} {τ : Nat → Int64} : (wX7 p c χ σ τ).length = 74 := rfl
theorem wX8_len {ρ : am_M} : (wX8 ρ).length = 36 := rfl
theorem wXO_len {p c : Nat} {χ : Nat → Nat} {σ : am_M} {τ o : Nat → Int64} : (wX7 p c χ σ τ ++ [wO o]).length = 75 := by rw [List.length_append, wX7_len]; rfl
theorem wXO_cl {p c : Nat} {χ : Nat → Nat} {σ : am_M} {τ o : Nat → Int64} (hp : p < 200) (hc : c < 200) (h : am_chi χ) : (wX7 p c χ σ τ ++ [wO o]).all (am_clE 200) = true := by
  rw [List.all_append, wX7_cl hp hc h]
  rfl
def am_chib (χ : Nat → Nat) : Bool := Nat.blt (χ 27) 200 && (Nat.blt (χ 47) 200 && Nat.blt (χ 61) 200)
theorem am_chib_ok {χ : Nat → Nat} (h : am_chib χ = true) : am_chi χ := by
  unfold am_chib at h
  obtain ⟨h1, h2⟩ := (Bool.and_eq_true _ _).mp h
  obtain ⟨h2, h3⟩ := (Bool.and_eq_true _ _).mp h2
  exact ⟨Nat.le_of_ble_eq_true h1, Nat.le_of_ble_eq_true h2, Nat.le_of_ble_eq_true h3⟩
/-- behind a text that was read: the two blocks under each other's numbers -/
abbrev swn (k : Nat) : Nat := match Nat.ble 7 k with
  | false => k
  | true => (match Nat.ble 15 k with
    | false => k + 11
    | true => (match Nat.ble 18 k with
      | false => k
      | true => (match Nat.ble 26 k with
        | false => k - 11
        | true => k)))
abbrev swS (σ : am_M) : am_M := fun k => σ (swn k)
abbrev chi0 : Nat → Nat := fun k => match Nat.beq k 27 with
  | true => 111
  | false => (match Nat.beq k 47 with
    | true => 112
    | false => 113)
theorem chi0_ok : am_chi chi0 := ⟨by decide, by decide, by decide⟩
def tS (x : Option Int32) (σ : am_M) : am_M := if am_fp x = 18 then swS σ else σ
def tC (x : Option Int32) (χ : Nat → Nat) : Nat → Nat := if am_fp x = 18 then chi0 else χ
theorem tC_ok {x : Option Int32} {χ : Nat → Nat} (h : am_chi χ) : am_chi (tC x χ) := by
  unfold tC
  split
  · exact chi0_ok
  · exact h
def jF (χ : Nat → Nat) : List Nat := (List.range' 0 7 ++ (List.range' 18 8 ++ (List.range' 15 3 ++ (List.range' 7 8 ++ List.range' 26 85)))) ++ [χ 27, χ 47, χ 61]
set_option maxRecDepth 100000 in
theorem jF_nd (χ : Nat → Nat) : va_nd ((jF χ).take 111) = true := rfl
set_option maxRecDepth 100000 in
set_option maxHeartbeats 4000000 in
theorem jF_js (χ : Nat → Nat) (σ : am_M) (τ o : Nat → Int64) (ρ : am_M) : ((jF χ).take (wL 7 18 chi0 (swS σ) τ o ρ).length).map (fun j => (wL 18 7 χ σ τ o ρ)[j]?) = (wL 7 18 chi0 (swS σ) τ o ρ).map (fun x => some (am_re (jF χ) x)) := rfl
section AMBL
variable {l : Launch} {cd : am_cdT} {L : Nat} {xs : Nat → Int32} {V : Nat → Nat → am_VT}
theorem am_BL.run (h : am_BL l cd L xs V) {c s : Nat} : ∀ (n : Nat) (ds : List Nat) {ws ws' : am_W} {pc pc' : Nat} {ls ls' : am_L} {st st' : List Value} {ps : List Prop}, am_run false cd (am_rfL []) n ds ws pc ls st = some (ws', pc', ls', st', ps) → am_all ps → V c s ws' pc' ls' st' → V c s ws pc ls st := by
  intro n
  induction n with
  | zero => intro ds ws ws' pc pc' ls ls' st st' ps hr _ hV; cases hr; exact hV
  | succ n ih =>
    intro ds ws ws' pc pc' ls ls' st st' ps hr hp hV
    unfold am_run at hr
    split at hr
    · cases hr
    · rename_i ins ln tg hc
      split at hr
      · cases hr
      · rename_i ws1 pc1 ls1 st1 ps1 ds1 hx
        split at hr
        · cases hr
        · rename_i w2 p2 l2 s2 ps2 hr2
          cases hr
          obtain ⟨hp1, hp2⟩ := am_all_app hp
          exact h.1 _ _ _ _ _ _ _ _ _ _ _ _ _ _ _ _ hc hx hp1 (ih _ hr2 hp2 hV)
theorem am_BL.sl (h : am_BL l cd L xs V) {c s : Nat} {ws : am_W} {pc ln : Nat} {ls : am_L} {st : List Value} {tg : List Nat} (hc : cd pc = some (.arraylength, ln, tg)) (kk : V c s ws (pc + 1) ls (.int (Int32.ofNat L) :: st)) : V c s ws pc ls (.retAddr 99 :: st) := h.2.1 _ _ _ _ _ _ _ _ hc kk
theorem am_BL.sd (h : am_BL l cd L xs V) {c s : Nat} {ws : am_W} {pc pc2 ln : Nat} {ls : am_L} {st : List Value} {i : Int32} {tg : List Nat} (hin : ¬ (i < 0 ∨ L ≤ i.toNatClampNeg)) (hc : cd pc = some (.iaload, ln, tg)) (e2 : pc + 1 = pc2) (kk : V c s ws pc2 ls (.int (xs i.toNatClampNeg) :: st)) : V c s ws pc ls (.int i :: .retAddr 99 :: st) := by
  subst e2
  exact h.2.2.1 _ _ _ _ _ _ _ _ _ hc hin kk
theorem am_BL.cH0 (h : am_BL l cd L xs V) {as rest : List Value} {wc w1 tl : am_W} {fs : List Value} {v : Int32} {c s pc idx ln maxL n d' : Nat} {tg : List Nat} {y : MethodName} {bytes : ByteArray} {ret' : Option FieldType} {ls : am_L} (hl1 : wc.length = 74) (hc1 : wc.all (am_clE 200) = true) (hl2 : w1.length = 74) (hc2 : w1.all (am_clE 200) = true) (hr0 : wc[0]? = some (.inr (7, fs))) (hk : am_lk RL idx 1 y bytes maxL ret' n) (h6 : Cond.methodLink RL idx y ∈ gW) (hC : am_Con l y bytes maxL ret' d' (.ref 0 :: as) wc (fun r w => r = some (.int v) ∧ w = w1)) (hcls : y.cls = RX7) (hc : cd pc = some (.invokevirtual idx, ln, tg)) (hm : Nat.ble maxL 41 = true) (hd : Nat.ble d' 1300 = true) (hcs : c ≤ room_1.cells ∧ s ≤ room_1.slots) (hn : as.length = n) (has : as.map (am_rv jH) = as) (hW : Nat.ble (rest.map fun v => v.category).sum 8 = true) (kk : V c s (w1 ++ tl) (pc + 3) ls (.int v :: rest)) : V c s (wc ++ tl) pc ls (as.reverse ++ .ref 0 :: rest) := by
  have e1 : (as.map (am_rv jH)).reverse ++ .ref (jH.getD 0 0) :: rest = as.reverse ++ .ref 0 :: rest := by rw [has, jH_get (by decide)]
  rw [← e1]
  refine h.2.2.2.1 _ _ _ _ _ _ _ _ _ _ _ _ 0 7 fs TX7 12 _ jH wc _ _ _ _ hc hk h6 (Nat.le_of_ble_eq_true hm) (Nat.le_of_ble_eq_true hd) hcs hC hn (jH_pre hl1 hc1) (jH_nd hl1) (Nat.le_of_ble_eq_true hW) hr0 (by rw [hcls]; rfl) ?_
  rintro r w ⟨rfl, rfl⟩ _
  rw [jH_put hl1 hl2 hc2]
  exact kk
theorem am_BL.cH (h : am_BL l cd L xs V) {as rest st : List Value} {χ χ' : Nat → Nat} {σ σ' ρ : am_M} {τ τ' o : Nat → Int64} {v : Int32} {c s pc pc2 idx ln maxL n d' : Nat} {tg : List Nat} {y : MethodName} {bytes : ByteArray} {ret' : Option FieldType} {ls : am_L} (hk : am_lk RL idx 1 y bytes maxL ret' n) (h6 : Cond.methodLink RL idx y ∈ gW) (hC : am_Con l y bytes maxL ret' d' (.ref 0 :: as) (wX7 7 18 χ σ τ) (fun r w => r = some (.int v) ∧ w = wX7 7 18 χ' σ' τ')) (hcls : y.cls = RX7) (hc : cd pc = some (.invokevirtual idx, ln, tg)) (hm : Nat.ble maxL 41 = true) (hd : Nat.ble d' 1300 = true) (hcs : c ≤ room_1.cells ∧ s ≤ room_1.slots) (hn : as.length = n) (hχ : am_chi χ) (hχ' : am_chi χ') (has : as.map (am_rv jH) = as) (hW : Nat.ble (rest.map fun v => v.category).sum 8 = true) (e0 : as.reverse ++ .ref 0 :: rest = st) (e2 : pc + 3 = pc2) (kk : V c s (wL 7 18 χ' σ' τ' o ρ) pc2 ls (.int v :: rest)) : V c s (wL 7 18 χ σ τ o ρ) pc ls st := by
  subst e0 e2
  unfold wL at kk ⊢
  rw [List.append_assoc] at kk ⊢
  exact h.cH0 wX7_len (wX7_cl (by decide) (by decide) hχ) wX7_len (wX7_cl (by decide) (by decide) hχ') rfl hk h6 hC hcls hc hm hd hcs hn has hW kk
theorem am_BL.cM0 (h : am_BL l cd L xs V) {as rest : List Value} {wc w1 A : am_W} {fs : List Value} {v : Int32} {c s pc idx ln maxL n d' : Nat} {tg : List Nat} {y : MethodName} {bytes : ByteArray} {ret' : Option FieldType} {ls : am_L} (hA : A.length = 75) (hl1 : wc.length = 36) (hl2 : w1.length = 36) (hr0 : wc[0]? = some (.inr (8, fs))) (hk : am_lk RL idx 1 y bytes maxL ret' n) (h6 : Cond.methodLink RL idx y ∈ gW) (hC : am_Con l y bytes maxL ret' d' (.ref 0 :: as) wc (fun r w => r = some (.int v) ∧ w = w1)) (hcls : y.cls = RX8) (hc : cd pc = some (.invokevirtual idx, ln, tg)) (hm : Nat.ble maxL 41 = true) (hd : Nat.ble d' 1300 = true) (hcs : c ≤ room_1.cells ∧ s ≤ room_1.slots) (hn : as.length = n) (has : as.map (am_rv (List.range' 75 36 ++ [])) = as) (hW : Nat.ble (rest.map fun v => v.category).sum 8 = true) (kk : V c s (A ++ w1.map (am_re (List.range' 75 36))) (pc + 3) ls (.int v :: rest)) : V c s (A ++ wc.map (am_re (List.range' 75 36))) pc ls (as.reverse ++ .ref 75 :: rest) := by
  have e1 : (as.map (am_rv (List.range' 75 36 ++ []))).reverse ++ .ref ((List.range' 75 36 ++ []).getD 0 0) :: rest = as.reverse ++ .ref 75 :: rest := by rw [has]; rfl
  rw [← e1]
  have hM : (wc.map (am_re (List.range' 75 36))).length = 36 := by rw [List.length_map]; exact hl1
  have hjs : ((A ++ wc.map (am_re (List.range' 75 36))).drop 75).take 36 = wc.map (am_re (List.range' 75 36 ++ [])) := by
    rw [List.drop_left' hA, List.append_nil]
    exact List.take_of_length_le (by rw [hM]; exact Nat.le_refl 36)
  have htk : (List.range' 75 36 ++ ([] : List Nat)).take wc.length = List.range' 75 36 := by
    rw [List.append_nil, hl1]
    exact List.take_of_length_le (by rw [List.length_range']; exact Nat.le_refl 36)
  refine h.2.2.2.1 _ _ _ _ _ _ _ _ _ _ _ _ 0 8 fs TX8 70 _ (List.range' 75 36 ++ []) wc _ _ _ _ hc hk h6 (Nat.le_of_ble_eq_true hm) (Nat.le_of_ble_eq_true hd) hcs hC hn (am_hjs (o := 75) (m := 36) (ex := []) hl1 hjs) (by rw [htk]; exact am_nd_range 36 75) (Nat.le_of_ble_eq_true hW) hr0 (by rw [hcls]; rfl) ?_
  rintro r w ⟨rfl, rfl⟩ _
  have h9 := am_blk_ok (ws := A ++ wc.map (am_re (List.range' 75 36))) (w := w) (o := 75) (m := 36) (ex := []) hl2 (by rw [List.length_append, hA, hM]; exact Nat.le_refl 111)
  rw [h9]
  have h10 : am_blk (A ++ wc.map (am_re (List.range' 75 36))) 75 (List.range' 75 36 ++ []) w = A ++ w.map (am_re (List.range' 75 36)) := by
    unfold am_blk
    rw [List.take_left' hA, List.append_nil, hl2, List.drop_of_length_le (by rw [List.length_append, hA, hM]; exact Nat.le_refl 111), List.append_nil]
  rw [h10]
  exact kk
theorem am_BL.cM (h : am_BL l cd L xs V) {as rest st : List Value} {χ : Nat → Nat} {σ ρ ρ' : am_M} {τ o : Nat → Int64} {v : Int32} {p q c s pc pc2 idx ln maxL n d' : Nat} {tg : List Nat} {y : MethodName} {bytes : ByteArray} {ret' : Option FieldType} {ls : am_L} (hk : am_lk RL idx 1 y bytes maxL ret' n) (h6 : Cond.methodLink RL idx y ∈ gW) (hC : am_Con l y bytes maxL ret' d' (.ref 0 :: as) (wX8 ρ) (fun r w => r = some (.int v) ∧ w = wX8 ρ')) (hcls : y.cls = RX8) (hc : cd pc = some (.invokevirtual idx, ln, tg)) (hm : Nat.ble maxL 41 = true) (hd : Nat.ble d' 1300 = true) (hcs : c ≤ room_1.cells ∧ s ≤ room_1.slots) (hn : as.length = n) (has : as.map (am_rv (List.range' 75 36 ++ [])) = as) (hW : Nat.ble (rest.map fun v => v.category).sum 8 = true) (e0 : as.reverse ++ .ref 75 :: rest = st) (e2 : pc + 3 = pc2) (kk : V c s (wL p q χ σ τ o ρ') pc2 ls (.int v :: rest)) : V c s (wL p q χ σ τ o ρ) pc ls st := by
  subst e0 e2
  exact h.cM0 (A := wX7 p q χ σ τ ++ [wO o]) wXO_len wX8_len wX8_len rfl hk h6 hC hcls hc hm hd hcs hn has hW kk
theorem am_BL.cS0 (h : am_BL l cd L xs V) {as rest : List Value} {wc w1 tl : am_W} {v : Int32} {c s pc idx ln maxL n d' : Nat} {tg : List Nat} {y : MethodName} {bytes : ByteArray} {hh : List (Nat × Nat × Nat × Nat)} {ls : am_L} (hl1 : wc.length = 75) (hc1 : wc.all (am_clE 200) = true) (hl2 : w1.length = 75) (hc2 : w1.all (am_clE 200) = true) (hC : am_CnH l y bytes maxL (some .int) hh d' as wc (fun r w => r = some (.int v) ∧ w = w1)) (k1 : Cond.codeWith y bytes maxL (some .int) hh ∈ gW) (k2 : Cond.initialized y.cls ∈ gW) (k3 : Cond.static y ∈ gW) (k4 : Cond.methodLink RL idx y ∈ gW) (k5 : y.cls ≠ "java/lang/invoke/MethodHandle" ∧ y.cls ≠ "java/lang/invoke/VarHandle" ∧ (parseMethodDescriptor y.desc).map (fun d => d.parameters.length) = some n) (hc : cd pc = some (.invokestatic idx, ln, tg)) (hm : Nat.ble maxL 41 = true) (hd : Nat.ble d' 1300 = true) (hcs : c + 1 ≤ room_1.cells ∧ s + 6 ≤ room_1.slots) (hn : as.length = n) (has : as.map (am_rv jI) = as) (hW : Nat.ble (rest.map fun v => v.category).sum 8 = true) (kk : V (c + 1) (s + 6) (w1 ++ tl) (pc + 3) ls (.int v :: rest)) : V c s (wc ++ tl) pc ls (as.reverse ++ rest) := by
  have e1 : (as.map (am_rv jI)).reverse ++ rest = as.reverse ++ rest := by rw [has]
  rw [← e1]
  refine h.2.2.2.2.1 _ _ _ _ _ _ _ _ _ _ _ _ _ jI wc _ _ _ _ hc k1 k2 k3 k4 k5 (Nat.le_of_ble_eq_true hm) (Nat.le_of_ble_eq_true hd) hcs hC hn (jI_pre hl1 hc1) (jI_nd hl1) (Nat.le_of_ble_eq_true hW) ?_
  rintro r w ⟨rfl, rfl⟩ _
  rw [jI_put hl1 hl2 hc2]
  exact kk
theorem am_BL.cS (h : am_BL l cd L xs V) {as rest st : List Value} {χ χ' : Nat → Nat} {σ σ' ρ : am_M} {τ τ' o o' : Nat → Int64} {v : Int32} {p q c s pc pc2 idx ln maxL n d' : Nat} {tg : List Nat} {y : MethodName} {bytes : ByteArray} {hh : List (Nat × Nat × Nat × Nat)} {ls : am_L} (hC : am_CnH l y bytes maxL (some .int) hh d' as (wX7 7 18 χ σ τ ++ [wO o]) (fun r w => r = some (.int v) ∧ w = wX7 p q χ' σ' τ' ++ [wO o'])) (k1 : Cond.codeWith y bytes maxL (some .int) hh ∈ gW) (k2 : Cond.initialized y.cls ∈ gW) (k3 : Cond.static y ∈ gW) (k4 : Cond.methodLink RL idx y ∈ gW) (k5 : y.cls ≠ "java/lang/invoke/MethodHandle" ∧ y.cls ≠ "java/lang/invoke/VarHandle" ∧ (parseMethodDescriptor y.desc).map (fun d => d.parameters.length) = some n) (hc : cd pc = some (.invokestatic idx, ln, tg)) (hm : Nat.ble maxL 41 = true) (hd : Nat.ble d' 1300 = true) (hcs : c + 1 ≤ room_1.cells ∧ s + 6 ≤ room_1.slots) (hn : as.length = n) (hp : p < 200) (hq : q < 200) (hχ : am_chi χ) (hχ' : am_chi χ') (has : as.map (am_rv jI) = as) (hW : Nat.ble (rest.map fun v => v.category).sum 8 = true) (e0 : as.reverse ++ rest = st) (e2 : pc + 3 = pc2) (kk : V (c + 1) (s + 6) (wL p q χ' σ' τ' o' ρ) pc2 ls (.int v :: rest)) : V c s (wL 7 18 χ σ τ o ρ) pc ls st := by
  subst e0 e2
  exact h.cS0 (wc := wX7 7 18 χ σ τ ++ [wO o]) (w1 := wX7 p q χ' σ' τ' ++ [wO o']) wXO_len (wXO_cl (by decide) (by decide) hχ) wXO_len (wXO_cl hp hq hχ') hC k1 k2 k3 k4 k5 hc hm hd hcs hn has hW kk
theorem am_BL.fl (h : am_BL l cd L xs V) (x : Option Int32) {χ : Nat → Nat} {σ ρ : am_M} {τ o : Nat → Int64} {c s pc : Nat} {ls : am_L} {st : List Value} (hls : ls = ls.map (fun q => (q.1, am_rv (jF χ) q.2))) (hst : st = st.map (am_rv (jF χ))) (kk : V c s (wL 7 18 (tC x χ) (tS x σ) τ o ρ) pc ls st) : V c s (wL (am_fp x) (am_fc x) χ σ τ o ρ) pc ls st := by
  have e : (am_fp x = 18 ∧ am_fc x = 7) ∨ (am_fp x = 7 ∧ am_fc x = 18) := by
    cases x with
    | none => exact Or.inr ⟨rfl, rfl⟩
    | some v =>
      by_cases hv : v = 0
      · exact Or.inl ⟨if_pos hv, if_pos hv⟩
      · exact Or.inr ⟨if_neg hv, if_neg hv⟩
  rcases e with ⟨e1, e2⟩ | ⟨e1, e2⟩
  · have a1 : tC x χ = chi0 := if_pos e1
    have a2 : tS x σ = swS σ := if_pos e1
    rw [a1, a2] at kk
    rw [e1, e2]
    exact h.2.2.2.2.2.2.1 _ _ _ _ _ _ _ _ _ (jF χ) (jF_js χ σ τ o ρ) (jF_nd χ) hls hst kk
  · have n1 : ¬ am_fp x = 18 := by rw [e1]; decide
    have a1 : tC x χ = χ := if_neg n1
    have a2 : tS x σ = σ := if_neg n1
    rw [a1, a2] at kk
    rw [e1, e2]
    exact kk
theorem am_BL.kJ (h : am_BL l cd L xs V) (pl : Nat) {c s pc ln idx : Nat} {ws : am_W} {ls : am_L} {st : List Value} {tg : List Nat} {v : Int64} (hc : cd pc = some (.ldc2_w idx, ln, tg)) (hl : lw_tbl[pl]? = some (Cond.constantLong RL idx v)) (g : goodWord (Cond.constantLong RL idx v) = true) (k : V c s ws (pc + 3) ls (.long v :: st)) : V c s ws pc ls st := h.2.2.2.2.2.1 _ _ _ _ _ _ _ _ _ _ hc (gW_in (List.mem_of_getElem? hl) g) k
theorem am_BL.pk (h : am_BL l cd L xs V) (ks : List Nat) {c s : Nat} {ws : am_W} {pc : Nat} {ls ls' : am_L} {st : List Value} (e : am_pick ls ks = ls') (k : V c s ws pc ls' st) : V c s ws pc ls st := h.2.2.2.2.2.2.2.1 _ _ _ _ _ _ _ _ e k
theorem am_BL.rt (h : am_BL l cd L xs V) {c s pc ln : Nat} {ws : am_W} {ls : am_L} {tg : List Nat} (hc : cd pc = some (.ireturn, ln, tg)) (hcs : c ≤ room_1.cells ∧ s ≤ room_1.slots) : V c s ws pc ls [.int 1] := h.2.2.2.2.2.2.2.2.1 _ _ _ _ _ _ _ hc hcs
end AMBL
