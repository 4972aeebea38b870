/-! HALL: a callee's cells that lie in three pieces of the caller's (12, the current script's 8, m3 more) -/
theorem am_zipA {α β : Type} : ∀ (A R : List α) (es : List β), (A ++ R).zip es = A.zip (es.take A.length) ++ R.zip (es.drop A.length) := by
  intro A
  induction A with
  | nil => intro R es; simp
  | cons a A ih =>
    intro R es
    cases es with
    | nil => simp
    | cons e es => simp [ih]
theorem am_sets_app (a b : List (Nat × am_E)) : ∀ ws : am_W, am_sets ws (a ++ b) = am_sets (am_sets ws a) b := by
  induction a with
  | nil => intro ws; rfl
  | cons q a ih => intro ws; exact ih _
def am_seg (ws : am_W) (o : Nat) (es : List am_E) : am_W := ws.take o ++ (es ++ ws.drop (o + es.length))
theorem am_seg_len {ws : am_W} {o : Nat} {es : List am_E} (h : o + es.length ≤ ws.length) : (am_seg ws o es).length = ws.length := by
  unfold am_seg
  simp only [List.length_append, List.length_take, List.length_drop]
  omega
theorem am_sets_seg : ∀ (n o : Nat) (es : List am_E) (ws : am_W), es.length = n → o + n ≤ ws.length → am_sets ws ((List.range' o n).zip es) = am_seg ws o es := by
  intro n
  induction n with
  | zero =>
    intro o es ws h1 h2
    have : es = [] := List.length_eq_zero_iff.mp h1
    subst this
    simp [am_sets, am_seg]
  | succ n ih =>
    intro o es ws h1 h2
    cases es with
    | nil => cases h1
    | cons e es =>
      rw [List.range'_succ, List.zip_cons_cons, am_sets, ih (o + 1) es (ws.set o e) (by simpa using h1) (by rw [List.length_set]; omega)]
      have hl : es.length = n := by simpa using h1
      have t1 : (ws.set o e).take (o + 1) = ws.take o ++ [e] := by
        apply List.ext_getElem?
        intro k
        have hlt : (ws.take o).length = o := by rw [List.length_take]; omega
        by_cases k1 : k < o
        · rw [List.getElem?_take, if_pos (by omega), List.getElem?_set_ne (by omega), List.getElem?_append_left (by omega), List.getElem?_take, if_pos k1]
        · rw [List.getElem?_append_right (by omega), hlt]
          by_cases k2 : k = o
          · subst k2
            rw [List.getElem?_take, if_pos (by omega), List.getElem?_set_self (by omega), Nat.sub_self]
            rfl
          · rw [List.getElem?_take, if_neg (by omega), List.getElem?_eq_none (by show 1 ≤ k - o; omega)]
      have t2 : (ws.set o e).drop (o + 1 + es.length) = ws.drop (o + 1 + es.length) := by
        apply List.ext_getElem?
        intro j
        rw [List.getElem?_drop, List.getElem?_drop, List.getElem?_set_ne (by omega)]
      unfold am_seg
      rw [t1, t2, List.append_assoc]
      show _ = ws.take o ++ (e :: (es ++ ws.drop (o + (es.length + 1))))
      rw [show o + (es.length + 1) = o + 1 + es.length by omega]
      rfl
def am_gj (o1 m3 sx : Nat) : List Nat := List.range' o1 12 ++ (List.range' 18 8 ++ (List.range' (o1 + 12) m3 ++ [sx]))
def am_gl (ws : am_W) (o1 m3 sx : Nat) (w : am_W) : am_W := am_seg (am_seg (am_seg ws o1 ((w.map (am_re (am_gj o1 m3 sx))).take 12)) 18 (((w.map (am_re (am_gj o1 m3 sx))).drop 12).take 8)) (o1 + 12) (((w.map (am_re (am_gj o1 m3 sx))).drop 12).drop 8)
theorem am_gl_ok {ws w : am_W} {o1 m3 sx : Nat} (hw : w.length = 20 + m3) (h1 : 26 ≤ o1) (h2 : o1 + 12 + m3 ≤ ws.length) : am_putb ws (am_gj o1 m3 sx) w = am_gl ws o1 m3 sx w := by
  unfold am_putb am_zip am_gl
  obtain ⟨es, hes⟩ : ∃ es, w.map (am_re (am_gj o1 m3 sx)) = es := ⟨_, rfl⟩
  have hl : es.length = 20 + m3 := by rw [← hes, List.length_map]; exact hw
  rw [hes]
  unfold am_gj
  rw [am_zipA, am_zipA, am_zipA, List.length_range', List.length_range', List.length_range']
  have e4 : ([sx] : List Nat).zip ((((es.drop 12).drop 8)).drop m3) = [] := by
    have : (((es.drop 12).drop 8).drop m3) = [] := by
      apply List.drop_eq_nil_of_le
      simp only [List.length_drop]
      omega
    rw [this]; rfl
  have e5 : ((es.drop 12).drop 8).take m3 = (es.drop 12).drop 8 := List.take_of_length_le (by simp only [List.length_drop]; omega)
  rw [e4, e5, List.append_nil, am_sets_app, am_sets_app]
  have l1 : (es.take 12).length = 12 := by rw [List.length_take]; omega
  have l2 : ((es.drop 12).take 8).length = 8 := by rw [List.length_take, List.length_drop]; omega
  have l3 : ((es.drop 12).drop 8).length = m3 := by rw [List.length_drop, List.length_drop]; omega
  rw [am_sets_seg 12 o1 _ ws l1 (by omega)]
  have g1 : (am_seg ws o1 (es.take 12)).length = ws.length := am_seg_len (by omega)
  rw [am_sets_seg 8 18 _ _ l2 (by omega)]
  have g2 : (am_seg (am_seg ws o1 (es.take 12)) 18 ((es.drop 12).take 8)).length = ws.length := by rw [am_seg_len (by omega), g1]
  rw [am_sets_seg m3 (o1 + 12) _ _ l3 (by omega)]
theorem am_rget {ws : am_W} : ∀ (n o : Nat), o + n ≤ ws.length → (List.range' o n).map (fun j => ws[j]?) = ((ws.drop o).take n).map some := by
  intro n o h
  apply List.ext_getElem?
  intro k
  rw [List.getElem?_map, List.getElem?_map]
  by_cases hk : k < n
  · rw [List.getElem?_range' hk, List.getElem?_take, if_pos hk, List.getElem?_drop, Nat.one_mul, List.getElem?_eq_getElem (by omega)]
    simp
  · rw [List.getElem?_eq_none (by rw [List.length_range']; omega), List.getElem?_eq_none (by rw [List.length_take]; omega)]
    rfl
theorem am_gtake {o1 m3 sx : Nat} : (am_gj o1 m3 sx).take (20 + m3) = List.range' o1 12 ++ (List.range' 18 8 ++ List.range' (o1 + 12) m3) := by
  unfold am_gj
  rw [← List.append_assoc, ← List.append_assoc, List.take_left' (by simp only [List.length_append, List.length_range']), List.append_assoc]
theorem am_ghjs {ws wc : am_W} {o1 m3 sx : Nat} (hw : wc.length = 20 + m3) (h1 : 26 ≤ o1) (h2 : o1 + 12 + m3 ≤ ws.length) (h : (ws.drop o1).take 12 ++ ((ws.drop 18).take 8 ++ (ws.drop (o1 + 12)).take m3) = wc.map (am_re (am_gj o1 m3 sx))) : ((am_gj o1 m3 sx).take wc.length).map (fun j => ws[j]?) = wc.map (fun x => some (am_re (am_gj o1 m3 sx) x)) := by
  rw [hw, am_gtake, List.map_append, List.map_append, am_rget 12 o1 (by omega), am_rget 8 18 (by omega), am_rget m3 (o1 + 12) (by omega), ← List.map_append, ← List.map_append, h, List.map_map]
  rfl
section AMG
variable {l : Launch} {own : String} {ini : Bool} {d n0 : Nat} {cd : am_cdT} {rf : am_rfT} {ret : Option FieldType} {Post : Option Value → am_W → Prop} {V : am_VT}
theorem am_B.cGi (h : am_B l own ini d cd rf ret Post n0 V) (o1 m3 sx : Nat) {as rest st : List Value} {ws2 ws wc w' : am_W} {pc2 pc idx ln maxL n d' ci N : Nat} {T : u_T} {tg : List Nat} {y : MethodName} {bytes : ByteArray} {ret' : Option FieldType} {ls : am_L} {v : Int32} {fs : List Value} (hk : am_lk own idx 1 y bytes maxL ret' n) (hC : am_Con l y bytes maxL ret' d' (.ref 0 :: as) wc (fun r w => r = some (.int v) ∧ w = w')) (hc : cd pc = some (.invokevirtual idx, ln, tg)) (hm : Nat.ble maxL 41 = true) (hd : Nat.ble (d' + 1) d = true) (hn : as.length = n) (hwl : wc.length = 20 + m3) (hg : (Nat.ble 26 o1 && Nat.ble (o1 + 12 + m3) ws.length) = true) (hnd : va_nd ((am_gj o1 m3 sx).take (20 + m3)) = true) (hjs : (ws.drop o1).take 12 ++ ((ws.drop 18).take 8 ++ (ws.drop (o1 + 12)).take m3) = wc.map (am_re (am_gj o1 m3 sx))) (hW : Nat.ble (rest.map fun v => v.category).sum 8 = true) (hr0 : wc[0]? = some (.inr (ci, fs))) (hcl : vwCl[ci]? = some (y.cls, T, N)) (e0 : (as.map (am_rv (am_gj o1 m3 sx))).reverse ++ .ref ((am_gj o1 m3 sx).getD 0 0) :: rest = st) (hwl2 : w'.length = 20 + m3) (e1 : am_gl ws o1 m3 sx w' = ws2) (e2 : pc + 3 = pc2) (kk : V ws2 pc2 ls (.int v :: rest)) : V ws pc ls st := by
  obtain ⟨g1, g2⟩ := (Bool.and_eq_true _ _).mp hg
  have g1 := Nat.le_of_ble_eq_true g1
  have g2 := Nat.le_of_ble_eq_true g2
  exact h.cVi hk hC hc hm hd hn (am_ghjs hwl g1 g2 hjs) (by rw [hwl]; exact hnd) hW hr0 hcl e0 ((am_gl_ok hwl2 g1 g2).trans e1) e2 kk
theorem am_B.cGv (h : am_B l own ini d cd rf ret Post n0 V) (o1 m3 sx : Nat) {as rest st : List Value} {ws2 ws wc w' : am_W} {pc2 pc idx ln maxL n d' ci N : Nat} {T : u_T} {tg : List Nat} {y : MethodName} {bytes : ByteArray} {ret' : Option FieldType} {ls : am_L} {fs : List Value} (hk : am_lk own idx 1 y bytes maxL ret' n) (hC : am_Con l y bytes maxL ret' d' (.ref 0 :: as) wc (fun r w => r = none ∧ w = w')) (hc : cd pc = some (.invokevirtual idx, ln, tg)) (hm : Nat.ble maxL 41 = true) (hd : Nat.ble (d' + 1) d = true) (hn : as.length = n) (hwl : wc.length = 20 + m3) (hg : (Nat.ble 26 o1 && Nat.ble (o1 + 12 + m3) ws.length) = true) (hnd : va_nd ((am_gj o1 m3 sx).take (20 + m3)) = true) (hjs : (ws.drop o1).take 12 ++ ((ws.drop 18).take 8 ++ (ws.drop (o1 + 12)).take m3) = wc.map (am_re (am_gj o1 m3 sx))) (hW : Nat.ble (rest.map fun v => v.category).sum 8 = true) (hr0 : wc[0]? = some (.inr (ci, fs))) (hcl : vwCl[ci]? = some (y.cls, T, N)) (e0 : (as.map (am_rv (am_gj o1 m3 sx))).reverse ++ .ref ((am_gj o1 m3 sx).getD 0 0) :: rest = st) (hwl2 : w'.length = 20 + m3) (e1 : am_gl ws o1 m3 sx w' = ws2) (e2 : pc + 3 = pc2) (kk : V ws2 pc2 ls rest) : V ws pc ls st := by
  obtain ⟨g1, g2⟩ := (Bool.and_eq_true _ _).mp hg
  have g1 := Nat.le_of_ble_eq_true g1
  have g2 := Nat.le_of_ble_eq_true g2
  exact h.cVv hk hC hc hm hd hn (am_ghjs hwl g1 g2 hjs) (by rw [hwl]; exact hnd) hW hr0 hcl e0 ((am_gl_ok hwl2 g1 g2).trans e1) e2 kk
end AMG
theorem am_gnd0 (sx : Nat) : va_nd ((am_gj 26 8 sx).take (20 + 8)) = true := rfl
theorem am_gnd1 (sx : Nat) : va_nd ((am_gj 46 2 sx).take (20 + 2)) = true := rfl
theorem am_gnd2 (sx : Nat) : va_nd ((am_gj 60 2 sx).take (20 + 2)) = true := rfl
abbrev am_sg {α : Type} (f : Nat → α) (o1 : Nat) : Nat → α := fun k => match Nat.ble 12 k with
  | false => f (o1 + k)
  | true => (match Nat.ble 20 k with
    | false => f (k + 6)
    | true => f (o1 + k - 8))
abbrev am_pg {α : Type} (f : Nat → α) (o1 m3 : Nat) (g : Nat → α) : Nat → α := fun k => match Nat.ble 18 k with
  | false => f k
  | true => (match Nat.ble 26 k with
    | false => g (k - 6)
    | true => (match Nat.ble o1 k with
      | false => f k
      | true => (match Nat.ble (o1 + 12) k with
        | false => g (k - o1)
        | true => (match Nat.ble (o1 + 12 + m3) k with
          | true => f k
          | false => g (k - o1 + 8)))))
abbrev updN (f : Nat → Nat) (c : Nat) (v : Nat) : Nat → Nat := fun k => match Nat.beq k c with
  | true => v
  | false => f k
