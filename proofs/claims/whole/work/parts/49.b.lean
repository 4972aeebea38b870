/-! THE LAW'S HELPERS: their contracts -/
def jH : List Nat := List.range' 0 74 ++ List.range' 74 126
theorem jH_eq : jH = List.range' 0 200 := by decide +kernel
theorem jH_get {k : Nat} (h : k < 200) : jH.getD k 0 = k := by
  rw [jH_eq, List.getD_eq_getElem?_getD, List.getElem?_range' h]
  simp
theorem jH_v {v : Value} (h : am_clo 200 v = true) : am_rv jH v = v := by
  cases v <;> try rfl
  rename_i k
  have hk : k < 200 := by simpa [am_clo, Nat.blt_eq] using h
  show Value.ref (jH.getD k 0) = Value.ref k
  rw [jH_get hk]
theorem jH_re {e : am_E} (h : am_clE 200 e = true) : am_re jH e = e := by
  cases e with
  | inl a => rfl
  | inr o =>
    obtain ⟨ci, fs⟩ := o
    show Sum.inr (ci, fs.map (am_rv jH)) = Sum.inr (ci, fs)
    have e1 : fs.map (am_rv jH) = fs := (List.map_congr_left (f := am_rv jH) (g := id) (fun v hv => jH_v (List.all_eq_true.mp h v hv))).trans (List.map_id fs)
    rw [e1]
theorem jH_w {w : am_W} (h : w.all (am_clE 200) = true) : w.map (am_re jH) = w :=
  (List.map_congr_left (f := am_re jH) (g := id) (fun e he => jH_re (List.all_eq_true.mp h e he))).trans (List.map_id w)
theorem jH_pre {wc tl : am_W} (hl : wc.length = 74) (hc : wc.all (am_clE 200) = true) : (jH.take wc.length).map (fun j => (wc ++ tl)[j]?) = wc.map (fun x => some (am_re jH x)) := by
  refine am_hjs (o := 0) (m := 74) (ex := List.range' 74 126) hl ?_
  rw [List.drop_zero, List.take_left' hl]
  exact (jH_w hc).symm
theorem jH_nd {wc : am_W} (hl : wc.length = 74) : va_nd (jH.take wc.length) = true := by
  rw [hl]
  unfold jH
  rw [List.take_left' (by rw [List.length_range'])]
  exact am_nd_range 74 0
theorem jH_put {wc w tl : am_W} (hl : wc.length = 74) (hl2 : w.length = 74) (hc : w.all (am_clE 200) = true) : am_putb (wc ++ tl) jH w = w ++ tl := by
  have h1 := am_blk_ok (ws := wc ++ tl) (w := w) (o := 0) (m := 74) (ex := List.range' 74 126) hl2 (by rw [List.length_append]; omega)
  rw [show jH = List.range' 0 74 ++ List.range' 74 126 from rfl, h1]
  unfold am_blk
  rw [show w.map (am_re (List.range' 0 74 ++ List.range' 74 126)) = w from jH_w hc, List.take_zero, List.nil_append, hl2, Nat.zero_add, List.drop_left' hl]
def am_chi (χ : Nat → Nat) : Prop := χ 27 < 200 ∧ χ 47 < 200 ∧ χ 61 < 200
theorem wX7_cl {p c : Nat} {χ : Nat → Nat} {σ : am_M} {τ : Nat → Int64} (hp : p < 200) (hc : c < 200) (h : am_chi χ) : (wX7 p c χ σ τ).all (am_clE 200) = true := by
  obtain ⟨h1, h2, h3⟩ := h
  simp [wX7, am_clE, am_clo, Nat.blt_eq, hp, hc, h1, h2, h3]
theorem am_fp_lt (x : Option Int32) : am_fp x < 200 := by
  cases x with
  | none => decide
  | some v =>
    show (if v = 0 then 18 else 7) < 200
    split <;> decide
theorem am_fc_lt (x : Option Int32) : am_fc x < 200 := by
  cases x with
  | none => decide
  | some v =>
    show (if v = 0 then 7 else 18) < 200
    split <;> decide
/-- what a helper answers; what it lays down -/
def hR {α : Type} (x : Option α) : Int32 := match x with
  | some _ => 0
  | none => 1
def hO {α : Type} (fv : α → Int32) (o : Nat → Int64) (x : Option α) : Nat → Int64 := match x with
  | some v => vp_updL o (0 : Int32).toNatClampNeg (fv v).toInt64
  | none => o
section AMBH
variable {l : Launch} {own : String} {d : Nat} {cd : am_cdT} {Post : Option Value → am_W → Prop} {hp ct lo hi n0 : Nat} {V V1 : am_VT}
theorem am_BH.run (h : am_BH l own d cd Post hp ct lo hi n0 V V1) : ∀ (n : Nat) (ds : List Nat) {ws ws' : am_W} {pc pc' : Nat} {ls ls' : am_L} {st st' : List Value} {ps : List Prop}, am_run false cd (am_rfL []) n ds ws pc ls st = some (ws', pc', ls', st', ps) → am_all ps → V ws' pc' ls' st' → V ws pc ls st := by
  intro n
  induction n with
  | zero => intro ds ws ws' pc pc' ls ls' st st' ps hr _ hV; cases hr; exact hV
  | succ n ih =>
    intro ds ws ws' pc pc' ls ls' st st' ps hr hp hV
    unfold am_run at hr
    split at hr
    · cases hr
    · rename_i ins ln tg hc
      split at hr
      · cases hr
      · rename_i ws1 pc1 ls1 st1 ps1 ds1 hx
        split at hr
        · cases hr
        · rename_i w2 p2 l2 s2 ps2 hr2
          cases hr
          obtain ⟨hp1, hp2⟩ := am_all_app hp
          exact h.1 _ _ _ _ _ _ _ _ _ _ _ _ _ _ hc hx hp1 (ih _ hr2 hp2 hV)
theorem am_BH.run1 (h : am_BH l own d cd Post hp ct lo hi n0 V V1) : ∀ (n : Nat) (ds : List Nat) {ws ws' : am_W} {pc pc' : Nat} {ls ls' : am_L} {st st' : List Value} {ps : List Prop}, am_run false cd (am_rfL []) n ds ws pc ls st = some (ws', pc', ls', st', ps) → am_all ps → V1 ws' pc' ls' st' → V1 ws pc ls st := by
  intro n
  induction n with
  | zero => intro ds ws ws' pc pc' ls ls' st st' ps hr _ hV; cases hr; exact hV
  | succ n ih =>
    intro ds ws ws' pc pc' ls ls' st st' ps hr hp hV
    unfold am_run at hr
    split at hr
    · cases hr
    · rename_i ins ln tg hc
      split at hr
      · cases hr
      · rename_i ws1 pc1 ls1 st1 ps1 ds1 hx
        split at hr
        · cases hr
        · rename_i w2 p2 l2 s2 ps2 hr2
          cases hr
          obtain ⟨hp1, hp2⟩ := am_all_app hp
          exact h.2.1 _ _ _ _ _ _ _ _ _ _ _ _ _ _ hc hx hp1 (ih _ hr2 hp2 hV)
theorem am_BH.ri (h : am_BH l own d cd Post hp ct lo hi n0 V V1) {ws : am_W} {pc ln : Nat} {ls : am_L} {tg : List Nat} {v : Int32} (hc : cd pc = some (.ireturn, ln, tg)) (hn : ws.length = n0) (hpo : Post (some (.int v)) ws) : V1 ws pc ls [.int v] := h.2.2.2 _ _ _ _ _ _ hc hn hpo
theorem am_BH.call {α : Type} (h : am_BH l own d cd Post hp ct lo hi n0 V V1) (fv : α → Int32) (x : Option α) {as rest st : List Value} {wc w1 tl : am_W} {pc idx ln maxL n d' : Nat} {tg : List Nat} {y : MethodName} {bytes : ByteArray} {ret' : Option FieldType} {ls : am_L} {fs : List Value} {E0 : String} {t0 t1 t2 : Nat × List Nat} {k : Fin 4} {k2 : Nat} (hk : am_lk own idx 1 y bytes maxL ret' n) (h6 : Cond.methodLink own idx y ∈ gW) (hC : am_CnX l y bytes maxL ret' d' (.ref 0 :: as) wc (fun r w => ∃ v, x = some v ∧ r = some (.int (fv v)) ∧ w = w1) (fun w => x = none ∧ w = w1) E0) (hcl : y.cls = RX7) (hc : cd pc = some (.invokevirtual idx, ln, tg)) (hm : Nat.ble maxL 41 = true) (hd : Nat.ble (d' + 1) d = true) (hn : as.length = n) (hl1 : wc.length = 74) (hc1 : wc.all (am_clE 200) = true) (hl2 : w1.length = 74) (hc2 : w1.all (am_clE 200) = true) (has : as.map (am_rv jH) = as) (hW : Nat.ble (rest.map fun v => v.category).sum 8 = true) (hr0 : wc[0]? = some (.inr (7, fs))) (hcov : (Nat.ble lo pc && Nat.ble (pc + 1) hi) = true) (hct : Cond.classLink own ct E0 ∈ gW) (hca : Cond.castable E0 E0 ∈ am_nw) (hhd : cd hp = some (.astore_n k, t0) ∧ cd (hp + 1) = some (.iconst 1, t1) ∧ cd (hp + 2) = some (.ireturn, t2) ∨ cd hp = some (.astore k2, t0) ∧ cd (hp + 2) = some (.iconst 1, t1) ∧ cd (hp + 3) = some (.ireturn, t2)) (hn0 : 74 + tl.length = n0) (e0 : as.reverse ++ .ref 0 :: rest = st)
    (kk : ∀ v, x = some v → V1 (w1 ++ tl) (pc + 3) ls (.int (fv v) :: rest)) (kx : x = none → Post (some (.int 1)) (w1 ++ tl)) : V (wc ++ tl) pc ls st := by
  subst e0
  obtain ⟨g1, g2⟩ := (Bool.and_eq_true _ _).mp hcov
  have e1 : (as.map (am_rv jH)).reverse ++ .ref (jH.getD 0 0) :: rest = as.reverse ++ .ref 0 :: rest := by rw [has, jH_get (by decide)]
  rw [← e1]
  refine h.2.2.1 _ _ _ _ _ _ _ _ _ _ 0 7 fs TX7 12 _ jH wc _ _ _ _ _ _ t0 t1 t2 k k2 hc hk h6 (Nat.le_of_ble_eq_true hm) (Nat.le_of_ble_eq_true hd) hC hn (jH_pre hl1 hc1) (jH_nd hl1) (Nat.le_of_ble_eq_true hW) hr0 (by rw [hcl]; rfl) ⟨Nat.le_of_ble_eq_true g1, Nat.le_of_ble_eq_true g2⟩ hct hca hhd (by rw [List.length_append, hl1]; exact hn0) ?_ ?_
  · rintro r w ⟨v, h1, rfl, rfl⟩ _
    rw [jH_put hl1 hl2 hc2]
    exact kk v h1
  · rintro w ⟨h1, rfl⟩ _
    rw [jH_put hl1 hl2 hc2]
    exact kx h1
end AMBH
set_option maxRecDepth 100000 in
theorem c_L_text (l : Launch) (hst : l.stackTraces = false) (n : Nat) (σ : am_M) (τ : Nat → Int64) (χ : Nat → Nat) (o : Nat → Int64) (a1 : Int32) (res : (Option Int32 × am_M × (Nat → Int64) × (Nat → Nat))) (h : X7_text n σ τ χ a1 = some res) (hχ : am_chi χ) (hχ2 : am_chi res.2.2.2) : am_CnH l yL_text cL_text 4 (some .int) [(0, 9, 12, 13)] 11 [.ref 0, .int a1, .ref 74] (wX7 7 18 χ σ τ ++ [.inl (2, 1, .inr (.inl o))]) (fun (r : Option Value) (w : am_W) => r = some (.int (hR res.1)) ∧ w = wX7 (am_fp res.1) (am_fc res.1) res.2.2.2 res.2.1 res.2.2.1 ++ [.inl (2, 1, .inr (.inl (hO id o (res.1))))]) := by
  refine am_metH (own := RL) (cd := am_cdT' tL_text) (n0 := 75) rfl (by decide +kernel) rfl dL_text (Nat.le_of_ble_eq_true rfl) (by decide) ?_
  intro V V1 hV
  show V (wX7 7 18 χ σ τ ++ [.inl (2, 1, .inr (.inl o))]) 0 [(0, .ref 0), (1, .int a1), (2, .ref 74)] []
  refine hV.run 4 [] (ws' := wX7 7 18 χ σ τ ++ [.inl (2, 1, .inr (.inl o))]) (pc' := 4) (ls' := [(0, .ref 0), (1, .int a1), (2, .ref 74)]) (st' := [.int a1, .ref 0, .int 0, .ref 74]) (ps := []) rfl trivial ?_
  refine hV.call id (as := [.int a1]) (rest := [.int 0, .ref 74]) (st := [.int a1, .ref 0, .int 0, .ref 74]) (w1 := wX7 (am_fp res.1) (am_fc res.1) res.2.2.2 res.2.1 res.2.2.1) (k2 := 0) (res.1) kL_7 (am_wd 869 (by decide +kernel) rfl) (c_X7_text l hst n σ τ χ a1 res h) rfl rfl rfl rfl rfl rfl (wX7_cl (by decide) (by decide) hχ) rfl (wX7_cl (am_fp_lt _) (am_fc_lt _) hχ2) rfl rfl rfl rfl (am_wd 868 (by decide +kernel) rfl) (by decide) (Or.inl ⟨rfl, rfl, rfl⟩) rfl rfl (fun v hv => ?_) (fun hv => ?_)
  · refine hV.run1 4 [] (ws' := wX7 (am_fp res.1) (am_fc res.1) res.2.2.2 res.2.1 res.2.2.1 ++ [.inl (2, 1, .inr (.inl (vp_updL o (0 : Int32).toNatClampNeg v.toInt64)))]) (pc' := 16) (ls' := [(0, .ref 0), (1, .int a1), (2, .ref 74)]) (st' := [.int 0]) (ps := [vp_in 0 1]) rfl ⟨am_inc (by decide), trivial⟩ ?_
    refine hV.ri rfl rfl ⟨?_, ?_⟩
    · rw [hv]; rfl
    · rw [show hO id o (res.1) = vp_updL o (0 : Int32).toNatClampNeg v.toInt64 by rw [hv]; rfl]
  · refine ⟨?_, ?_⟩
    · rw [hv]; rfl
    · rw [show hO id o (res.1) = o by rw [hv]; rfl]
set_option maxRecDepth 100000 in
theorem c_L_count (l : Launch) (hst : l.stackTraces = false) (n : Nat) (σ : am_M) (τ : Nat → Int64) (χ : Nat → Nat) (o : Nat → Int64) (a1 : Int32) (res : (Option Int32)) (h : X7_count σ a1 = some res) (hχ : am_chi χ) : am_CnH l yL_count cL_count 4 (some .int) [(0, 9, 12, 18)] 7 [.ref 0, .int a1, .ref 74] (wX7 7 18 χ σ τ ++ [.inl (2, 1, .inr (.inl o))]) (fun (r : Option Value) (w : am_W) => r = some (.int (hR res)) ∧ w = wX7 7 18 χ σ τ ++ [.inl (2, 1, .inr (.inl (hO id o (res))))]) := by
  refine am_metH (own := RL) (cd := am_cdT' tL_count) (n0 := 75) rfl (by decide +kernel) rfl dL_count (Nat.le_of_ble_eq_true rfl) (by decide) ?_
  intro V V1 hV
  show V (wX7 7 18 χ σ τ ++ [.inl (2, 1, .inr (.inl o))]) 0 [(0, .ref 0), (1, .int a1), (2, .ref 74)] []
  refine hV.run 4 [] (ws' := wX7 7 18 χ σ τ ++ [.inl (2, 1, .inr (.inl o))]) (pc' := 4) (ls' := [(0, .ref 0), (1, .int a1), (2, .ref 74)]) (st' := [.int a1, .ref 0, .int 0, .ref 74]) (ps := []) rfl trivial ?_
  refine hV.call id (as := [.int a1]) (rest := [.int 0, .ref 74]) (st := [.int a1, .ref 0, .int 0, .ref 74]) (w1 := wX7 7 18 χ σ τ) (k2 := 0) (res) kL_15 (am_wd 1144 (by decide +kernel) rfl) (c_X7_count l hst σ τ χ a1 res h) rfl rfl rfl rfl rfl rfl (wX7_cl (by decide) (by decide) hχ) rfl (wX7_cl (by decide) (by decide) hχ) rfl rfl rfl rfl (am_wd 1143 (by decide +kernel) rfl) (by decide) (Or.inl ⟨rfl, rfl, rfl⟩) rfl rfl (fun v hv => ?_) (fun hv => ?_)
  · refine hV.run1 4 [] (ws' := wX7 7 18 χ σ τ ++ [.inl (2, 1, .inr (.inl (vp_updL o (0 : Int32).toNatClampNeg v.toInt64)))]) (pc' := 16) (ls' := [(0, .ref 0), (1, .int a1), (2, .ref 74)]) (st' := [.int 0]) (ps := [vp_in 0 1]) rfl ⟨am_inc (by decide), trivial⟩ ?_
    refine hV.ri rfl rfl ⟨?_, ?_⟩
    · rw [hv]; rfl
    · rw [show hO id o (res) = vp_updL o (0 : Int32).toNatClampNeg v.toInt64 by rw [hv]; rfl]
  · refine ⟨?_, ?_⟩
    · rw [hv]; rfl
    · rw [show hO id o (res) = o by rw [hv]; rfl]
set_option maxRecDepth 100000 in
theorem c_L_step (l : Launch) (hst : l.stackTraces = false) (n : Nat) (σ : am_M) (τ : Nat → Int64) (χ : Nat → Nat) (o : Nat → Int64) (a1 : Int32) (res : (Option Int32)) (h : X7_step σ a1 = some res) (hχ : am_chi χ) : am_CnH l yL_step cL_step 4 (some .int) [(0, 9, 12, 18)] 7 [.ref 0, .int a1, .ref 74] (wX7 7 18 χ σ τ ++ [.inl (2, 1, .inr (.inl o))]) (fun (r : Option Value) (w : am_W) => r = some (.int (hR res)) ∧ w = wX7 7 18 χ σ τ ++ [.inl (2, 1, .inr (.inl (hO id o (res))))]) := by
  refine am_metH (own := RL) (cd := am_cdT' tL_step) (n0 := 75) rfl (by decide +kernel) rfl dL_step (Nat.le_of_ble_eq_true rfl) (by decide) ?_
  intro V V1 hV
  show V (wX7 7 18 χ σ τ ++ [.inl (2, 1, .inr (.inl o))]) 0 [(0, .ref 0), (1, .int a1), (2, .ref 74)] []
  refine hV.run 4 [] (ws' := wX7 7 18 χ σ τ ++ [.inl (2, 1, .inr (.inl o))]) (pc' := 4) (ls' := [(0, .ref 0), (1, .int a1), (2, .ref 74)]) (st' := [.int a1, .ref 0, .int 0, .ref 74]) (ps := []) rfl trivial ?_
  refine hV.call id (as := [.int a1]) (rest := [.int 0, .ref 74]) (st := [.int a1, .ref 0, .int 0, .ref 74]) (w1 := wX7 7 18 χ σ τ) (k2 := 0) (res) kL_20 (am_wd 1167 (by decide +kernel) rfl) (c_X7_step l hst σ τ χ a1 res h) rfl rfl rfl rfl rfl rfl (wX7_cl (by decide) (by decide) hχ) rfl (wX7_cl (by decide) (by decide) hχ) rfl rfl rfl rfl (am_wd 1143 (by decide +kernel) rfl) (by decide) (Or.inl ⟨rfl, rfl, rfl⟩) rfl rfl (fun v hv => ?_) (fun hv => ?_)
  · refine hV.run1 4 [] (ws' := wX7 7 18 χ σ τ ++ [.inl (2, 1, .inr (.inl (vp_updL o (0 : Int32).toNatClampNeg v.toInt64)))]) (pc' := 16) (ls' := [(0, .ref 0), (1, .int a1), (2, .ref 74)]) (st' := [.int 0]) (ps := [vp_in 0 1]) rfl ⟨am_inc (by decide), trivial⟩ ?_
    refine hV.ri rfl rfl ⟨?_, ?_⟩
    · rw [hv]; rfl
    · rw [show hO id o (res) = vp_updL o (0 : Int32).toNatClampNeg v.toInt64 by rw [hv]; rfl]
  · refine ⟨?_, ?_⟩
    · rw [hv]; rfl
    · rw [show hO id o (res) = o by rw [hv]; rfl]
set_option maxRecDepth 100000 in
theorem c_L_endings (l : Launch) (hst : l.stackTraces = false) (n : Nat) (σ : am_M) (τ : Nat → Int64) (χ : Nat → Nat) (o : Nat → Int64) (a1 : Int32) (res : (Option Int32 × am_M × (Nat → Int64) × (Nat → Nat))) (h : X7_endings n σ τ χ a1 = some res) (hχ : am_chi χ) (hχ2 : am_chi res.2.2.2) : am_CnH l yL_endings cL_endings 4 (some .int) [(0, 9, 12, 18)] 9 [.ref 0, .int a1, .ref 74] (wX7 7 18 χ σ τ ++ [.inl (2, 1, .inr (.inl o))]) (fun (r : Option Value) (w : am_W) => r = some (.int (hR res.1)) ∧ w = wX7 7 18 res.2.2.2 res.2.1 res.2.2.1 ++ [.inl (2, 1, .inr (.inl (hO id o (res.1))))]) := by
  refine am_metH (own := RL) (cd := am_cdT' tL_endings) (n0 := 75) rfl (by decide +kernel) rfl dL_endings (Nat.le_of_ble_eq_true rfl) (by decide) ?_
  intro V V1 hV
  show V (wX7 7 18 χ σ τ ++ [.inl (2, 1, .inr (.inl o))]) 0 [(0, .ref 0), (1, .int a1), (2, .ref 74)] []
  refine hV.run 4 [] (ws' := wX7 7 18 χ σ τ ++ [.inl (2, 1, .inr (.inl o))]) (pc' := 4) (ls' := [(0, .ref 0), (1, .int a1), (2, .ref 74)]) (st' := [.int a1, .ref 0, .int 0, .ref 74]) (ps := []) rfl trivial ?_
  refine hV.call id (as := [.int a1]) (rest := [.int 0, .ref 74]) (st := [.int a1, .ref 0, .int 0, .ref 74]) (w1 := wX7 7 18 res.2.2.2 res.2.1 res.2.2.1) (k2 := 0) (res.1) kL_23 (am_wd 1175 (by decide +kernel) rfl) (c_X7_endings l hst n σ τ χ a1 res h) rfl rfl rfl rfl rfl rfl (wX7_cl (by decide) (by decide) hχ) rfl (wX7_cl (by decide) (by decide) hχ2) rfl rfl rfl rfl (am_wd 1143 (by decide +kernel) rfl) (by decide) (Or.inl ⟨rfl, rfl, rfl⟩) rfl rfl (fun v hv => ?_) (fun hv => ?_)
  · refine hV.run1 4 [] (ws' := wX7 7 18 res.2.2.2 res.2.1 res.2.2.1 ++ [.inl (2, 1, .inr (.inl (vp_updL o (0 : Int32).toNatClampNeg v.toInt64)))]) (pc' := 16) (ls' := [(0, .ref 0), (1, .int a1), (2, .ref 74)]) (st' := [.int 0]) (ps := [vp_in 0 1]) rfl ⟨am_inc (by decide), trivial⟩ ?_
    refine hV.ri rfl rfl ⟨?_, ?_⟩
    · rw [hv]; rfl
    · rw [show hO id o (res.1) = vp_updL o (0 : Int32).toNatClampNeg v.toInt64 by rw [hv]; rfl]
  · refine ⟨?_, ?_⟩
    · rw [hv]; rfl
    · rw [show hO id o (res.1) = o by rw [hv]; rfl]
set_option maxRecDepth 100000 in
theorem c_L_ending (l : Launch) (hst : l.stackTraces = false) (n : Nat) (σ : am_M) (τ : Nat → Int64) (χ : Nat → Nat) (o : Nat → Int64) (a1 : Int32) (a2 : Int32) (res : (Option Int32 × am_M × (Nat → Int64) × (Nat → Nat))) (h : X7_ending n σ τ χ a1 a2 = some res) (hχ : am_chi χ) (hχ2 : am_chi res.2.2.2) : am_CnH l yL_ending cL_ending 5 (some .int) [(0, 10, 13, 18)] 9 [.ref 0, .int a1, .int a2, .ref 74] (wX7 7 18 χ σ τ ++ [.inl (2, 1, .inr (.inl o))]) (fun (r : Option Value) (w : am_W) => r = some (.int (hR res.1)) ∧ w = wX7 7 18 res.2.2.2 res.2.1 res.2.2.1 ++ [.inl (2, 1, .inr (.inl (hO id o (res.1))))]) := by
  refine am_metH (own := RL) (cd := am_cdT' tL_ending) (n0 := 75) rfl (by decide +kernel) rfl dL_ending (Nat.le_of_ble_eq_true rfl) (by decide) ?_
  intro V V1 hV
  show V (wX7 7 18 χ σ τ ++ [.inl (2, 1, .inr (.inl o))]) 0 [(0, .ref 0), (1, .int a1), (2, .int a2), (3, .ref 74)] []
  refine hV.run 5 [] (ws' := wX7 7 18 χ σ τ ++ [.inl (2, 1, .inr (.inl o))]) (pc' := 5) (ls' := [(0, .ref 0), (1, .int a1), (2, .int a2), (3, .ref 74)]) (st' := [.int a2, .int a1, .ref 0, .int 0, .ref 74]) (ps := []) rfl trivial ?_
  refine hV.call id (as := [.int a1, .int a2]) (rest := [.int 0, .ref 74]) (st := [.int a2, .int a1, .ref 0, .int 0, .ref 74]) (w1 := wX7 7 18 res.2.2.2 res.2.1 res.2.2.1) (k := 0) (res.1) kL_26 (am_wd 1187 (by decide +kernel) rfl) (c_X7_ending l hst n σ τ χ a1 a2 res h) rfl rfl rfl rfl rfl rfl (wX7_cl (by decide) (by decide) hχ) rfl (wX7_cl (by decide) (by decide) hχ2) rfl rfl rfl rfl (am_wd 1143 (by decide +kernel) rfl) (by decide) (Or.inr ⟨rfl, rfl, rfl⟩) rfl rfl (fun v hv => ?_) (fun hv => ?_)
  · refine hV.run1 4 [] (ws' := wX7 7 18 res.2.2.2 res.2.1 res.2.2.1 ++ [.inl (2, 1, .inr (.inl (vp_updL o (0 : Int32).toNatClampNeg v.toInt64)))]) (pc' := 18) (ls' := [(0, .ref 0), (1, .int a1), (2, .int a2), (3, .ref 74)]) (st' := [.int 0]) (ps := [vp_in 0 1]) rfl ⟨am_inc (by decide), trivial⟩ ?_
    refine hV.ri rfl rfl ⟨?_, ?_⟩
    · rw [hv]; rfl
    · rw [show hO id o (res.1) = vp_updL o (0 : Int32).toNatClampNeg v.toInt64 by rw [hv]; rfl]
  · refine ⟨?_, ?_⟩
    · rw [hv]; rfl
    · rw [show hO id o (res.1) = o by rw [hv]; rfl]
set_option maxRecDepth 100000 in
theorem c_L_could (l : Launch) (hst : l.stackTraces = false) (n : Nat) (σ : am_M) (τ : Nat → Int64) (χ : Nat → Nat) (o : Nat → Int64) (a1 : Int32) (a2 : Int32) (res : (Option Int32 × am_M × (Nat → Int64) × (Nat → Nat))) (h : X7_could n σ τ χ a1 a2 = some res) (hχ : am_chi χ) (hχ2 : am_chi res.2.2.2) : am_CnH l yL_could cL_could 5 (some .int) [(0, 10, 13, 18)] 9 [.ref 0, .int a1, .int a2, .ref 74] (wX7 7 18 χ σ τ ++ [.inl (2, 1, .inr (.inl o))]) (fun (r : Option Value) (w : am_W) => r = some (.int (hR res.1)) ∧ w = wX7 7 18 res.2.2.2 res.2.1 res.2.2.1 ++ [.inl (2, 1, .inr (.inl (hO id o (res.1))))]) := by
  refine am_metH (own := RL) (cd := am_cdT' tL_could) (n0 := 75) rfl (by decide +kernel) rfl dL_could (Nat.le_of_ble_eq_true rfl) (by decide) ?_
  intro V V1 hV
  show V (wX7 7 18 χ σ τ ++ [.inl (2, 1, .inr (.inl o))]) 0 [(0, .ref 0), (1, .int a1), (2, .int a2), (3, .ref 74)] []
  refine hV.run 5 [] (ws' := wX7 7 18 χ σ τ ++ [.inl (2, 1, .inr (.inl o))]) (pc' := 5) (ls' := [(0, .ref 0), (1, .int a1), (2, .int a2), (3, .ref 74)]) (st' := [.int a2, .int a1, .ref 0, .int 0, .ref 74]) (ps := []) rfl trivial ?_
  refine hV.call id (as := [.int a1, .int a2]) (rest := [.int 0, .ref 74]) (st := [.int a2, .int a1, .ref 0, .int 0, .ref 74]) (w1 := wX7 7 18 res.2.2.2 res.2.1 res.2.2.1) (k := 0) (res.1) kL_30 (am_wd 1200 (by decide +kernel) rfl) (c_X7_could l hst n σ τ χ a1 a2 res h) rfl rfl rfl rfl rfl rfl (wX7_cl (by decide) (by decide) hχ) rfl (wX7_cl (by decide) (by decide) hχ2) rfl rfl rfl rfl (am_wd 1143 (by decide +kernel) rfl) (by decide) (Or.inr ⟨rfl, rfl, rfl⟩) rfl rfl (fun v hv => ?_) (fun hv => ?_)
  · refine hV.run1 4 [] (ws' := wX7 7 18 res.2.2.2 res.2.1 res.2.2.1 ++ [.inl (2, 1, .inr (.inl (vp_updL o (0 : Int32).toNatClampNeg v.toInt64)))]) (pc' := 18) (ls' := [(0, .ref 0), (1, .int a1), (2, .int a2), (3, .ref 74)]) (st' := [.int 0]) (ps := [vp_in 0 1]) rfl ⟨am_inc (by decide), trivial⟩ ?_
    refine hV.ri rfl rfl ⟨?_, ?_⟩
    · rw [hv]; rfl
    · rw [show hO id o (res.1) = vp_updL o (0 : Int32).toNatClampNeg v.toInt64 by rw [hv]; rfl]
  · refine ⟨?_, ?_⟩
    · rw [hv]; rfl
    · rw [show hO id o (res.1) = o by rw [hv]; rfl]
set_option maxRecDepth 100000 in
theorem c_L_left (l : Launch) (hst : l.stackTraces = false) (n : Nat) (σ : am_M) (τ : Nat → Int64) (χ : Nat → Nat) (o : Nat → Int64) (a1 : Int32) (res : (Option Bool)) (h : X7_left σ τ a1 = some res) (hχ : am_chi χ) : am_CnH l yL_left cL_left 4 (some .int) [(0, 16, 19, 18)] 7 [.ref 0, .int a1, .ref 74] (wX7 7 18 χ σ τ ++ [.inl (2, 1, .inr (.inl o))]) (fun (r : Option Value) (w : am_W) => r = some (.int (hR res)) ∧ w = wX7 7 18 χ σ τ ++ [.inl (2, 1, .inr (.inl (hO b2i o (res))))]) := by
  refine am_metH (own := RL) (cd := am_cdT' tL_left) (n0 := 75) rfl (by decide +kernel) rfl dL_left (Nat.le_of_ble_eq_true rfl) (by decide) ?_
  intro V V1 hV
  show V (wX7 7 18 χ σ τ ++ [.inl (2, 1, .inr (.inl o))]) 0 [(0, .ref 0), (1, .int a1), (2, .ref 74)] []
  refine hV.run 4 [] (ws' := wX7 7 18 χ σ τ ++ [.inl (2, 1, .inr (.inl o))]) (pc' := 4) (ls' := [(0, .ref 0), (1, .int a1), (2, .ref 74)]) (st' := [.int a1, .ref 0, .int 0, .ref 74]) (ps := []) rfl trivial ?_
  refine hV.call b2i (as := [.int a1]) (rest := [.int 0, .ref 74]) (st := [.int a1, .ref 0, .int 0, .ref 74]) (w1 := wX7 7 18 χ σ τ) (k2 := 0) (res) kL_33 (am_wd 1216 (by decide +kernel) rfl) (c_X7_left l hst σ τ χ a1 res h) rfl rfl rfl rfl rfl rfl (wX7_cl (by decide) (by decide) hχ) rfl (wX7_cl (by decide) (by decide) hχ) rfl rfl rfl rfl (am_wd 1143 (by decide +kernel) rfl) (by decide) (Or.inl ⟨rfl, rfl, rfl⟩) rfl rfl (fun v hv => ?_) (fun hv => ?_)
  · cases v with
    | false =>
      refine hV.run1 5 [1] (ws' := wX7 7 18 χ σ τ ++ [.inl (2, 1, .inr (.inl (vp_updL o (0 : Int32).toNatClampNeg 0)))]) (pc' := 23) (ls' := [(0, .ref 0), (1, .int a1), (2, .ref 74)]) (st' := [.int 0]) (ps := [b2i false = 0, vp_in 0 1]) rfl ⟨rfl, am_inc (by decide), trivial⟩ ?_
      refine hV.ri rfl rfl ⟨?_, ?_⟩
      · rw [hv]; rfl
      · rw [show hO b2i o (res) = vp_updL o (0 : Int32).toNatClampNeg 0 by rw [hv]; rfl]
    | true =>
      refine hV.run1 6 [0] (ws' := wX7 7 18 χ σ τ ++ [.inl (2, 1, .inr (.inl (vp_updL o (0 : Int32).toNatClampNeg 1)))]) (pc' := 23) (ls' := [(0, .ref 0), (1, .int a1), (2, .ref 74)]) (st' := [.int 0]) (ps := [¬ b2i true = 0, vp_in 0 1]) rfl ⟨by decide, am_inc (by decide), trivial⟩ ?_
      refine hV.ri rfl rfl ⟨?_, ?_⟩
      · rw [hv]; rfl
      · rw [show hO b2i o (res) = vp_updL o (0 : Int32).toNatClampNeg 1 by rw [hv]; rfl]
  · refine ⟨?_, ?_⟩
    · rw [hv]; rfl
    · rw [show hO b2i o (res) = o by rw [hv]; rfl]
set_option maxRecDepth 100000 in
theorem c_L_play (l : Launch) (hst : l.stackTraces = false) (n : Nat) (σ : am_M) (τ : Nat → Int64) (χ : Nat → Nat) (o : Nat → Int64) (a1 : Int32) (a2 : Int64) (res : (Option Int32 × am_M × (Nat → Int64) × (Nat → Nat))) (h : X7_play n σ τ χ a1 a2 = some res) (hχ : am_chi χ) (hχ2 : am_chi res.2.2.2) : am_CnH l yL_play cL_play 6 (some .int) [(0, 11, 14, 13)] 9 [.ref 0, .int a1, .long a2, .ref 74] (wX7 7 18 χ σ τ ++ [.inl (2, 1, .inr (.inl o))]) (fun (r : Option Value) (w : am_W) => r = some (.int (hR res.1)) ∧ w = wX7 7 18 res.2.2.2 res.2.1 res.2.2.1 ++ [.inl (2, 1, .inr (.inl (hO id o (res.1))))]) := by
  refine am_metH (own := RL) (cd := am_cdT' tL_play) (n0 := 75) rfl (by decide +kernel) rfl dL_play (Nat.le_of_ble_eq_true rfl) (by decide) ?_
  intro V V1 hV
  show V (wX7 7 18 χ σ τ ++ [.inl (2, 1, .inr (.inl o))]) 0 [(0, .ref 0), (1, .int a1), (2, .long a2), (4, .ref 74)] []
  refine hV.run 5 [] (ws' := wX7 7 18 χ σ τ ++ [.inl (2, 1, .inr (.inl o))]) (pc' := 6) (ls' := [(0, .ref 0), (1, .int a1), (2, .long a2), (4, .ref 74)]) (st' := [.long a2, .int a1, .ref 0, .int 0, .ref 74]) (ps := []) rfl trivial ?_
  refine hV.call id (as := [.int a1, .long a2]) (rest := [.int 0, .ref 74]) (st := [.long a2, .int a1, .ref 0, .int 0, .ref 74]) (w1 := wX7 7 18 res.2.2.2 res.2.1 res.2.2.1) (k := 0) (res.1) kL_37 (am_wd 1224 (by decide +kernel) rfl) (c_X7_play l hst n σ τ χ a1 a2 res h) rfl rfl rfl rfl rfl rfl (wX7_cl (by decide) (by decide) hχ) rfl (wX7_cl (by decide) (by decide) hχ2) rfl rfl rfl rfl (am_wd 868 (by decide +kernel) rfl) (by decide) (Or.inr ⟨rfl, rfl, rfl⟩) rfl rfl (fun v hv => ?_) (fun hv => ?_)
  · refine hV.run1 4 [] (ws' := wX7 7 18 res.2.2.2 res.2.1 res.2.2.1 ++ [.inl (2, 1, .inr (.inl (vp_updL o (0 : Int32).toNatClampNeg v.toInt64)))]) (pc' := 19) (ls' := [(0, .ref 0), (1, .int a1), (2, .long a2), (4, .ref 74)]) (st' := [.int 0]) (ps := [vp_in 0 1]) rfl ⟨am_inc (by decide), trivial⟩ ?_
    refine hV.ri rfl rfl ⟨?_, ?_⟩
    · rw [hv]; rfl
    · rw [show hO id o (res.1) = vp_updL o (0 : Int32).toNatClampNeg v.toInt64 by rw [hv]; rfl]
  · refine ⟨?_, ?_⟩
    · rw [hv]; rfl
    · rw [show hO id o (res.1) = o by rw [hv]; rfl]
set_option maxRecDepth 100000 in
theorem c_L_of (l : Launch) (hst : l.stackTraces = false) (n : Nat) (σ : am_M) (τ : Nat → Int64) (χ : Nat → Nat) (o : Nat → Int64) (a1 : Int32) (a2 : Int32) (res : (Option Int32)) (h : X7_of n σ χ a1 a2 = some res) (hχ : am_chi χ) : am_CnH l yL_of cL_of 5 (some .int) [(0, 10, 13, 18)] 8 [.ref 0, .int a1, .int a2, .ref 74] (wX7 7 18 χ σ τ ++ [.inl (2, 1, .inr (.inl o))]) (fun (r : Option Value) (w : am_W) => r = some (.int (hR res)) ∧ w = wX7 7 18 χ σ τ ++ [.inl (2, 1, .inr (.inl (hO id o (res))))]) := by
  refine am_metH (own := RL) (cd := am_cdT' tL_of) (n0 := 75) rfl (by decide +kernel) rfl dL_of (Nat.le_of_ble_eq_true rfl) (by decide) ?_
  intro V V1 hV
  show V (wX7 7 18 χ σ τ ++ [.inl (2, 1, .inr (.inl o))]) 0 [(0, .ref 0), (1, .int a1), (2, .int a2), (3, .ref 74)] []
  refine hV.run 5 [] (ws' := wX7 7 18 χ σ τ ++ [.inl (2, 1, .inr (.inl o))]) (pc' := 5) (ls' := [(0, .ref 0), (1, .int a1), (2, .int a2), (3, .ref 74)]) (st' := [.int a2, .int a1, .ref 0, .int 0, .ref 74]) (ps := []) rfl trivial ?_
  refine hV.call id (as := [.int a1, .int a2]) (rest := [.int 0, .ref 74]) (st := [.int a2, .int a1, .ref 0, .int 0, .ref 74]) (w1 := wX7 7 18 χ σ τ) (k := 0) (res) kL_41 (am_wd 1285 (by decide +kernel) rfl) (c_X7_of l hst n σ χ τ a1 a2 res h) rfl rfl rfl rfl rfl rfl (wX7_cl (by decide) (by decide) hχ) rfl (wX7_cl (by decide) (by decide) hχ) rfl rfl rfl rfl (am_wd 1143 (by decide +kernel) rfl) (by decide) (Or.inr ⟨rfl, rfl, rfl⟩) rfl rfl (fun v hv => ?_) (fun hv => ?_)
  · refine hV.run1 4 [] (ws' := wX7 7 18 χ σ τ ++ [.inl (2, 1, .inr (.inl (vp_updL o (0 : Int32).toNatClampNeg v.toInt64)))]) (pc' := 18) (ls' := [(0, .ref 0), (1, .int a1), (2, .int a2), (3, .ref 74)]) (st' := [.int 0]) (ps := [vp_in 0 1]) rfl ⟨am_inc (by decide), trivial⟩ ?_
    refine hV.ri rfl rfl ⟨?_, ?_⟩
    · rw [hv]; rfl
    · rw [show hO id o (res) = vp_updL o (0 : Int32).toNatClampNeg v.toInt64 by rw [hv]; rfl]
  · refine ⟨?_, ?_⟩
    · rw [hv]; rfl
    · rw [show hO id o (res) = o by rw [hv]; rfl]
set_option maxRecDepth 100000 in
theorem c_L_ring (l : Launch) (hst : l.stackTraces = false) (n : Nat) (σ : am_M) (τ : Nat → Int64) (χ : Nat → Nat) (o : Nat → Int64) (a1 : Int32) (res : (Option Int32)) (h : X7_ring σ a1 = some res) (hχ : am_chi χ) : am_CnH l yL_ring cL_ring 4 (some .int) [(0, 9, 12, 18)] 7 [.ref 0, .int a1, .ref 74] (wX7 7 18 χ σ τ ++ [.inl (2, 1, .inr (.inl o))]) (fun (r : Option Value) (w : am_W) => r = some (.int (hR res)) ∧ w = wX7 7 18 χ σ τ ++ [.inl (2, 1, .inr (.inl (hO id o (res))))]) := by
  refine am_metH (own := RL) (cd := am_cdT' tL_ring) (n0 := 75) rfl (by decide +kernel) rfl dL_ring (Nat.le_of_ble_eq_true rfl) (by decide) ?_
  intro V V1 hV
  show V (wX7 7 18 χ σ τ ++ [.inl (2, 1, .inr (.inl o))]) 0 [(0, .ref 0), (1, .int a1), (2, .ref 74)] []
  refine hV.run 4 [] (ws' := wX7 7 18 χ σ τ ++ [.inl (2, 1, .inr (.inl o))]) (pc' := 4) (ls' := [(0, .ref 0), (1, .int a1), (2, .ref 74)]) (st' := [.int a1, .ref 0, .int 0, .ref 74]) (ps := []) rfl trivial ?_
  refine hV.call id (as := [.int a1]) (rest := [.int 0, .ref 74]) (st := [.int a1, .ref 0, .int 0, .ref 74]) (w1 := wX7 7 18 χ σ τ) (k2 := 0) (res) kL_44 (am_wd 1298 (by decide +kernel) rfl) (c_X7_ring l hst σ τ χ a1 res h) rfl rfl rfl rfl rfl rfl (wX7_cl (by decide) (by decide) hχ) rfl (wX7_cl (by decide) (by decide) hχ) rfl rfl rfl rfl (am_wd 1143 (by decide +kernel) rfl) (by decide) (Or.inl ⟨rfl, rfl, rfl⟩) rfl rfl (fun v hv => ?_) (fun hv => ?_)
  · refine hV.run1 4 [] (ws' := wX7 7 18 χ σ τ ++ [.inl (2, 1, .inr (.inl (vp_updL o (0 : Int32).toNatClampNeg v.toInt64)))]) (pc' := 16) (ls' := [(0, .ref 0), (1, .int a1), (2, .ref 74)]) (st' := [.int 0]) (ps := [vp_in 0 1]) rfl ⟨am_inc (by decide), trivial⟩ ?_
    refine hV.ri rfl rfl ⟨?_, ?_⟩
    · rw [hv]; rfl
    · rw [show hO id o (res) = vp_updL o (0 : Int32).toNatClampNeg v.toInt64 by rw [hv]; rfl]
  · refine ⟨?_, ?_⟩
    · rw [hv]; rfl
    · rw [show hO id o (res) = o by rw [hv]; rfl]
set_option maxRecDepth 100000 in
theorem c_L_chose (l : Launch) (hst : l.stackTraces = false) (n : Nat) (σ : am_M) (τ : Nat → Int64) (χ : Nat → Nat) (o : Nat → Int64) (a1 : Int32) (res : (Option Int32)) (h : X7_chose σ a1 = some res) (hχ : am_chi χ) : am_CnH l yL_chose cL_chose 4 (some .int) [(0, 9, 12, 18)] 7 [.ref 0, .int a1, .ref 74] (wX7 7 18 χ σ τ ++ [.inl (2, 1, .inr (.inl o))]) (fun (r : Option Value) (w : am_W) => r = some (.int (hR res)) ∧ w = wX7 7 18 χ σ τ ++ [.inl (2, 1, .inr (.inl (hO id o (res))))]) := by
  refine am_metH (own := RL) (cd := am_cdT' tL_chose) (n0 := 75) rfl (by decide +kernel) rfl dL_chose (Nat.le_of_ble_eq_true rfl) (by decide) ?_
  intro V V1 hV
  show V (wX7 7 18 χ σ τ ++ [.inl (2, 1, .inr (.inl o))]) 0 [(0, .ref 0), (1, .int a1), (2, .ref 74)] []
  refine hV.run 4 [] (ws' := wX7 7 18 χ σ τ ++ [.inl (2, 1, .inr (.inl o))]) (pc' := 4) (ls' := [(0, .ref 0), (1, .int a1), (2, .ref 74)]) (st' := [.int a1, .ref 0, .int 0, .ref 74]) (ps := []) rfl trivial ?_
  refine hV.call id (as := [.int a1]) (rest := [.int 0, .ref 74]) (st := [.int a1, .ref 0, .int 0, .ref 74]) (w1 := wX7 7 18 χ σ τ) (k2 := 0) (res) kL_47 (am_wd 1307 (by decide +kernel) rfl) (c_X7_chose l hst σ τ χ a1 res h) rfl rfl rfl rfl rfl rfl (wX7_cl (by decide) (by decide) hχ) rfl (wX7_cl (by decide) (by decide) hχ) rfl rfl rfl rfl (am_wd 1143 (by decide +kernel) rfl) (by decide) (Or.inl ⟨rfl, rfl, rfl⟩) rfl rfl (fun v hv => ?_) (fun hv => ?_)
  · refine hV.run1 4 [] (ws' := wX7 7 18 χ σ τ ++ [.inl (2, 1, .inr (.inl (vp_updL o (0 : Int32).toNatClampNeg v.toInt64)))]) (pc' := 16) (ls' := [(0, .ref 0), (1, .int a1), (2, .ref 74)]) (st' := [.int 0]) (ps := [vp_in 0 1]) rfl ⟨am_inc (by decide), trivial⟩ ?_
    refine hV.ri rfl rfl ⟨?_, ?_⟩
    · rw [hv]; rfl
    · rw [show hO id o (res) = vp_updL o (0 : Int32).toNatClampNeg v.toInt64 by rw [hv]; rfl]
  · refine ⟨?_, ?_⟩
    · rw [hv]; rfl
    · rw [show hO id o (res) = o by rw [hv]; rfl]
set_option maxRecDepth 100000 in
theorem c_L_least (l : Launch) (hst : l.stackTraces = false) (n : Nat) (σ : am_M) (τ : Nat → Int64) (χ : Nat → Nat) (o : Nat → Int64) (a1 : Int32) (res : (Option Int32 × am_M × (Nat → Int64) × (Nat → Nat))) (h : X7_least n σ τ χ a1 = some res) (hχ : am_chi χ) (hχ2 : am_chi res.2.2.2) : am_CnH l yL_least cL_least 4 (some .int) [(0, 9, 12, 13)] 9 [.ref 0, .int a1, .ref 74] (wX7 7 18 χ σ τ ++ [.inl (2, 1, .inr (.inl o))]) (fun (r : Option Value) (w : am_W) => r = some (.int (hR res.1)) ∧ w = wX7 7 18 res.2.2.2 res.2.1 res.2.2.1 ++ [.inl (2, 1, .inr (.inl (hO id o (res.1))))]) := by
  refine am_metH (own := RL) (cd := am_cdT' tL_least) (n0 := 75) rfl (by decide +kernel) rfl dL_least (Nat.le_of_ble_eq_true rfl) (by decide) ?_
  intro V V1 hV
  show V (wX7 7 18 χ σ τ ++ [.inl (2, 1, .inr (.inl o))]) 0 [(0, .ref 0), (1, .int a1), (2, .ref 74)] []
  refine hV.run 4 [] (ws' := wX7 7 18 χ σ τ ++ [.inl (2, 1, .inr (.inl o))]) (pc' := 4) (ls' := [(0, .ref 0), (1, .int a1), (2, .ref 74)]) (st' := [.int a1, .ref 0, .int 0, .ref 74]) (ps := []) rfl trivial ?_
  refine hV.call id (as := [.int a1]) (rest := [.int 0, .ref 74]) (st := [.int a1, .ref 0, .int 0, .ref 74]) (w1 := wX7 7 18 res.2.2.2 res.2.1 res.2.2.1) (k2 := 0) (res.1) kL_50 (am_wd 1315 (by decide +kernel) rfl) (c_X7_least l hst n σ τ χ a1 res h) rfl rfl rfl rfl rfl rfl (wX7_cl (by decide) (by decide) hχ) rfl (wX7_cl (by decide) (by decide) hχ2) rfl rfl rfl rfl (am_wd 868 (by decide +kernel) rfl) (by decide) (Or.inl ⟨rfl, rfl, rfl⟩) rfl rfl (fun v hv => ?_) (fun hv => ?_)
  · refine hV.run1 4 [] (ws' := wX7 7 18 res.2.2.2 res.2.1 res.2.2.1 ++ [.inl (2, 1, .inr (.inl (vp_updL o (0 : Int32).toNatClampNeg v.toInt64)))]) (pc' := 16) (ls' := [(0, .ref 0), (1, .int a1), (2, .ref 74)]) (st' := [.int 0]) (ps := [vp_in 0 1]) rfl ⟨am_inc (by decide), trivial⟩ ?_
    refine hV.ri rfl rfl ⟨?_, ?_⟩
    · rw [hv]; rfl
    · rw [show hO id o (res.1) = vp_updL o (0 : Int32).toNatClampNeg v.toInt64 by rw [hv]; rfl]
  · refine ⟨?_, ?_⟩
    · rw [hv]; rfl
    · rw [show hO id o (res.1) = o by rw [hv]; rfl]
