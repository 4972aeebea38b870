/-! the string constants: length() and charAt() -/
section AMS
variable {l : Launch} {own : String} {ini : Bool} {d n0 : Nat} {cd : am_cdT} {rf : am_rfT} {ret : Option FieldType} {Post : Option Value → am_W → Prop} {V : am_VT}
theorem am_B.sVal (h : am_B l own ini d cd rf ret Post n0 V) {idx pc ln k : Nat} {ws : am_W} {ls : am_L} {st : List Value} {tg : List Nat} (hc : cd pc = some (.getfield idx, ln, tg)) (hw : Cond.fieldLink own idx "java/lang/String" "value" "[B" ∈ gW) (hk : k < am_sn) (kk : V ws (pc + 3) ls (.retAddr (am_sn + k) :: st)) : V ws pc ls (.retAddr k :: st) := h.2.2.2.2.2.2.2.2.2.2.2.2.2.2.2.1 _ _ _ _ _ _ _ _ hc hw hk kk
theorem am_B.sCod (h : am_B l own ini d cd rf ret Post n0 V) {idx pc ln k : Nat} {ws : am_W} {ls : am_L} {st : List Value} {tg : List Nat} (hc : cd pc = some (.getfield idx, ln, tg)) (hw : Cond.fieldLink own idx "java/lang/String" "coder" "B" ∈ gW) (hk : k < am_sn) (kk : V ws (pc + 3) ls (.int 0 :: st)) : V ws pc ls (.retAddr k :: st) := h.2.2.2.2.2.2.2.2.2.2.2.2.2.2.2.2.1 _ _ _ _ _ _ _ _ hc hw hk kk
theorem am_B.sLen (h : am_B l own ini d cd rf ret Post n0 V) {pc ln k : Nat} {ws : am_W} {ls : am_L} {st : List Value} {tg : List Nat} (hc : cd pc = some (.arraylength, ln, tg)) (hk : k < am_sn) (kk : V ws (pc + 1) ls (.int (Int32.ofNat (am_sB.getD k []).length) :: st)) : V ws pc ls (.retAddr (am_sn + k) :: st) := h.2.2.2.2.2.2.2.2.2.2.2.2.2.2.2.2.2.1 _ _ _ _ _ _ _ hc hk kk
theorem am_B.sByt (h : am_B l own ini d cd rf ret Post n0 V) {pc ln k : Nat} {i : Int32} {ws : am_W} {ls : am_L} {st : List Value} {tg : List Nat} (hc : cd pc = some (.baload, ln, tg)) (hk : k < am_sn) (hi : vp_in i (am_sB.getD k []).length) (kk : V ws (pc + 1) ls (.int ((am_sB.getD k []).getD i.toNatClampNeg 0) :: st)) : V ws pc ls (.int i :: .retAddr (am_sn + k) :: st) := h.2.2.2.2.2.2.2.2.2.2.2.2.2.2.2.2.2.2.1 _ _ _ _ _ _ _ _ hc hk hi kk
theorem am_B.sCmp (h : am_B l own ini d cd rf ret Post n0 V) {idx pc ln : Nat} {ws : am_W} {ls : am_L} {st : List Value} {tg : List Nat} (hc : cd pc = some (.getstatic idx, ln, tg)) (hw : Cond.fieldLink own idx "java/lang/String" "COMPACT_STRINGS" "Z" ∈ gW) (kk : V ws (pc + 3) ls (.int 1 :: st)) : V ws pc ls st := h.2.2.2.2.2.2.2.2.2.2.2.2.2.2.2.2.2.2.2.1 _ _ _ _ _ _ _ hc hw kk
theorem am_B.sFmt (h : am_B l own ini d cd rf ret Post n0 V) {idx pc ln : Nat} {ws : am_W} {ls : am_L} {st : List Value} {tg : List Nat} (hc : cd pc = some (.getstatic idx, ln, tg)) (hw : Cond.fieldLink own idx "jdk/internal/util/Preconditions" "SIOOBE_FORMATTER" "Ljava/util/function/BiFunction;" ∈ gW) (k1 : V ws (pc + 3) ls (.null :: st)) (k2 : V ws (pc + 3) ls (.retAddr 98 :: st)) : V ws pc ls st := h.2.2.2.2.2.2.2.2.2.2.2.2.2.2.2.2.2.2.2.2.1 _ _ _ _ _ _ _ hc hw k1 k2
theorem am_B.sRet (h : am_B l own ini d cd rf ret Post n0 V) {pc ln : Nat} {v : Int32} {ty : FieldType} {ws : am_W} {ls : am_L} {tg : List Nat} (hr : ret = some ty) (hn : narrow ty (.int v) = .int v) (hc : cd pc = some (.ireturn, ln, tg)) (hl : ws.length = n0) (hp : Post (some (.int v)) ws) : V ws pc ls [.int v] := h.2.2.2.2.2.2.2.2.2.2.2.2.2.2.2.2.2.2.2.2.2 _ _ _ _ _ _ _ hr hn hc hl hp
theorem am_B.cXi (h : am_B l own ini d cd rf ret Post n0 V) {as rest st : List Value} {ws : am_W} {pc2 pc idx ln maxL n d' k : Nat} {tg : List Nat} {y : MethodName} {bytes : ByteArray} {ret' : Option FieldType} {ls : am_L} {v : Int32} (hk : am_lk own idx 1 y bytes maxL ret' n) (hC : am_Con l y bytes maxL ret' d' (.retAddr k :: as) [] (fun r w => r = some (.int v) ∧ w = [])) (hc : cd pc = some (.invokevirtual idx, ln, tg)) (hm : Nat.ble maxL 41 = true) (hd : Nat.ble (d' + 1) d = true) (hn : as.length = n) (has : as.map (am_rv []) = as) (hy : y.cls = "java/lang/String") (hkn : k < am_sn) (hW : Nat.ble (rest.map fun v => v.category).sum 8 = true) (e0 : as.reverse ++ .retAddr k :: rest = st) (e2 : pc + 3 = pc2) (kk : V ws pc2 ls (.int v :: rest)) : V ws pc ls st := by
  subst e0 e2
  exact h.2.2.2.2.2.2.2.2.2.2.2.2.2.1 _ _ _ _ _ _ _ _ _ _ _ _ _ _ _ _ hc hk (Nat.le_of_ble_eq_true hm) (Nat.le_of_ble_eq_true hd) hC hn has hy hkn (Nat.le_of_ble_eq_true hW) (fun r w hp _ => by obtain ⟨rfl, rfl⟩ := hp; exact kk)
end AMS
def am_slen (k : Nat) : Int32 := Int32.ofNat (am_sB.getD k []).length
def am_sch (k : Nat) (i : Int32) : Int32 := (am_sB.getD k []).getD i.toNatClampNeg 0
theorem am_sl0 : ∀ k, k < am_sn → am_slen k >>> (0 &&& 31) = am_slen k := by decide +kernel
theorem am_sall : ∀ k, k < am_sn → ∀ j, j < (am_sB.getD k []).length → (((am_sB.getD k []).getD j 0 &&& 255).toUInt32 % 65536).toInt32 = (am_sB.getD k []).getD j 0 ∧ narrow .char (.int ((am_sB.getD k []).getD j 0)) = .int ((am_sB.getD k []).getD j 0) := by decide +kernel
theorem am_slt : ∀ k, k < am_sn → (am_sB.getD k []).length < 2 ^ 31 := by decide +kernel
theorem c_coder (l : Launch) (k : Nat) (hk : k < am_sn) : am_Con l yJ0_coder_7d493 cJ0_coder_7d493 1 (some .byte) 1 [.retAddr k] [] (fun r w => r = some (.int 0) ∧ w = []) := by
  refine am_met (own := RJ0) (cd := am_cdT' tJ0_coder_7d493) (rf := am_rfL []) (ini := false) (by decide +kernel) rfl (by decide) dJ0_coder_7d493 am_rf0 (Nat.le_of_ble_eq_true rfl) ?_
  intro V hV
  show V [] 0 [(0, .retAddr k)] []
  refine hV.sCmp rfl (am_wd 982 (by decide +kernel) rfl) ?_
  refine hV.run 2 [0] (pc := 3) (ws' := []) (pc' := 7) (ls' := [(0, .retAddr k)]) (st' := [.retAddr k]) (ps := [¬ (1 : Int32) = 0]) rfl ⟨by decide, trivial⟩ ?_
  refine hV.sCod rfl (am_wd 1946 (by decide +kernel) rfl) hk ?_
  refine hV.run 1 [] (pc := 10) (ws' := []) (pc' := 14) (ls' := [(0, .retAddr k)]) (st' := [.int 0]) (ps := []) rfl trivial ?_
  exact hV.sRet rfl (by decide) rfl rfl ⟨rfl, rfl⟩
theorem c_isLat (l : Launch) (k : Nat) (hk : k < am_sn) : am_Con l yJ0_isLatin1_aae02 cJ0_isLatin1_aae02 1 (some .boolean) 1 [.retAddr k] [] (fun r w => r = some (.int 1) ∧ w = []) := by
  refine am_met (own := RJ0) (cd := am_cdT' tJ0_isLatin1_aae02) (rf := am_rfL []) (ini := false) (by decide +kernel) rfl (by decide) dJ0_isLatin1_aae02 am_rf0 (Nat.le_of_ble_eq_true rfl) ?_
  intro V hV
  show V [] 0 [(0, .retAddr k)] []
  refine hV.sCmp rfl (am_wd 982 (by decide +kernel) rfl) ?_
  refine hV.run 2 [0] (pc := 3) (ws' := []) (pc' := 7) (ls' := [(0, .retAddr k)]) (st' := [.retAddr k]) (ps := [¬ (1 : Int32) = 0]) rfl ⟨by decide, trivial⟩ ?_
  refine hV.sCod rfl (am_wd 1946 (by decide +kernel) rfl) hk ?_
  refine hV.run 3 [0] (pc := 10) (ws' := []) (pc' := 18) (ls' := [(0, .retAddr k)]) (st' := [.int 1]) (ps := [(0 : Int32) = 0]) rfl ⟨rfl, trivial⟩ ?_
  exact hV.rz rfl rfl rfl (Or.inr rfl) ⟨rfl, rfl⟩
theorem c_ckP (l : Launch) (i n : Int32) (v : Value) (h1 : ¬ i < 0) (h2 : i < n) (hv : v = .null ∨ v = .retAddr 98) : am_Con l yJ3_checkIndex_8e157 cJ3_checkIndex_8e157 3 (some .int) 1 [.int i, .int n, v] [] (fun r w => r = some (.int i) ∧ w = []) := by
  have hlen : (lg_sl [.int i, .int n, v]).length ≤ 3 := by rcases hv with rfl | rfl <;> exact Nat.le_of_ble_eq_true rfl
  refine am_met (own := RJ3) (cd := am_cdT' tJ3_checkIndex_8e157) (rf := am_rfL []) (ini := false) (by decide +kernel) rfl (by decide) dJ3_checkIndex_8e157 am_rf0 hlen ?_
  intro V hV
  show V [] 0 [(0, .int i), (1, .int n), (2, v)] []
  refine hV.run 6 [0, 1] (ws' := []) (pc' := 17) (ls' := [(0, .int i), (1, .int n), (2, v)]) (st' := [.int i]) (ps := [¬ i < 0, i < n]) rfl ⟨h1, h2, trivial⟩ ?_
  exact hV.ri rfl rfl rfl ⟨rfl, rfl⟩
theorem c_ckS (l : Launch) (i n : Int32) (h1 : ¬ i < 0) (h2 : i < n) : am_Con l yJ0_checkIndex_df160 cJ0_checkIndex_df160 2 none 2 [.int i, .int n] [] (fun r w => r = none ∧ w = []) := by
  refine am_met (own := RJ0) (cd := am_cdT' tJ0_checkIndex_df160) (rf := am_rfL []) (ini := false) (by decide +kernel) rfl (by decide) dJ0_checkIndex_df160 am_rf0 (Nat.le_of_ble_eq_true rfl) ?_
  intro V hV
  show V [] 0 [(0, .int i), (1, .int n)] []
  refine hV.run 2 [] (ws' := []) (pc' := 2) (ls' := [(0, .int i), (1, .int n)]) (st' := [.int n, .int i]) (ps := []) rfl trivial ?_
  refine hV.sFmt rfl (am_wd 998 (by decide +kernel) rfl) ?_ ?_
  · refine hV.cSi (as := [.int i, .int n, .null]) (js := []) (rest := []) (st := [.null, .int n, .int i]) (ws2 := []) (pc2 := 8) kJ0_1059 (c_ckP l i n .null h1 h2 (Or.inl rfl)) rfl rfl rfl rfl rfl rfl rfl rfl rfl rfl ?_
    refine hV.run 1 [] (ws' := []) (pc' := 9) (ls' := [(0, .int i), (1, .int n)]) (st' := []) (ps := []) rfl trivial ?_
    exact hV.rv rfl rfl rfl ⟨rfl, rfl⟩
  · refine hV.cSi (as := [.int i, .int n, .retAddr 98]) (js := []) (rest := []) (st := [.retAddr 98, .int n, .int i]) (ws2 := []) (pc2 := 8) kJ0_1059 (c_ckP l i n (.retAddr 98) h1 h2 (Or.inr rfl)) rfl rfl rfl rfl rfl rfl rfl rfl rfl rfl ?_
    refine hV.run 1 [] (ws' := []) (pc' := 9) (ls' := [(0, .int i), (1, .int n)]) (st' := []) (ps := []) rfl trivial ?_
    exact hV.rv rfl rfl rfl ⟨rfl, rfl⟩
theorem c_l1c (l : Launch) (k : Nat) (hk : k < am_sn) (i : Int32) (h1 : ¬ i < 0) (h2 : i < am_slen k) : am_Con l yJ1_charAt_3b067 cJ1_charAt_3b067 2 (some .char) 3 [.retAddr (am_sn + k), .int i] [] (fun r w => r = some (.int (am_sch k i)) ∧ w = []) := by
  have hin : vp_in i (am_sB.getD k []).length := am_in1 h1 (fun q => absurd h2 (Int32.not_lt.mpr q)) (am_slt k hk)
  have hlt : i.toNatClampNeg < (am_sB.getD k []).length := Nat.not_le.mp (fun q => hin (Or.inr q))
  obtain ⟨e1, e2⟩ := am_sall k hk _ hlt
  refine am_met (own := RJ1) (cd := am_cdT' tJ1_charAt_3b067) (rf := am_rfL []) (ini := false) (by decide +kernel) rfl (by decide) dJ1_charAt_3b067 am_rf0 (Nat.le_of_ble_eq_true rfl) ?_
  intro V hV
  show V [] 0 [(0, .retAddr (am_sn + k)), (1, .int i)] []
  refine hV.run 2 [] (ws' := []) (pc' := 2) (ls' := [(0, .retAddr (am_sn + k)), (1, .int i)]) (st' := [.retAddr (am_sn + k), .int i]) (ps := []) rfl trivial ?_
  refine hV.sLen rfl hk ?_
  refine hV.cSv (as := [.int i, .int (am_slen k)]) (js := []) (rest := []) (st := [.int (am_slen k), .int i]) (ws2 := []) (pc2 := 6) kJ1_9 (c_ckS l i (am_slen k) h1 h2) rfl rfl rfl rfl rfl rfl rfl rfl rfl rfl ?_
  refine hV.run 2 [] (ws' := []) (pc' := 8) (ls' := [(0, .retAddr (am_sn + k)), (1, .int i)]) (st' := [.int i, .retAddr (am_sn + k)]) (ps := []) rfl trivial ?_
  refine hV.sByt rfl hk hin ?_
  refine hV.run 3 [] (pc := 9) (ws' := []) (pc' := 14) (ls' := [(0, .retAddr (am_sn + k)), (1, .int i)]) (st' := [.int (((am_sB.getD k []).getD i.toNatClampNeg 0 &&& 255).toUInt32 % 65536).toInt32]) (ps := []) rfl trivial ?_
  rw [e1]
  exact hV.sRet rfl e2 rfl rfl ⟨rfl, rfl⟩
theorem c_sch (l : Launch) (k : Nat) (hk : k < am_sn) (i : Int32) (h1 : ¬ i < 0) (h2 : i < am_slen k) : am_Con l yJ0_charAt_5068e cJ0_charAt_5068e 2 (some .char) 4 [.retAddr k, .int i] [] (fun r w => r = some (.int (am_sch k i)) ∧ w = []) := by
  have hin : vp_in i (am_sB.getD k []).length := am_in1 h1 (fun q => absurd h2 (Int32.not_lt.mpr q)) (am_slt k hk)
  have hlt : i.toNatClampNeg < (am_sB.getD k []).length := Nat.not_le.mp (fun q => hin (Or.inr q))
  obtain ⟨e1, e2⟩ := am_sall k hk _ hlt
  refine am_met (own := RJ0) (cd := am_cdT' tJ0_charAt_5068e) (rf := am_rfL []) (ini := false) (by decide +kernel) rfl (by decide) dJ0_charAt_5068e am_rf0 (Nat.le_of_ble_eq_true rfl) ?_
  intro V hV
  show V [] 0 [(0, .retAddr k), (1, .int i)] []
  refine hV.run 1 [] (ws' := []) (pc' := 1) (ls' := [(0, .retAddr k), (1, .int i)]) (st' := [.retAddr k]) (ps := []) rfl trivial ?_
  refine hV.cXi (as := []) (rest := []) (st := [.retAddr k]) (pc2 := 4) kJ0_492 (c_isLat l k hk) rfl rfl rfl rfl rfl rfl hk rfl rfl rfl ?_
  refine hV.run 2 [0] (ws' := []) (pc' := 8) (ls' := [(0, .retAddr k), (1, .int i)]) (st' := [.retAddr k]) (ps := [¬ (1 : Int32) = 0]) rfl ⟨by decide, trivial⟩ ?_
  refine hV.sVal rfl (am_wd 1945 (by decide +kernel) rfl) hk ?_
  refine hV.run 1 [] (pc := 11) (ws' := []) (pc' := 12) (ls' := [(0, .retAddr k), (1, .int i)]) (st' := [.int i, .retAddr (am_sn + k)]) (ps := []) rfl trivial ?_
  refine hV.cSi (as := [.retAddr (am_sn + k), .int i]) (js := []) (rest := []) (st := [.int i, .retAddr (am_sn + k)]) (ws2 := []) (pc2 := 15) kJ0_495 (c_l1c l k hk i h1 h2) rfl rfl rfl rfl rfl rfl rfl rfl rfl rfl ?_
  exact hV.sRet rfl e2 rfl rfl ⟨rfl, rfl⟩
theorem c_slen (l : Launch) (k : Nat) (hk : k < am_sn) : am_Con l yJ0_length_8abf5 cJ0_length_8abf5 1 (some .int) 2 [.retAddr k] [] (fun r w => r = some (.int (am_slen k)) ∧ w = []) := by
  refine am_met (own := RJ0) (cd := am_cdT' tJ0_length_8abf5) (rf := am_rfL []) (ini := false) (by decide +kernel) rfl (by decide) dJ0_length_8abf5 am_rf0 (Nat.le_of_ble_eq_true rfl) ?_
  intro V hV
  show V [] 0 [(0, .retAddr k)] []
  refine hV.run 1 [] (ws' := []) (pc' := 1) (ls' := [(0, .retAddr k)]) (st' := [.retAddr k]) (ps := []) rfl trivial ?_
  refine hV.sVal rfl (am_wd 1945 (by decide +kernel) rfl) hk ?_
  refine hV.sLen rfl hk ?_
  refine hV.run 1 [] (pc := 5) (ws' := []) (pc' := 6) (ls' := [(0, .retAddr k)]) (st' := [.retAddr k, .int (am_slen k)]) (ps := []) rfl trivial ?_
  refine hV.cXi (as := []) (rest := [.int (am_slen k)]) (st := [.retAddr k, .int (am_slen k)]) (pc2 := 9) kJ0_335 (c_coder l k hk) rfl rfl rfl rfl rfl rfl hk rfl rfl rfl ?_
  refine hV.run 1 [] (ws' := []) (pc' := 10) (ls' := [(0, .retAddr k)]) (st' := [.int (am_slen k >>> (0 &&& 31))]) (ps := []) rfl trivial ?_
  rw [am_sl0 k hk]
  exact hV.ri rfl rfl rfl ⟨rfl, rfl⟩
