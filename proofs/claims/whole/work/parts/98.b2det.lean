/-! WHAT EXPLORING TELLS hangs on the script, HANDS, ROOM and what is left out alone -/
theorem vE_t {u v w : VT} (a : vE u v) (b : vE v w) : vE u w := by
  obtain ⟨a1, a2, a3, a4⟩ := a
  obtain ⟨b1, b2, b3, b4⟩ := b
  refine ⟨a1.trans b1, a2.trans b2, fun x hx => (a3 x hx).trans (b3 x hx), fun q => ?_⟩
  obtain ⟨c1, c2⟩ := a4 q
  obtain ⟨d1, d2⟩ := b4 (by rw [← a1]; exact q)
  exact ⟨c1.trans d1, fun e he c hc => (c2 e he c hc).trans (d2 e (by omega) c hc)⟩
theorem xRes_t {n : Nat} {τ : Nat → Int64} {P R : am_M} {m : Nat} {room : Int32} {out : Int64} {v w : VT} (e : vE v w) (h : xRes n τ P R m room out v) : xRes n τ P R m room out w := by
  obtain ⟨P', R', T, y1, y2, y3, y4, y5, y6, y7⟩ := h
  rw [e.1] at y2 y3
  exact ⟨P', R', T, y1, y2, y3, vC_t e y4, vG_t e y5, vT_t e y6, y7⟩
/-- a script's contents, the class's and the reference's -/
def okP (F : am_M) (P : am_M) : Prop := ∀ c, 12 ≤ c → c < 20 → P c = F c
def okR (H : am_M) (R : am_M) : Prop := ∀ c, 4 ≤ c → c ≤ 13 → R c = H c
theorem okP_scr {n : Nat} {F H P R : am_M} {N : Nat} {kd nx ot : Nat → Nat} {G : Nat → Nat → List Int32} (hs : rScr n (am_sub F 1) H N kd nx ot G) (hP : okP F P) (hR : okR H R) : rScr n (am_sub P 1) R N kd nx ot G := rScr_congr (S := am_sub F 1) (σ := H) (fun c h1 h2 => hP (1 + c) (by omega) (by omega)) (fun c h1 h2 => hR c h1 h2) hs
def okX (n : Nat) (F H : am_M) (N : Nat) (kd : Nat → Nat) (P R : am_M) (m : Nat) (room : Int32) (out : Int64) : Prop := okP F P ∧ okR H R ∧ rOut (fun _ => out) R N kd ∧ 2 ≤ m ∧ m ≤ 8 ∧ R 0 3 = nI m ∧ R 0 4 = room
theorem det (n : Nat) (hn : 2200 < n) {F H : am_M} {N : Nat} {kd nx ot : Nat → Nat} {G : Nat → Nat → List Int32} (hs : rScr n (am_sub F 1) H N kd nx ot G) : ∃ D : Nat → Int32 → Int64 → VT, ∀ (τ : Nat → Int64) (P R : am_M) (m : Nat) (room : Int32) (out : Int64), okX n F H N kd P R m room out → xRes n τ P R m room out (D m room out) := by
  have key : ∀ (m : Nat) (room : Int32) (out : Int64), ∃ v, ∀ (τ : Nat → Int64) (P R : am_M), okX n F H N kd P R m room out → xRes n τ P R m room out v := by
    intro m room out
    have base : ∀ (τ : Nat → Int64) (P R : am_M), okX n F H N kd P R m room out → ∃ v, xRes n τ P R m room out v := fun τ P R ⟨h1, h2, h3, h4, h5, h6, h7⟩ => expl_vis n hn (τ := τ) (okP_scr hs h1 h2) h3 h4 h5 h6 h7
    by_cases hex : ∃ (τ : Nat → Int64) (P R : am_M), okX n F H N kd P R m room out
    · obtain ⟨τ0, P0, R0, h0⟩ := hex
      obtain ⟨v, hv⟩ := base τ0 P0 R0 h0
      refine ⟨v, fun τ P R h => ?_⟩
      obtain ⟨u, hu⟩ := base τ P R h
      obtain ⟨w, hw⟩ := base τ0 P0 R ⟨h0.1, h.2⟩
      obtain ⟨A1, A2, A3, a1, a2, a3, a4, a5, a6, -⟩ := hv
      obtain ⟨B1, B2, B3, b1, b2, b3, b4, b5, b6, -⟩ := hw
      have hu0 := hu
      obtain ⟨C1, C2, C3, c1, c2, c3, c4, c5, c6, -⟩ := hu
      have e1 : B1 = A1 := by
        rw [a1] at b1
        exact (congrArg (fun z => z.1) (Option.some.inj b1)).symm
      subst e1
      have e2 : B2 = C2 := by
        rw [c2] at b2
        exact (congrArg (fun z => z.2) (Option.some.inj b2)).symm
      subst e2
      have e3 : B3 = C3 := by
        rw [c3] at b3
        exact (congrArg (fun z => z.2) (Option.some.inj b3)).symm
      subst e3
      exact xRes_t (vE_t (vT_E c6 b6) (vC_E b4 a4)) hu0
    · refine ⟨(0, 0, fun _ => 0, 0, fun _ _ => 0), fun τ P R h => absurd ⟨τ, P, R, h⟩ hex⟩
  obtain ⟨D, hD⟩ := Classical.axiomOfChoice (r := fun (q : Nat × Int32 × Int64) v => ∀ (τ : Nat → Int64) (P R : am_M), okX n F H N kd P R q.1 q.2.1 q.2.2 → xRes n τ P R q.1 q.2.1 q.2.2 v) (fun q => key q.1 q.2.1 q.2.2)
  exact ⟨fun m room out => D (m, room, out), fun τ P R m room out h => hD (m, room, out) τ P R h⟩
