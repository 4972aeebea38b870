abbrev am_tb : Type := List (List (Option (Instr × Nat × List Nat)))
def am_cdT' (t : am_tb) : am_cdT := fun pc => match t[pc / 32]? with
  | some r => (match r[pc % 32]? with
    | some q => q
    | none => none)
  | none => none
def am_cdc (cc : ByteArray) (nL pc : Nat) (q : Option (Instr × Nat × List Nat)) : Bool := match q with
  | none => true
  | some (ins, ln, tg) => decide (decode cc pc = .ok (ins, am_len ins ln)) && am_tg nL ins pc tg
def am_cdr (cc : ByteArray) (nL : Nat) : Nat → List (Option (Instr × Nat × List Nat)) → Bool
  | _, [] => true
  | pc, q :: r => am_cdc cc nL pc q && am_cdr cc nL (pc + 1) r
def am_cda (cc : ByteArray) (nL : Nat) : Nat → am_tb → Bool
  | _, [] => true
  | pc, r :: t => am_cdr cc nL pc r && am_cda cc nL (pc + 32) t
theorem am_cdr_ok {cc : ByteArray} {nL : Nat} : ∀ (r : List (Option (Instr × Nat × List Nat))) (pc : Nat), am_cdr cc nL pc r = true → ∀ (j : Nat) (q : Option (Instr × Nat × List Nat)), r[j]? = some q → am_cdc cc nL (pc + j) q = true := by
  intro r
  induction r with
  | nil => intro pc _ j q h; cases h
  | cons a r ih =>
    intro pc h j q hq
    simp only [am_cdr, Bool.and_eq_true] at h
    cases j with
    | zero => cases hq; exact h.1
    | succ j =>
      have := ih (pc + 1) h.2 j q hq
      rw [show pc + 1 + j = pc + (j + 1) by omega] at this
      exact this
theorem am_cda_ok {cc : ByteArray} {nL : Nat} : ∀ (t : am_tb) (pc : Nat), am_cda cc nL pc t = true → ∀ (i : Nat) (r : List (Option (Instr × Nat × List Nat))), t[i]? = some r → am_cdr cc nL (pc + 32 * i) r = true := by
  intro t
  induction t with
  | nil => intro pc _ j q h; cases h
  | cons a t ih =>
    intro pc h i q hq
    simp only [am_cda, Bool.and_eq_true] at h
    cases i with
    | zero => cases hq; exact h.1
    | succ i =>
      have := ih (pc + 32) h.2 i q hq
      rw [show pc + 32 + 32 * i = pc + 32 * (i + 1) by omega] at this
      exact this
theorem am_cd_ok {cc : ByteArray} {nL : Nat} {t : am_tb} (h : am_cda cc nL 0 t = true) : am_cdok cc nL (am_cdT' t) := by
  intro pc ins ln tg hq
  unfold am_cdT' at hq
  split at hq
  · rename_i r hr
    split at hq
    · rename_i q hq2
      subst hq
      have h1 := am_cdr_ok r _ (am_cda_ok t 0 h (pc / 32) r hr) (pc % 32) _ hq2
      rw [show 0 + 32 * (pc / 32) + pc % 32 = pc by omega] at h1
      simp only [am_cdc, Bool.and_eq_true, decide_eq_true_eq] at h1
      exact h1
    · cases hq
  · cases hq
def tX3_init : am_tb := [
  [some (.aload_n 0, 1, []), some (.invokespecial 3, 3, []), none, none, some (.aload_n 0, 1, []), some (.bipush 40, 2, []), none, some (.newarray .int, 2, []), none, some (.putfield 9, 3, []), none, none, some (.aload_n 0, 1, []), some (.bipush 40, 2, []), none, some (.newarray .int, 2, []), none, some (.putfield 15, 3, []), none, none, some (.aload_n 0, 1, []), some (.bipush 40, 2, []), none, some (.newarray .int, 2, []), none, some (.putfield 18, 3, []), none, none, some (.aload_n 0, 1, []), some (.bipush 40, 2, []), none, some (.newarray .int, 2, [])],
  [none, some (.putfield 21, 3, []), none, none, some (.aload_n 0, 1, []), some (.bipush 40, 2, []), none, some (.newarray .int, 2, []), none, some (.putfield 24, 3, []), none, none, some (.aload_n 0, 1, []), some (.bipush 120, 2, []), none, some (.newarray .int, 2, []), none, some (.putfield 27, 3, []), none, none, some (.aload_n 0, 1, []), some (.sipush 900, 3, []), none, none, some (.newarray .int, 2, []), none, some (.putfield 30, 3, []), none, none, some (.return_, 1, [])]]
theorem dX3_init : am_cdok cX3_init 1 (am_cdT' tX3_init) := am_cd_ok (by decide +kernel)
def tX3_clear : am_tb := [
  [some (.aload_n 0, 1, []), some (.iconst 0, 1, []), some (.putfield 33, 3, []), none, none, some (.aload_n 0, 1, []), some (.iconst 0, 1, []), some (.putfield 37, 3, []), none, none, some (.aload_n 0, 1, []), some (.iconst 0, 1, []), some (.putfield 40, 3, []), none, none, some (.return_, 1, [])]]
theorem dX3_clear : am_cdok cX3_clear 1 (am_cdT' tX3_clear) := am_cd_ok (by decide +kernel)
def tX3_open : am_tb := [
  [some (.aload_n 0, 1, []), some (.getfield 33, 3, []), none, none, some (.istore_n 2, 1, []), some (.aload_n 0, 1, []), some (.getfield 9, 3, []), none, none, some (.iload_n 2, 1, []), some (.iload_n 1, 1, []), some (.invokestatic 43, 3, []), none, none, some (.aload_n 0, 1, []), some (.getfield 15, 3, []), none, none, some (.iload_n 2, 1, []), some (.iload_n 2, 1, []), some (.iconst 1, 1, []), some (.iadd, 1, []), some (.invokestatic 43, 3, []), none, none, some (.aload_n 0, 1, []), some (.getfield 18, 3, []), none, none, some (.iload_n 2, 1, []), some (.iload_n 2, 1, []), some (.iconst 1, 1, [])],
  [some (.iadd, 1, []), some (.invokestatic 43, 3, []), none, none, some (.aload_n 0, 1, []), some (.getfield 21, 3, []), none, none, some (.iload_n 2, 1, []), some (.iconst 0, 1, []), some (.invokestatic 43, 3, []), none, none, some (.aload_n 0, 1, []), some (.getfield 24, 3, []), none, none, some (.iload_n 2, 1, []), some (.iconst 0, 1, []), some (.invokestatic 43, 3, []), none, none, some (.iconst 0, 1, []), some (.istore_n 3, 1, []), some (.iload_n 3, 1, []), some (.iconst 3, 1, []), some (.if_icmp .ge 22, 3, [80]), none, none, some (.aload_n 0, 1, []), some (.getfield 27, 3, []), none],
  [none, some (.iload_n 2, 1, []), some (.iconst 3, 1, []), some (.imul, 1, []), some (.iload_n 3, 1, []), some (.iadd, 1, []), some (.iconst (-1), 1, []), some (.invokestatic 43, 3, []), none, none, some (.iinc 3 1, 3, []), none, none, some (.goto (-21), 3, [56]), none, none, some (.aload_n 0, 1, []), some (.dup, 1, []), some (.getfield 33, 3, []), none, none, some (.iconst 1, 1, []), some (.iadd, 1, []), some (.putfield 33, 3, []), none, none, some (.iload_n 1, 1, []), some (.iconst 4, 1, []), some (.if_icmp .ne 13, 3, [105]), none, none, some (.aload_n 0, 1, [])],
  [some (.dup, 1, []), some (.getfield 37, 3, []), none, none, some (.iconst 1, 1, []), some (.iadd, 1, []), some (.putfield 37, 3, []), none, none, some (.iload_n 2, 1, []), some (.ireturn, 1, [])]]
theorem dX3_open : am_cdok cX3_open 4 (am_cdT' tX3_open) := am_cd_ok (by decide +kernel)
def tX3_close : am_tb := [
  [some (.iload_n 1, 1, []), some (.iconst 1, 1, []), some (.iadd, 1, []), some (.istore_n 3, 1, []), some (.iload_n 3, 1, []), some (.iload_n 2, 1, []), some (.if_icmp .ge 57, 3, [63]), none, none, some (.aload_n 0, 1, []), some (.getfield 15, 3, []), none, none, some (.iload_n 3, 1, []), some (.invokestatic 47, 3, []), none, none, some (.iload_n 2, 1, []), some (.if_icmp .ne 15, 3, [33]), none, none, some (.aload_n 0, 1, []), some (.getfield 15, 3, []), none, none, some (.iload_n 3, 1, []), some (.aload_n 0, 1, []), some (.getfield 33, 3, []), none, none, some (.invokestatic 43, 3, []), none],
  [none, some (.aload_n 0, 1, []), some (.getfield 18, 3, []), none, none, some (.iload_n 3, 1, []), some (.invokestatic 47, 3, []), none, none, some (.iload_n 2, 1, []), some (.if_icmp .ne 15, 3, [57]), none, none, some (.aload_n 0, 1, []), some (.getfield 18, 3, []), none, none, some (.iload_n 3, 1, []), some (.aload_n 0, 1, []), some (.getfield 33, 3, []), none, none, some (.invokestatic 43, 3, []), none, none, some (.iinc 3 1, 3, []), none, none, some (.goto (-56), 3, [4]), none, none, some (.aload_n 0, 1, [])],
  [some (.getfield 15, 3, []), none, none, some (.iload_n 1, 1, []), some (.iload_n 2, 1, []), some (.iload_n 1, 1, []), some (.iconst 1, 1, []), some (.iadd, 1, []), some (.if_icmp .ne 10, 3, [82]), none, none, some (.aload_n 0, 1, []), some (.getfield 33, 3, []), none, none, some (.goto 6, 3, [85]), none, none, some (.iload_n 1, 1, []), some (.iconst 1, 1, []), some (.iadd, 1, []), some (.invokestatic 43, 3, []), none, none, some (.aload_n 0, 1, []), some (.getfield 18, 3, []), none, none, some (.iload_n 1, 1, []), some (.iload_n 2, 1, []), some (.invokestatic 43, 3, []), none],
  [none, some (.return_, 1, [])]]
theorem dX3_close : am_cdok cX3_close 4 (am_cdT' tX3_close) := am_cd_ok (by decide +kernel)
def tX3_emit : am_tb := [
  [some (.aload_n 0, 1, []), some (.getfield 40, 3, []), none, none, some (.ifCond .lt 35, 3, [39]), none, none, some (.aload_n 0, 1, []), some (.getfield 40, 3, []), none, none, some (.aload_n 0, 1, []), some (.getfield 30, 3, []), none, none, some (.arraylength, 1, []), some (.if_icmp .ge 23, 3, [39]), none, none, some (.aload_n 0, 1, []), some (.getfield 30, 3, []), none, none, some (.aload_n 0, 1, []), some (.getfield 40, 3, []), none, none, some (.iload_n 1, 1, []), some (.iastore, 1, []), some (.aload_n 0, 1, []), some (.dup, 1, []), some (.getfield 40, 3, [])],
  [none, none, some (.iconst 1, 1, []), some (.iadd, 1, []), some (.putfield 40, 3, []), none, none, some (.return_, 1, [])]]
theorem dX3_emit : am_cdok cX3_emit 2 (am_cdT' tX3_emit) := am_cd_ok (by decide +kernel)
def tX3_kindOf : am_tb := [
  [some (.iload_n 1, 1, []), some (.ifCond .lt 22, 3, [23]), none, none, some (.iload_n 1, 1, []), some (.aload_n 0, 1, []), some (.getfield 33, 3, []), none, none, some (.if_icmp .ge 14, 3, [23]), none, none, some (.aload_n 0, 1, []), some (.getfield 9, 3, []), none, none, some (.iload_n 1, 1, []), some (.invokestatic 47, 3, []), none, none, some (.goto 4, 3, [24]), none, none, some (.iconst (-1), 1, []), some (.ireturn, 1, [])]]
theorem dX3_kindOf : am_cdok cX3_kindOf 2 (am_cdT' tX3_kindOf) := am_cd_ok (by decide +kernel)
def tX6_init : am_tb := [
  [some (.aload_n 0, 1, []), some (.invokespecial 3, 3, []), none, none, some (.aload_n 0, 1, []), some (.sipush 320, 3, []), none, none, some (.newarray .int, 2, []), none, some (.putfield 9, 3, []), none, none, some (.aload_n 0, 1, []), some (.sipush 320, 3, []), none, none, some (.newarray .int, 2, []), none, some (.putfield 15, 3, []), none, none, some (.aload_n 0, 1, []), some (.sipush 320, 3, []), none, none, some (.newarray .int, 2, []), none, some (.putfield 18, 3, []), none, none, some (.aload_n 0, 1, [])],
  [some (.sipush 320, 3, []), none, none, some (.newarray .int, 2, []), none, some (.putfield 21, 3, []), none, none, some (.return_, 1, [])]]
theorem dX6_init : am_cdok cX6_init 1 (am_cdT' tX6_init) := am_cd_ok (by decide +kernel)
def tX6_pair : am_tb := [
  [some (.iload_n 0, 1, []), some (.bipush 8, 2, []), none, some (.imul, 1, []), some (.iload_n 1, 1, []), some (.iadd, 1, []), some (.ireturn, 1, [])]]
theorem dX6_pair : am_cdok cX6_pair 2 (am_cdT' tX6_pair) := am_cd_ok (by decide +kernel)
def tX6_pairAt : am_tb := [
  [some (.aload_n 0, 1, []), some (.getfield 9, 3, []), none, none, some (.iload_n 1, 1, []), some (.invokestatic 24, 3, []), none, none, some (.bipush 8, 2, []), none, some (.ishr, 1, []), some (.ireturn, 1, [])]]
theorem dX6_pairAt : am_cdok cX6_pairAt 2 (am_cdT' tX6_pairAt) := am_cd_ok (by decide +kernel)
def tX6_senderAt : am_tb := [
  [some (.aload_n 0, 1, []), some (.iload_n 1, 1, []), some (.invokevirtual 28, 3, []), none, none, some (.bipush 8, 2, []), none, some (.idiv, 1, []), some (.ireturn, 1, [])]]
theorem dX6_senderAt : am_cdok cX6_senderAt 2 (am_cdT' tX6_senderAt) := am_cd_ok (by decide +kernel)
def tX6_sizeAt : am_tb := [
  [some (.aload_n 0, 1, []), some (.getfield 9, 3, []), none, none, some (.iload_n 1, 1, []), some (.invokestatic 24, 3, []), none, none, some (.iconst 1, 1, []), some (.ishr, 1, []), some (.bipush 127, 2, []), none, some (.iand, 1, []), some (.ireturn, 1, [])]]
theorem dX6_sizeAt : am_cdok cX6_sizeAt 2 (am_cdT' tX6_sizeAt) := am_cd_ok (by decide +kernel)
def tX6_begunAt : am_tb := [
  [some (.aload_n 0, 1, []), some (.getfield 9, 3, []), none, none, some (.iload_n 1, 1, []), some (.invokestatic 24, 3, []), none, none, some (.iconst 1, 1, []), some (.iand, 1, []), some (.iconst 1, 1, []), some (.if_icmp .ne 7, 3, [18]), none, none, some (.iconst 1, 1, []), some (.goto 4, 3, [19]), none, none, some (.iconst 0, 1, []), some (.ireturn, 1, [])]]
theorem dX6_begunAt : am_cdok cX6_begunAt 2 (am_cdT' tX6_begunAt) := am_cd_ok (by decide +kernel)
def tX6_first : am_tb := [
  [some (.iload_n 1, 1, []), some (.iload_n 2, 1, []), some (.invokestatic 32, 3, []), none, none, some (.istore 4, 2, []), none, some (.iconst 0, 1, []), some (.istore 5, 2, []), none, some (.iload 5, 2, []), none, some (.aload_n 0, 1, []), some (.getfield 36, 3, []), none, none, some (.if_icmp .ge 36, 3, [52]), none, none, some (.aload_n 0, 1, []), some (.iload 5, 2, []), none, some (.invokevirtual 28, 3, []), none, none, some (.iload 4, 2, []), none, some (.if_icmp .ne 19, 3, [46]), none, none, some (.aload_n 0, 1, []), some (.getfield 15, 3, [])],
  [none, none, some (.iload 5, 2, []), none, some (.invokestatic 24, 3, []), none, none, some (.iload_n 3, 1, []), some (.if_icmp .ne 6, 3, [46]), none, none, some (.iload 5, 2, []), none, some (.ireturn, 1, []), some (.iinc 5 1, 3, []), none, none, some (.goto (-39), 3, [10]), none, none, some (.iconst (-1), 1, []), some (.ireturn, 1, [])]]
theorem dX6_first : am_cdok cX6_first 6 (am_cdT' tX6_first) := am_cd_ok (by decide +kernel)
def tX6_sentBetween : am_tb := [
  [some (.iload_n 1, 1, []), some (.iload_n 2, 1, []), some (.invokestatic 32, 3, []), none, none, some (.istore_n 3, 1, []), some (.iconst 0, 1, []), some (.istore 4, 2, []), none, some (.iconst 0, 1, []), some (.istore 5, 2, []), none, some (.iload 5, 2, []), none, some (.aload_n 0, 1, []), some (.getfield 36, 3, []), none, none, some (.if_icmp .ge 31, 3, [49]), none, none, some (.aload_n 0, 1, []), some (.iload 5, 2, []), none, some (.invokevirtual 28, 3, []), none, none, some (.iload_n 3, 1, []), some (.if_icmp .ne 15, 3, [43]), none, none, some (.aload_n 0, 1, [])],
  [some (.iload 5, 2, []), none, some (.invokevirtual 40, 3, []), none, none, some (.ifCond .ne 6, 3, [43]), none, none, some (.iinc 4 1, 3, []), none, none, some (.iinc 5 1, 3, []), none, none, some (.goto (-34), 3, [12]), none, none, some (.iload 4, 2, []), none, some (.ireturn, 1, [])]]
theorem dX6_sentBetween : am_cdok cX6_sentBetween 6 (am_cdT' tX6_sentBetween) := am_cd_ok (by decide +kernel)
def tX6_begunBy : am_tb := [
  [some (.iconst 0, 1, []), some (.istore_n 2, 1, []), some (.iconst 0, 1, []), some (.istore_n 3, 1, []), some (.iload_n 3, 1, []), some (.aload_n 0, 1, []), some (.getfield 36, 3, []), none, none, some (.if_icmp .ge 39, 3, [48]), none, none, some (.aload_n 0, 1, []), some (.iload_n 3, 1, []), some (.invokevirtual 40, 3, []), none, none, some (.ifCond .eq 25, 3, [42]), none, none, some (.aload_n 0, 1, []), some (.iload_n 3, 1, []), some (.invokevirtual 44, 3, []), none, none, some (.iload_n 1, 1, []), some (.if_icmp .ne 16, 3, [42]), none, none, some (.iload_n 2, 1, []), some (.iconst 1, 1, []), some (.aload_n 0, 1, [])],
  [some (.iload_n 3, 1, []), some (.invokevirtual 28, 3, []), none, none, some (.bipush 8, 2, []), none, some (.irem, 1, []), some (.ishl, 1, []), some (.ior, 1, []), some (.istore_n 2, 1, []), some (.iinc 3 1, 3, []), none, none, some (.goto (-41), 3, [4]), none, none, some (.iload_n 2, 1, []), some (.ireturn, 1, [])]]
theorem dX6_begunBy : am_cdok cX6_begunBy 4 (am_cdT' tX6_begunBy) := am_cd_ok (by decide +kernel)
def tX6_add : am_tb := [
  [some (.aload_n 0, 1, []), some (.getfield 36, 3, []), none, none, some (.sipush 320, 3, []), none, none, some (.if_icmp .lt 4, 3, [11]), none, none, some (.return_, 1, []), some (.aload_n 0, 1, []), some (.getfield 36, 3, []), none, none, some (.istore 6, 2, []), none, some (.iload 6, 2, []), none, some (.ifCond .le 31, 3, [50]), none, none, some (.aload_n 0, 1, []), some (.iload 6, 2, []), none, some (.iconst 1, 1, []), some (.isub, 1, []), some (.invokevirtual 28, 3, []), none, none, some (.iload_n 1, 1, []), some (.if_icmp .le 19, 3, [50])],
  [none, none, some (.aload_n 0, 1, []), some (.iload 6, 2, []), none, some (.iconst 1, 1, []), some (.isub, 1, []), some (.iload 6, 2, []), none, some (.invokevirtual 47, 3, []), none, none, some (.iinc 6 (-1), 3, []), none, none, some (.goto (-30), 3, [17]), none, none, some (.aload_n 0, 1, []), some (.getfield 9, 3, []), none, none, some (.iload 6, 2, []), none, some (.iload_n 1, 1, []), some (.bipush 8, 2, []), none, some (.ishl, 1, []), some (.iload 4, 2, []), none, some (.ior, 1, []), some (.invokestatic 51, 3, [])],
  [none, none, some (.aload_n 0, 1, []), some (.getfield 15, 3, []), none, none, some (.iload 6, 2, []), none, some (.iload_n 2, 1, []), some (.invokestatic 51, 3, []), none, none, some (.aload_n 0, 1, []), some (.getfield 18, 3, []), none, none, some (.iload 6, 2, []), none, some (.iload_n 3, 1, []), some (.invokestatic 51, 3, []), none, none, some (.aload_n 0, 1, []), some (.getfield 21, 3, []), none, none, some (.iload 6, 2, []), none, some (.iload 5, 2, []), none, some (.invokestatic 51, 3, []), none],
  [none, some (.aload_n 0, 1, []), some (.dup, 1, []), some (.getfield 36, 3, []), none, none, some (.iconst 1, 1, []), some (.iadd, 1, []), some (.putfield 36, 3, []), none, none, some (.return_, 1, [])]]
theorem dX6_add : am_cdok cX6_add 7 (am_cdT' tX6_add) := am_cd_ok (by decide +kernel)
def tX6_remove : am_tb := [
  [some (.iload_n 1, 1, []), some (.ifCond .lt 11, 3, [12]), none, none, some (.iload_n 1, 1, []), some (.aload_n 0, 1, []), some (.getfield 36, 3, []), none, none, some (.if_icmp .lt 4, 3, [13]), none, none, some (.return_, 1, []), some (.iload_n 1, 1, []), some (.iconst 1, 1, []), some (.iadd, 1, []), some (.istore_n 2, 1, []), some (.iload_n 2, 1, []), some (.aload_n 0, 1, []), some (.getfield 36, 3, []), none, none, some (.if_icmp .ge 17, 3, [39]), none, none, some (.aload_n 0, 1, []), some (.iload_n 2, 1, []), some (.iload_n 2, 1, []), some (.iconst 1, 1, []), some (.isub, 1, []), some (.invokevirtual 47, 3, []), none],
  [none, some (.iinc 2 1, 3, []), none, none, some (.goto (-19), 3, [17]), none, none, some (.aload_n 0, 1, []), some (.dup, 1, []), some (.getfield 36, 3, []), none, none, some (.iconst 1, 1, []), some (.isub, 1, []), some (.putfield 36, 3, []), none, none, some (.return_, 1, [])]]
theorem dX6_remove : am_cdok cX6_remove 3 (am_cdT' tX6_remove) := am_cd_ok (by decide +kernel)
def tX6_copy : am_tb := [
  [some (.aload_n 0, 1, []), some (.getfield 9, 3, []), none, none, some (.iload_n 2, 1, []), some (.aload_n 0, 1, []), some (.getfield 9, 3, []), none, none, some (.iload_n 1, 1, []), some (.invokestatic 24, 3, []), none, none, some (.invokestatic 51, 3, []), none, none, some (.aload_n 0, 1, []), some (.getfield 15, 3, []), none, none, some (.iload_n 2, 1, []), some (.aload_n 0, 1, []), some (.getfield 15, 3, []), none, none, some (.iload_n 1, 1, []), some (.invokestatic 24, 3, []), none, none, some (.invokestatic 51, 3, []), none, none],
  [some (.aload_n 0, 1, []), some (.getfield 18, 3, []), none, none, some (.iload_n 2, 1, []), some (.aload_n 0, 1, []), some (.getfield 18, 3, []), none, none, some (.iload_n 1, 1, []), some (.invokestatic 24, 3, []), none, none, some (.invokestatic 51, 3, []), none, none, some (.aload_n 0, 1, []), some (.getfield 21, 3, []), none, none, some (.iload_n 2, 1, []), some (.aload_n 0, 1, []), some (.getfield 21, 3, []), none, none, some (.iload_n 1, 1, []), some (.invokestatic 24, 3, []), none, none, some (.invokestatic 51, 3, []), none, none],
  [some (.return_, 1, [])]]
theorem dX6_copy : am_cdok cX6_copy 3 (am_cdT' tX6_copy) := am_cd_ok (by decide +kernel)
def tX5_init : am_tb := [
  [some (.aload_n 0, 1, []), some (.invokespecial 3, 3, []), none, none, some (.aload_n 0, 1, []), some (.sipush 700, 3, []), none, none, some (.newarray .int, 2, []), none, some (.putfield 9, 3, []), none, none, some (.aload_n 0, 1, []), some (.sipush 701, 3, []), none, none, some (.newarray .int, 2, []), none, some (.putfield 15, 3, []), none, none, some (.aload_n 0, 1, []), some (.sipush 701, 3, []), none, none, some (.newarray .int, 2, []), none, some (.putfield 18, 3, []), none, none, some (.aload_n 0, 1, [])],
  [some (.sipush 701, 3, []), none, none, some (.newarray .int, 2, []), none, some (.putfield 21, 3, []), none, none, some (.return_, 1, [])]]
theorem dX5_init : am_cdok cX5_init 1 (am_cdT' tX5_init) := am_cd_ok (by decide +kernel)
def tX5_add : am_tb := [
  [some (.bipush 24, 2, []), none, some (.istore_n 2, 1, []), some (.iload_n 2, 1, []), some (.ifCond .lt 37, 3, [41]), none, none, some (.aload_n 0, 1, []), some (.getfield 9, 3, []), none, none, some (.aload_n 0, 1, []), some (.getfield 24, 3, []), none, none, some (.iload_n 1, 1, []), some (.iload_n 2, 1, []), some (.iushr, 1, []), some (.sipush 255, 3, []), none, none, some (.iand, 1, []), some (.invokestatic 28, 3, []), none, none, some (.aload_n 0, 1, []), some (.dup, 1, []), some (.getfield 24, 3, []), none, none, some (.iconst 1, 1, []), some (.iadd, 1, [])],
  [some (.putfield 24, 3, []), none, none, some (.iinc 2 (-8), 3, []), none, none, some (.goto (-35), 3, [3]), none, none, some (.return_, 1, [])]]
theorem dX5_add : am_cdok cX5_add 3 (am_cdT' tX5_add) := am_cd_ok (by decide +kernel)
def tX5_scan : am_tb := [
  [some (.aload_n 0, 1, []), some (.iconst 0, 1, []), some (.putfield 32, 3, []), none, none, some (.aload_n 0, 1, []), some (.iconst 0, 1, []), some (.putfield 35, 3, []), none, none, some (.iconst 0, 1, []), some (.istore_n 2, 1, []), some (.iconst 0, 1, []), some (.istore_n 3, 1, []), some (.iload_n 3, 1, []), some (.sipush 700, 3, []), none, none, some (.if_icmp .ge 52, 3, [70]), none, none, some (.iload_n 2, 1, []), some (.iload_n 1, 1, []), some (.if_icmp .ge 47, 3, [70]), none, none, some (.aload_n 0, 1, []), some (.iload_n 2, 1, []), some (.iload_n 1, 1, []), some (.invokevirtual 38, 3, []), none, none],
  [some (.istore 4, 2, []), none, some (.aload_n 0, 1, []), some (.iload_n 2, 1, []), some (.invokevirtual 42, 3, []), none, none, some (.ifCond .ne 22, 3, [61]), none, none, some (.aload_n 0, 1, []), some (.aload_n 0, 1, []), some (.iload_n 2, 1, []), some (.iload 4, 2, []), none, some (.invokevirtual 46, 3, []), none, none, some (.iload_n 2, 1, []), some (.aload_n 0, 1, []), some (.iload_n 2, 1, []), some (.iload 4, 2, []), none, some (.invokevirtual 49, 3, []), none, none, some (.invokevirtual 52, 3, []), none, none, some (.iload 4, 2, []), none, some (.istore_n 2, 1, [])],
  [some (.iinc 3 1, 3, []), none, none, some (.goto (-53), 3, [14]), none, none, some (.aload_n 0, 1, []), some (.bipush 28, 2, []), none, some (.iload_n 1, 1, []), some (.iconst 0, 1, []), some (.invokevirtual 52, 3, []), none, none, some (.return_, 1, [])]]
theorem dX5_scan : am_cdok cX5_scan 5 (am_cdT' tX5_scan) := am_cd_ok (by decide +kernel)
def tX5_addToken : am_tb := [
  [some (.aload_n 0, 1, []), some (.getfield 15, 3, []), none, none, some (.aload_n 0, 1, []), some (.getfield 32, 3, []), none, none, some (.iload_n 1, 1, []), some (.invokestatic 28, 3, []), none, none, some (.aload_n 0, 1, []), some (.getfield 18, 3, []), none, none, some (.aload_n 0, 1, []), some (.getfield 32, 3, []), none, none, some (.iload_n 2, 1, []), some (.invokestatic 28, 3, []), none, none, some (.aload_n 0, 1, []), some (.getfield 21, 3, []), none, none, some (.aload_n 0, 1, []), some (.getfield 32, 3, []), none, none],
  [some (.iload_n 3, 1, []), some (.invokestatic 28, 3, []), none, none, some (.aload_n 0, 1, []), some (.dup, 1, []), some (.getfield 32, 3, []), none, none, some (.iconst 1, 1, []), some (.iadd, 1, []), some (.putfield 32, 3, []), none, none, some (.return_, 1, [])]]
theorem dX5_addToken : am_cdok cX5_addToken 4 (am_cdT' tX5_addToken) := am_cd_ok (by decide +kernel)
def tX5_isBlank : am_tb := [
  [some (.aload_n 0, 1, []), some (.getfield 9, 3, []), none, none, some (.iload_n 1, 1, []), some (.invokestatic 56, 3, []), none, none, some (.istore_n 2, 1, []), some (.iload_n 2, 1, []), some (.bipush 32, 2, []), none, some (.if_icmp .eq 9, 3, [21]), none, none, some (.iload_n 2, 1, []), some (.bipush 10, 2, []), none, some (.if_icmp .ne 7, 3, [25]), none, none, some (.iconst 1, 1, []), some (.goto 4, 3, [26]), none, none, some (.iconst 0, 1, []), some (.ireturn, 1, [])]]
theorem dX5_isBlank : am_cdok cX5_isBlank 3 (am_cdT' tX5_isBlank) := am_cd_ok (by decide +kernel)
def tX5_classOf : am_tb := [
  [some (.aload_n 0, 1, []), some (.getfield 9, 3, []), none, none, some (.iload_n 1, 1, []), some (.invokestatic 56, 3, []), none, none, some (.istore_n 2, 1, []), some (.iload_n 2, 1, []), some (.bipush 97, 2, []), none, some (.if_icmp .lt 11, 3, [23]), none, none, some (.iload_n 2, 1, []), some (.bipush 122, 2, []), none, some (.if_icmp .gt 5, 3, [23]), none, none, some (.iconst 1, 1, []), some (.ireturn, 1, []), some (.iload_n 2, 1, []), some (.bipush 48, 2, []), none, some (.if_icmp .lt 13, 3, [39]), none, none, some (.iload_n 2, 1, []), some (.bipush 57, 2, []), none],
  [some (.if_icmp .gt 7, 3, [39]), none, none, some (.iconst 2, 1, []), some (.goto 4, 3, [40]), none, none, some (.iconst 3, 1, []), some (.ireturn, 1, [])]]
theorem dX5_classOf : am_cdok cX5_classOf 3 (am_cdT' tX5_classOf) := am_cd_ok (by decide +kernel)
def tX5_endOf : am_tb := [
  [some (.aload_n 0, 1, []), some (.iload_n 1, 1, []), some (.invokevirtual 60, 3, []), none, none, some (.istore_n 3, 1, []), some (.iload_n 1, 1, []), some (.iconst 1, 1, []), some (.iadd, 1, []), some (.istore 4, 2, []), none, some (.iload 4, 2, []), none, some (.iload_n 2, 1, []), some (.if_icmp .ge 24, 3, [38]), none, none, some (.iload_n 3, 1, []), some (.iconst 3, 1, []), some (.if_icmp .eq 19, 3, [38]), none, none, some (.aload_n 0, 1, []), some (.iload 4, 2, []), none, some (.invokevirtual 60, 3, []), none, none, some (.iload_n 3, 1, []), some (.if_icmp .ne 9, 3, [38]), none, none],
  [some (.iinc 4 1, 3, []), none, none, some (.goto (-24), 3, [11]), none, none, some (.iload 4, 2, []), none, some (.ireturn, 1, [])]]
theorem dX5_endOf : am_cdok cX5_endOf 5 (am_cdT' tX5_endOf) := am_cd_ok (by decide +kernel)
def tX5_sortOf : am_tb := [
  [some (.aload_n 0, 1, []), some (.iload_n 1, 1, []), some (.invokevirtual 60, 3, []), none, none, some (.lookupswitch 37 #[(1, 27), (2, 34)], 27, [42, 32, 39]), none, none, none, none, none, none, none, none, none, none, none, none, none, none, none, none, none, none, none, none, none, none, none, none, none, none],
  [some (.aload_n 0, 1, []), some (.iload_n 1, 1, []), some (.iload_n 2, 1, []), some (.invokevirtual 64, 3, []), none, none, some (.ireturn, 1, []), some (.bipush 27, 2, []), none, some (.ireturn, 1, []), some (.bipush 100, 2, []), none, some (.aload_n 0, 1, []), some (.getfield 9, 3, []), none, none, some (.iload_n 1, 1, []), some (.invokestatic 56, 3, []), none, none, some (.iadd, 1, []), some (.ireturn, 1, [])]]
theorem dX5_sortOf : am_cdok cX5_sortOf 3 (am_cdT' tX5_sortOf) := am_cd_ok (by decide +kernel)
def tX5_numberOf : am_tb := [
  [some (.aload_n 0, 1, []), some (.iload_n 1, 1, []), some (.invokevirtual 60, 3, []), none, none, some (.iconst 2, 1, []), some (.if_icmp .eq 5, 3, [11]), none, none, some (.iconst 0, 1, []), some (.ireturn, 1, []), some (.iload_n 2, 1, []), some (.iload_n 1, 1, []), some (.isub, 1, []), some (.iconst 4, 1, []), some (.if_icmp .le 5, 3, [20]), none, none, some (.iconst (-1), 1, []), some (.ireturn, 1, []), some (.iconst 0, 1, []), some (.istore_n 3, 1, []), some (.iload_n 1, 1, []), some (.istore 4, 2, []), none, some (.iload 4, 2, []), none, some (.iload_n 2, 1, []), some (.if_icmp .ge 27, 3, [55]), none, none, some (.iload_n 3, 1, [])],
  [some (.bipush 10, 2, []), none, some (.imul, 1, []), some (.aload_n 0, 1, []), some (.getfield 9, 3, []), none, none, some (.iload 4, 2, []), none, some (.invokestatic 56, 3, []), none, none, some (.iadd, 1, []), some (.bipush 48, 2, []), none, some (.isub, 1, []), some (.istore_n 3, 1, []), some (.iinc 4 1, 3, []), none, none, some (.goto (-27), 3, [25]), none, none, some (.iload_n 3, 1, []), some (.ireturn, 1, [])]]
theorem dX5_numberOf : am_cdok cX5_numberOf 5 (am_cdT' tX5_numberOf) := am_cd_ok (by decide +kernel)
def tX5_wordOf : am_tb := [
  [some (.iconst 0, 1, []), some (.istore_n 3, 1, []), some (.iconst 0, 1, []), some (.istore 4, 2, []), none, some (.iconst 0, 1, []), some (.istore 5, 2, []), none, some (.iload 5, 2, []), none, some (.ldc 67, 2, []), none, some (.invokevirtual 69, 3, []), none, none, some (.if_icmp .gt 65, 3, [80]), none, none, some (.iload 5, 2, []), none, some (.ldc 67, 2, []), none, some (.invokevirtual 69, 3, []), none, none, some (.if_icmp .eq 15, 3, [40]), none, none, some (.ldc 67, 2, []), none, some (.iload 5, 2, []), none],
  [some (.invokevirtual 75, 3, []), none, none, some (.bipush 32, 2, []), none, some (.if_icmp .ne 37, 3, [74]), none, none, some (.iload 5, 2, []), none, some (.iload 4, 2, []), none, some (.isub, 1, []), some (.iload_n 2, 1, []), some (.iload_n 1, 1, []), some (.isub, 1, []), some (.if_icmp .ne 17, 3, [65]), none, none, some (.aload_n 0, 1, []), some (.iload_n 1, 1, []), some (.iload 4, 2, []), none, some (.iload 5, 2, []), none, some (.invokevirtual 79, 3, []), none, none, some (.ifCond .eq 5, 3, [65]), none, none, some (.iload_n 3, 1, [])],
  [some (.ireturn, 1, []), some (.iinc 3 1, 3, []), none, none, some (.iload 5, 2, []), none, some (.iconst 1, 1, []), some (.iadd, 1, []), some (.istore 4, 2, []), none, some (.iinc 5 1, 3, []), none, none, some (.goto (-69), 3, [8]), none, none, some (.bipush 26, 2, []), none, some (.ireturn, 1, [])]]
theorem dX5_wordOf : am_cdok cX5_wordOf 6 (am_cdT' tX5_wordOf) := am_cd_ok (by decide +kernel)
def tX5_matches : am_tb := [
  [some (.iload_n 2, 1, []), some (.istore 4, 2, []), none, some (.iload 4, 2, []), none, some (.ifCond .lt 50, 3, [55]), none, none, some (.iload 4, 2, []), none, some (.iload_n 3, 1, []), some (.if_icmp .ge 44, 3, [55]), none, none, some (.iload 4, 2, []), none, some (.ldc 67, 2, []), none, some (.invokevirtual 69, 3, []), none, none, some (.if_icmp .ge 34, 3, [55]), none, none, some (.ldc 67, 2, []), none, some (.iload 4, 2, []), none, some (.invokevirtual 75, 3, []), none, none, some (.aload_n 0, 1, [])],
  [some (.getfield 9, 3, []), none, none, some (.iload_n 1, 1, []), some (.iload 4, 2, []), none, some (.iadd, 1, []), some (.iload_n 2, 1, []), some (.isub, 1, []), some (.invokestatic 56, 3, []), none, none, some (.if_icmp .eq 5, 3, [49]), none, none, some (.iconst 0, 1, []), some (.ireturn, 1, []), some (.iinc 4 1, 3, []), none, none, some (.goto (-49), 3, [3]), none, none, some (.iconst 1, 1, []), some (.ireturn, 1, [])]]
theorem dX5_matches : am_cdok cX5_matches 5 (am_cdT' tX5_matches) := am_cd_ok (by decide +kernel)
def tX5_sort : am_tb := [
  [some (.aload_n 0, 1, []), some (.getfield 15, 3, []), none, none, some (.aload_n 0, 1, []), some (.getfield 35, 3, []), none, none, some (.invokestatic 56, 3, []), none, none, some (.ireturn, 1, [])]]
theorem dX5_sort : am_cdok cX5_sort 1 (am_cdT' tX5_sort) := am_cd_ok (by decide +kernel)
def tX5_number : am_tb := [
  [some (.aload_n 0, 1, []), some (.getfield 21, 3, []), none, none, some (.aload_n 0, 1, []), some (.getfield 35, 3, []), none, none, some (.invokestatic 56, 3, []), none, none, some (.ireturn, 1, [])]]
theorem dX5_number : am_cdok cX5_number 1 (am_cdT' tX5_number) := am_cd_ok (by decide +kernel)
def tX5_advance : am_tb := [
  [some (.aload_n 0, 1, []), some (.getfield 35, 3, []), none, none, some (.aload_n 0, 1, []), some (.getfield 32, 3, []), none, none, some (.iconst 1, 1, []), some (.isub, 1, []), some (.if_icmp .ge 13, 3, [23]), none, none, some (.aload_n 0, 1, []), some (.dup, 1, []), some (.getfield 35, 3, []), none, none, some (.iconst 1, 1, []), some (.iadd, 1, []), some (.putfield 35, 3, []), none, none, some (.return_, 1, [])]]
theorem dX5_advance : am_cdok cX5_advance 1 (am_cdT' tX5_advance) := am_cd_ok (by decide +kernel)
