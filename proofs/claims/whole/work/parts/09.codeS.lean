def tJ0_coder_7d493 : am_tb := [
  [some (.getstatic 38, 3, []), none, none, some (.ifCond .eq 10, 3, [13]), none, none, some (.aload_n 0, 1, []), some (.getfield 15, 3, []), none, none, some (.goto 4, 3, [14]), none, none, some (.iconst 1, 1, []), some (.ireturn, 1, [])]]
theorem dJ0_coder_7d493 : am_cdok cJ0_coder_7d493 1 (am_cdT' tJ0_coder_7d493) := am_cd_ok (by decide +kernel)
def tJ0_isLatin1_aae02 : am_tb := [
  [some (.getstatic 38, 3, []), none, none, some (.ifCond .eq 14, 3, [17]), none, none, some (.aload_n 0, 1, []), some (.getfield 15, 3, []), none, none, some (.ifCond .ne 7, 3, [17]), none, none, some (.iconst 1, 1, []), some (.goto 4, 3, [18]), none, none, some (.iconst 0, 1, []), some (.ireturn, 1, [])]]
theorem dJ0_isLatin1_aae02 : am_cdok cJ0_isLatin1_aae02 1 (am_cdT' tJ0_isLatin1_aae02) := am_cd_ok (by decide +kernel)
def tJ0_checkIndex_df160 : am_tb := [
  [some (.iload_n 0, 1, []), some (.iload_n 1, 1, []), some (.getstatic 1053, 3, []), none, none, some (.invokestatic 1059, 3, []), none, none, some (.pop, 1, []), some (.return_, 1, [])]]
theorem dJ0_checkIndex_df160 : am_cdok cJ0_checkIndex_df160 2 (am_cdT' tJ0_checkIndex_df160) := am_cd_ok (by decide +kernel)
