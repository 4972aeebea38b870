def tL_text : am_tb := [
  [some (.aload_n 2, 1, []), some (.iconst 0, 1, []), some (.aload_n 0, 1, []), some (.iload_n 1, 1, []), some (.invokevirtual 7, 3, []), none, none, some (.i2l, 1, []), some (.lastore, 1, []), some (.goto 6, 3, [15]), none, none, some (.astore_n 3, 1, []), some (.iconst 1, 1, []), some (.ireturn, 1, []), some (.iconst 0, 1, []), some (.ireturn, 1, [])]]
theorem dL_text : am_cdok cL_text 4 (am_cdT' tL_text) := am_cd_ok (by decide +kernel)
def tL_count : am_tb := [
  [some (.aload_n 2, 1, []), some (.iconst 0, 1, []), some (.aload_n 0, 1, []), some (.iload_n 1, 1, []), some (.invokevirtual 15, 3, []), none, none, some (.i2l, 1, []), some (.lastore, 1, []), some (.goto 6, 3, [15]), none, none, some (.astore_n 3, 1, []), some (.iconst 1, 1, []), some (.ireturn, 1, []), some (.iconst 0, 1, []), some (.ireturn, 1, [])]]
theorem dL_count : am_cdok cL_count 4 (am_cdT' tL_count) := am_cd_ok (by decide +kernel)
def tL_step : am_tb := [
  [some (.aload_n 2, 1, []), some (.iconst 0, 1, []), some (.aload_n 0, 1, []), some (.iload_n 1, 1, []), some (.invokevirtual 20, 3, []), none, none, some (.i2l, 1, []), some (.lastore, 1, []), some (.goto 6, 3, [15]), none, none, some (.astore_n 3, 1, []), some (.iconst 1, 1, []), some (.ireturn, 1, []), some (.iconst 0, 1, []), some (.ireturn, 1, [])]]
theorem dL_step : am_cdok cL_step 4 (am_cdT' tL_step) := am_cd_ok (by decide +kernel)
def tL_endings : am_tb := [
  [some (.aload_n 2, 1, []), some (.iconst 0, 1, []), some (.aload_n 0, 1, []), some (.iload_n 1, 1, []), some (.invokevirtual 23, 3, []), none, none, some (.i2l, 1, []), some (.lastore, 1, []), some (.goto 6, 3, [15]), none, none, some (.astore_n 3, 1, []), some (.iconst 1, 1, []), some (.ireturn, 1, []), some (.iconst 0, 1, []), some (.ireturn, 1, [])]]
theorem dL_endings : am_cdok cL_endings 4 (am_cdT' tL_endings) := am_cd_ok (by decide +kernel)
def tL_ending : am_tb := [
  [some (.aload_n 3, 1, []), some (.iconst 0, 1, []), some (.aload_n 0, 1, []), some (.iload_n 1, 1, []), some (.iload_n 2, 1, []), some (.invokevirtual 26, 3, []), none, none, some (.i2l, 1, []), some (.lastore, 1, []), some (.goto 7, 3, [17]), none, none, some (.astore 4, 2, []), none, some (.iconst 1, 1, []), some (.ireturn, 1, []), some (.iconst 0, 1, []), some (.ireturn, 1, [])]]
theorem dL_ending : am_cdok cL_ending 5 (am_cdT' tL_ending) := am_cd_ok (by decide +kernel)
def tL_could : am_tb := [
  [some (.aload_n 3, 1, []), some (.iconst 0, 1, []), some (.aload_n 0, 1, []), some (.iload_n 1, 1, []), some (.iload_n 2, 1, []), some (.invokevirtual 30, 3, []), none, none, some (.i2l, 1, []), some (.lastore, 1, []), some (.goto 7, 3, [17]), none, none, some (.astore 4, 2, []), none, some (.iconst 1, 1, []), some (.ireturn, 1, []), some (.iconst 0, 1, []), some (.ireturn, 1, [])]]
theorem dL_could : am_cdok cL_could 5 (am_cdT' tL_could) := am_cd_ok (by decide +kernel)
def tL_left : am_tb := [
  [some (.aload_n 2, 1, []), some (.iconst 0, 1, []), some (.aload_n 0, 1, []), some (.iload_n 1, 1, []), some (.invokevirtual 33, 3, []), none, none, some (.ifCond .eq 7, 3, [14]), none, none, some (.lconst 1, 1, []), some (.goto 4, 3, [15]), none, none, some (.lconst 0, 1, []), some (.lastore, 1, []), some (.goto 6, 3, [22]), none, none, some (.astore_n 3, 1, []), some (.iconst 1, 1, []), some (.ireturn, 1, []), some (.iconst 0, 1, []), some (.ireturn, 1, [])]]
theorem dL_left : am_cdok cL_left 4 (am_cdT' tL_left) := am_cd_ok (by decide +kernel)
def tL_play : am_tb := [
  [some (.aload 4, 2, []), none, some (.iconst 0, 1, []), some (.aload_n 0, 1, []), some (.iload_n 1, 1, []), some (.lload_n 2, 1, []), some (.invokevirtual 37, 3, []), none, none, some (.i2l, 1, []), some (.lastore, 1, []), some (.goto 7, 3, [18]), none, none, some (.astore 5, 2, []), none, some (.iconst 1, 1, []), some (.ireturn, 1, []), some (.iconst 0, 1, []), some (.ireturn, 1, [])]]
theorem dL_play : am_cdok cL_play 6 (am_cdT' tL_play) := am_cd_ok (by decide +kernel)
def tL_of : am_tb := [
  [some (.aload_n 3, 1, []), some (.iconst 0, 1, []), some (.aload_n 0, 1, []), some (.iload_n 1, 1, []), some (.iload_n 2, 1, []), some (.invokevirtual 41, 3, []), none, none, some (.i2l, 1, []), some (.lastore, 1, []), some (.goto 7, 3, [17]), none, none, some (.astore 4, 2, []), none, some (.iconst 1, 1, []), some (.ireturn, 1, []), some (.iconst 0, 1, []), some (.ireturn, 1, [])]]
theorem dL_of : am_cdok cL_of 5 (am_cdT' tL_of) := am_cd_ok (by decide +kernel)
def tL_ring : am_tb := [
  [some (.aload_n 2, 1, []), some (.iconst 0, 1, []), some (.aload_n 0, 1, []), some (.iload_n 1, 1, []), some (.invokevirtual 44, 3, []), none, none, some (.i2l, 1, []), some (.lastore, 1, []), some (.goto 6, 3, [15]), none, none, some (.astore_n 3, 1, []), some (.iconst 1, 1, []), some (.ireturn, 1, []), some (.iconst 0, 1, []), some (.ireturn, 1, [])]]
theorem dL_ring : am_cdok cL_ring 4 (am_cdT' tL_ring) := am_cd_ok (by decide +kernel)
def tL_chose : am_tb := [
  [some (.aload_n 2, 1, []), some (.iconst 0, 1, []), some (.aload_n 0, 1, []), some (.iload_n 1, 1, []), some (.invokevirtual 47, 3, []), none, none, some (.i2l, 1, []), some (.lastore, 1, []), some (.goto 6, 3, [15]), none, none, some (.astore_n 3, 1, []), some (.iconst 1, 1, []), some (.ireturn, 1, []), some (.iconst 0, 1, []), some (.ireturn, 1, [])]]
theorem dL_chose : am_cdok cL_chose 4 (am_cdT' tL_chose) := am_cd_ok (by decide +kernel)
def tL_least : am_tb := [
  [some (.aload_n 2, 1, []), some (.iconst 0, 1, []), some (.aload_n 0, 1, []), some (.iload_n 1, 1, []), some (.invokevirtual 50, 3, []), none, none, some (.i2l, 1, []), some (.lastore, 1, []), some (.goto 6, 3, [15]), none, none, some (.astore_n 3, 1, []), some (.iconst 1, 1, []), some (.ireturn, 1, []), some (.iconst 0, 1, []), some (.ireturn, 1, [])]]
theorem dL_least : am_cdok cL_least 4 (am_cdT' tL_least) := am_cd_ok (by decide +kernel)
