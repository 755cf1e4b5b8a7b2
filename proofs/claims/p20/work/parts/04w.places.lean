/-! words by their places -/
theorem gin_n {big : List Cond} : GoodIn big [] := fun w h => absurd h List.not_mem_nil
theorem gin_c {big : List Cond} {w : Cond} {ws : List Cond} (h : w ∈ big) (g : goodWord w = true) (t : GoodIn big ws) : GoodIn big (w :: ws) := fun v hv => (List.mem_cons.mp hv).elim (fun e => by rw [e]; exact ⟨h, good_of_word g⟩) (t v)
theorem mem_at {r big : List Cond} (hr : ∀ w ∈ r, w ∈ big) (i : Nat) {w : Cond} (h : r[i]? = some w) : w ∈ big := hr w (List.mem_of_getElem? h)
set_option maxRecDepth 20000 in
theorem g9_0 : (wsX10 : List Cond).all goodWord = true := by decide +kernel
set_option maxRecDepth 20000 in
theorem g9_1 : (wsX00 : List Cond).all goodWord = true := by decide +kernel
set_option maxRecDepth 20000 in
theorem g9_2 : (wsX40 : List Cond).all goodWord = true := by decide +kernel
set_option maxRecDepth 20000 in
theorem g9_3 : (wsX100 : List Cond).all goodWord = true := by decide +kernel
set_option maxRecDepth 20000 in
theorem g9_4 : (wsX30 : List Cond).all goodWord = true := by decide +kernel
set_option maxRecDepth 20000 in
theorem g9_5 : (wsX90 : List Cond).all goodWord = true := by decide +kernel
set_option maxRecDepth 20000 in
theorem g9_6 : (wsX20 : List Cond).all goodWord = true := by decide +kernel
set_option maxRecDepth 20000 in
theorem g9_7 : (wsX60 : List Cond).all goodWord = true := by decide +kernel
set_option maxRecDepth 20000 in
theorem g9_8 : ((vx_atS RX6 135 "java/lang/UnsupportedOperationException" ["java/lang/RuntimeException", "java/lang/Exception"]).filter goodWord : List Cond).all goodWord = true := by decide +kernel
set_option maxRecDepth 20000 in
theorem g9_9 : (wsX70 : List Cond).all goodWord = true := by decide +kernel
set_option maxRecDepth 20000 in
theorem g9_10 : (wsX50 : List Cond).all goodWord = true := by decide +kernel
set_option maxRecDepth 20000 in
theorem g9_11 : (wsX80 : List Cond).all goodWord = true := by decide +kernel
set_option maxRecDepth 20000 in
theorem g9_12 : ((vx_atS RX8 126 "java/lang/ArithmeticException" ["java/lang/RuntimeException", "java/lang/Exception"]).filter goodWord : List Cond).all goodWord = true := by decide +kernel
set_option maxRecDepth 20000 in
theorem g9_13 : (wsX110 : List Cond).all goodWord = true := by decide +kernel
set_option maxRecDepth 20000 in
theorem g9_14 : ((vx_atS RX11 340 "java/lang/IllegalArgumentException" ["java/lang/RuntimeException", "java/lang/Exception"]).filter goodWord : List Cond).all goodWord = true := by decide +kernel
set_option maxRecDepth 20000 in
theorem g9_15 : ((tn_at RX11 184 "java/util/NoSuchElementException").filter goodWord : List Cond).all goodWord = true := by decide +kernel
set_option maxRecDepth 20000 in
theorem g9_16 : (wsX120 : List Cond).all goodWord = true := by decide +kernel
set_option maxRecDepth 20000 in
theorem g9_17 : ((vx_atS RX11 64 "java/lang/IndexOutOfBoundsException" ["java/lang/RuntimeException", "java/lang/Exception"]).filter goodWord : List Cond).all goodWord = true := by decide +kernel
set_option maxRecDepth 20000 in
theorem g9_18 : ((vx_atS RX11 83 "java/lang/IllegalStateException" ["java/lang/RuntimeException", "java/lang/Exception"]).filter goodWord : List Cond).all goodWord = true := by decide +kernel
set_option maxRecDepth 20000 in
theorem g9_19 : ((vx_atS RX11 122 "java/lang/UnsupportedOperationException" ["java/lang/RuntimeException", "java/lang/Exception"]).filter goodWord : List Cond).all goodWord = true := by decide +kernel
