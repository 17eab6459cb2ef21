theorem nf_0 {U : State} (h : nestOk U) {args : Array Value} : (Cond.fieldLinkNest RX5 34 "GateMaze$State" "inputs" "I" "GateMaze").before args U = true := by
  have h1 := h.1 ("GateMaze$View", 34, "GateMaze$State", "inputs", "I") (List.mem_of_getElem? (i := 0) rfl)
  exact va_Nw.use rfl h1
theorem nf_1 {U : State} (h : nestOk U) {args : Array Value} : (Cond.fieldLinkNest RX6 59 "GateMaze$State" "inputs" "I" "GateMaze").before args U = true := by
  have h1 := h.1 ("GateMaze", 59, "GateMaze$State", "inputs", "I") (List.mem_of_getElem? (i := 1) rfl)
  exact va_Nw.use rfl h1
theorem nf_3 {U : State} (h : nestOk U) {args : Array Value} : (Cond.fieldLinkNest RX6 116 "GateMaze$State" "remembered" "I" "GateMaze").before args U = true := by
  have h1 := h.1 ("GateMaze", 116, "GateMaze$State", "remembered", "I") (List.mem_of_getElem? (i := 2) rfl)
  exact va_Nw.use rfl h1
theorem nf_4 {U : State} (h : nestOk U) {args : Array Value} : (Cond.fieldLinkNest RX6 147 "GateMaze$State" "asks" "I" "GateMaze").before args U = true := by
  have h1 := h.1 ("GateMaze", 147, "GateMaze$State", "asks", "I") (List.mem_of_getElem? (i := 3) rfl)
  exact va_Nw.use rfl h1
theorem nf_5 {U : State} (h : nestOk U) {args : Array Value} : (Cond.fieldLinkNest RX6 132 "GateMaze$State" "hours" "I" "GateMaze").before args U = true := by
  have h1 := h.1 ("GateMaze", 132, "GateMaze$State", "hours", "I") (List.mem_of_getElem? (i := 4) rfl)
  exact va_Nw.use rfl h1
theorem nf_6 {U : State} (h : nestOk U) {args : Array Value} : (Cond.fieldLinkNest RX6 156 "GateMaze$State" "alarms" "[I" "GateMaze").before args U = true := by
  have h1 := h.1 ("GateMaze", 156, "GateMaze$State", "alarms", "[I") (List.mem_of_getElem? (i := 5) rfl)
  exact va_Nw.use rfl h1
theorem nf_7 {U : State} (h : nestOk U) {args : Array Value} : (Cond.fieldLinkNest RX6 160 "GateMaze$State" "faults" "[I" "GateMaze").before args U = true := by
  have h1 := h.1 ("GateMaze", 160, "GateMaze$State", "faults", "[I") (List.mem_of_getElem? (i := 6) rfl)
  exact va_Nw.use rfl h1
theorem nf_8 {U : State} (h : nestOk U) {args : Array Value} : (Cond.fieldLinkNest RX6 192 "GateMaze$History" "size" "I" "GateMaze").before args U = true := by
  have h1 := h.1 ("GateMaze", 192, "GateMaze$History", "size", "I") (List.mem_of_getElem? (i := 7) rfl)
  exact va_Nw.use rfl h1
theorem nf_10 {U : State} (h : nestOk U) {args : Array Value} : (Cond.fieldLinkNest RX5 92 "GateMaze$Primes" "codes" "[I" "GateMaze").before args U = true := by
  have h1 := h.1 ("GateMaze$View", 92, "GateMaze$Primes", "codes", "[I") (List.mem_of_getElem? (i := 8) rfl)
  exact va_Nw.use rfl h1
theorem nf_11 {U : State} (h : nestOk U) {args : Array Value} : (Cond.fieldLinkNest RX5 93 "GateMaze$Primes" "rows" "[J" "GateMaze").before args U = true := by
  have h1 := h.1 ("GateMaze$View", 93, "GateMaze$Primes", "rows", "[J") (List.mem_of_getElem? (i := 9) rfl)
  exact va_Nw.use rfl h1
theorem nf_12 {U : State} (h : nestOk U) {args : Array Value} : (Cond.fieldLinkNest RX5 75 "GateMaze$Primes" "size" "I" "GateMaze").before args U = true := by
  have h1 := h.1 ("GateMaze$View", 75, "GateMaze$Primes", "size", "I") (List.mem_of_getElem? (i := 10) rfl)
  exact va_Nw.use rfl h1
theorem nf_13 {U : State} (h : nestOk U) {args : Array Value} : (Cond.fieldLinkNest RX6 283 "GateMaze$View" "undecidedPairs" "I" "GateMaze").before args U = true := by
  have h1 := h.1 ("GateMaze", 283, "GateMaze$View", "undecidedPairs", "I") (List.mem_of_getElem? (i := 11) rfl)
  exact va_Nw.use rfl h1
theorem nf_14 {U : State} (h : nestOk U) {args : Array Value} : (Cond.fieldLinkNest RX6 285 "GateMaze$View" "parts" "I" "GateMaze").before args U = true := by
  have h1 := h.1 ("GateMaze", 285, "GateMaze$View", "parts", "I") (List.mem_of_getElem? (i := 12) rfl)
  exact va_Nw.use rfl h1
theorem nf_15 {U : State} (h : nestOk U) {args : Array Value} : (Cond.fieldLinkNest RX6 288 "GateMaze$View" "sharedParts" "I" "GateMaze").before args U = true := by
  have h1 := h.1 ("GateMaze", 288, "GateMaze$View", "sharedParts", "I") (List.mem_of_getElem? (i := 13) rfl)
  exact va_Nw.use rfl h1
theorem nf_16 {U : State} (h : nestOk U) {args : Array Value} : (Cond.fieldLinkNest RX6 291 "GateMaze$View" "partCares" "I" "GateMaze").before args U = true := by
  have h1 := h.1 ("GateMaze", 291, "GateMaze$View", "partCares", "I") (List.mem_of_getElem? (i := 14) rfl)
  exact va_Nw.use rfl h1
theorem nm_0 {U : State} (h : nestOk U) : va_Nw (.methodLinkNest RX6 9 yX3_init "GateMaze") U := h.2.1 (RX6, 9, yX3_init) (List.mem_of_getElem? (i := 0) rfl)
theorem nm_1 {U : State} (h : nestOk U) : va_Nw (.methodLinkNest RX6 18 yX0_init "GateMaze") U := h.2.1 (RX6, 18, yX0_init) (List.mem_of_getElem? (i := 1) rfl)
theorem nm_2 {U : State} (h : nestOk U) : va_Nw (.methodLinkNest RX6 25 yX4_init "GateMaze") U := h.2.1 (RX6, 25, yX4_init) (List.mem_of_getElem? (i := 2) rfl)
theorem nm_3 {U : State} (h : nestOk U) : va_Nw (.methodLinkNest RX6 32 yX1_init "GateMaze") U := h.2.1 (RX6, 32, yX1_init) (List.mem_of_getElem? (i := 3) rfl)
theorem nm_4 {U : State} (h : nestOk U) : va_Nw (.methodLinkNest RX6 39 yX5_init "GateMaze") U := h.2.1 (RX6, 39, yX5_init) (List.mem_of_getElem? (i := 4) rfl)
theorem nm_5 {U : State} (h : nestOk U) : va_Nw (.methodLinkNest RX3 48 yX6_isOutput "GateMaze") U := h.2.1 (RX3, 48, yX6_isOutput) (List.mem_of_getElem? (i := 5) rfl)
theorem nm_6 {U : State} (h : nestOk U) : va_Nw (.methodLinkNest RX5 85 yX6_isOutput "GateMaze") U := h.2.1 (RX5, 85, yX6_isOutput) (List.mem_of_getElem? (i := 6) rfl)
theorem nm_8 {U : State} (h : nestOk U) : va_Nw (.methodLinkNest RX0 24 yX3_init "GateMaze") U := h.2.1 (RX0, 24, yX3_init) (List.mem_of_getElem? (i := 7) rfl)
