/-! ===== BEGIN words of one list among another's, by their places ===== -/
theorem goodIn_r {big : List Cond} (ws : List Cond) (ps : List Nat) (hp : ws = ps.filterMap (fun i => big[i]?)) (h : ws.all goodWord = true) : GoodIn big ws := by
  intro w hw
  have h1 := List.all_eq_true.mp h w hw
  rw [hp] at hw
  obtain ⟨i, -, hi⟩ := List.mem_filterMap.mp hw
  have hm : w ∈ big := by first | exact List.mem_of_getElem? hi | exact List.getElem?_mem hi
  exact ⟨hm, good_of_word h1⟩
theorem goodIn_app {big a b : List Cond} (ha : GoodIn big a) (hb : GoodIn big b) : GoodIn big (a ++ b) := fun w h => (List.mem_append.mp h).elim (ha w) (hb w)
theorem goodIn_ca {big a b : List Cond} {c : Cond} (ha : GoodIn big (c :: a)) (hb : GoodIn big b) : GoodIn big (c :: (a ++ b)) := fun w h => (List.mem_cons.mp h).elim (fun e => ha w (List.mem_cons.mpr (Or.inl e))) (fun h => (List.mem_append.mp h).elim (fun h => ha w (List.mem_cons.mpr (Or.inr h))) (hb w))
theorem goodIn_sub {big ws : List Cond} (hm : ∀ w ∈ ws, w ∈ big) (h : ws.all goodWord = true) : GoodIn big ws := fun w hw => ⟨hm w hw, good_of_word (List.all_eq_true.mp h w hw)⟩
/-! ===== END ===== -/

/-! ===== BEGIN printed: names, fields, word lists, decode rows ===== -/
def RX0 : String := "CousinShares$Division"
def TX0 : u_T := fun k => match k with
  | 0 => ("CousinShares$Division", "owners", "[I", true)
  | 1 => ("CousinShares$Division", "trims", "I", false)
  | 2 => ("CousinShares$Division", "grudgeTrims", "I", false)
  | 3 => ("CousinShares$Division", "lastCousin", "I", false)
  | 4 => ("CousinShares$Division", "harvest", "LCousinShares$Harvest;", true)
  | 5 => ("CousinShares$Division", "byOrder", "[I", true)
  | 6 => ("CousinShares$Division", "holder", "I", false)
  | _ => ("CousinShares$Division", "pieceSize", "I", false)
def tyX0 : Nat → FieldType := fun k => match k with
  | 0 => .array .int
  | 1 => .int
  | 2 => .int
  | 3 => .int
  | 4 => .object "CousinShares$Harvest"
  | 5 => .array .int
  | 6 => .int
  | _ => .int
abbrev wsX00 : List Cond := u_ws RX0 TX0 8
theorem nmX0 : ∀ a, a < 8 → ∀ b, b < 8 → a ≠ b → (TX0 a).2.1 ≠ (TX0 b).2.1 := by decide +kernel
theorem tyX0_ok : ∀ k, k < 8 → parseFieldDescriptor (TX0 k).2.2.1 = some (tyX0 k) := by decide +kernel
abbrev cX0_init : ByteArray := prog_2_method_1_code
def yX0_init : MethodName := ⟨RX0, "<init>", "(LCousinShares$Harvest;)V"⟩
abbrev cX0_run : ByteArray := prog_2_method_2_code
def yX0_run : MethodName := ⟨RX0, "run", "(I)V"⟩
abbrev cX0_lineUp : ByteArray := prog_2_method_3_code
def yX0_lineUp : MethodName := ⟨RX0, "lineUp", "()V"⟩
abbrev cX0_cutAndTrim : ByteArray := prog_2_method_4_code
def yX0_cutAndTrim : MethodName := ⟨RX0, "cutAndTrim", "(III)V"⟩
abbrev cX0_mayTrim : ByteArray := prog_2_method_5_code
def yX0_mayTrim : MethodName := ⟨RX0, "mayTrim", "(II)V"⟩
abbrev cX0_hold : ByteArray := prog_2_method_6_code
def yX0_hold : MethodName := ⟨RX0, "hold", "(II)V"⟩
abbrev cX0_fairPiece : ByteArray := prog_2_method_7_code
def yX0_fairPiece : MethodName := ⟨RX0, "fairPiece", "(III)I"⟩
abbrev cX0_firstOf : ByteArray := prog_2_method_8_code
def yX0_firstOf : MethodName := ⟨RX0, "firstOf", "(I)I"⟩
abbrev cX0_handOut : ByteArray := prog_2_method_9_code
def yX0_handOut : MethodName := ⟨RX0, "handOut", "(III)V"⟩
def RX1 : String := "CousinShares$Harvest"
def TX1 : u_T := fun k => match k with
  | 0 => ("CousinShares$Harvest", "amounts", "[I", true)
  | 1 => ("CousinShares$Harvest", "weights", "[I", true)
  | 2 => ("CousinShares$Harvest", "grudges", "[I", true)
  | 3 => ("CousinShares$Harvest", "owners", "[I", true)
  | 4 => ("CousinShares$Harvest", "settings", "[I", true)
  | 5 => ("CousinShares$Harvest", "worths", "[I", true)
  | 6 => ("CousinShares$Harvest", "trims", "I", false)
  | 7 => ("CousinShares$Harvest", "grudgeTrims", "I", false)
  | _ => ("CousinShares$Harvest", "trades", "I", false)
def tyX1 : Nat → FieldType := fun k => match k with
  | 0 => .array .int
  | 1 => .array .int
  | 2 => .array .int
  | 3 => .array .int
  | 4 => .array .int
  | 5 => .array .int
  | 6 => .int
  | 7 => .int
  | _ => .int
abbrev wsX10 : List Cond := u_ws RX1 TX1 9
theorem nmX1 : ∀ a, a < 9 → ∀ b, b < 9 → a ≠ b → (TX1 a).2.1 ≠ (TX1 b).2.1 := by decide +kernel
theorem tyX1_ok : ∀ k, k < 9 → parseFieldDescriptor (TX1 k).2.2.1 = some (tyX1 k) := by decide +kernel
abbrev cX1_init : ByteArray := prog_3_method_1_code
def yX1_init : MethodName := ⟨RX1, "<init>", "()V"⟩
abbrev cX1_copyFrom : ByteArray := prog_3_method_2_code
def yX1_copyFrom : MethodName := ⟨RX1, "copyFrom", "(LCousinShares$Harvest;)V"⟩
abbrev cX1_putAmount : ByteArray := prog_3_method_3_code
def yX1_putAmount : MethodName := ⟨RX1, "putAmount", "(III)V"⟩
abbrev cX1_putWeight : ByteArray := prog_3_method_4_code
def yX1_putWeight : MethodName := ⟨RX1, "putWeight", "(III)V"⟩
abbrev cX1_putGrudge : ByteArray := prog_3_method_5_code
def yX1_putGrudge : MethodName := ⟨RX1, "putGrudge", "(III)V"⟩
abbrev cX1_weighPlots : ByteArray := prog_3_method_6_code
def yX1_weighPlots : MethodName := ⟨RX1, "weighPlots", "(I)V"⟩
abbrev cX1_weighPlot : ByteArray := prog_3_method_7_code
def yX1_weighPlot : MethodName := ⟨RX1, "weighPlot", "(II)V"⟩
abbrev cX1_worthOf : ByteArray := prog_3_method_8_code
def yX1_worthOf : MethodName := ⟨RX1, "worthOf", "(II)I"⟩
abbrev cX1_worthFrom : ByteArray := prog_3_method_9_code
def yX1_worthFrom : MethodName := ⟨RX1, "worthFrom", "(II)I"⟩
abbrev cX1_grudgeOf : ByteArray := prog_3_method_10_code
def yX1_grudgeOf : MethodName := ⟨RX1, "grudgeOf", "(II)I"⟩
abbrev cX1_grudgesOf : ByteArray := prog_3_method_11_code
def yX1_grudgesOf : MethodName := ⟨RX1, "grudgesOf", "(I)I"⟩
abbrev cX1_isAhead : ByteArray := prog_3_method_12_code
def yX1_isAhead : MethodName := ⟨RX1, "isAhead", "(II)Z"⟩
abbrev cX1_placeOf : ByteArray := prog_3_method_13_code
def yX1_placeOf : MethodName := ⟨RX1, "placeOf", "(I)I"⟩
abbrev cX1_plotsOf : ByteArray := prog_3_method_14_code
def yX1_plotsOf : MethodName := ⟨RX1, "plotsOf", "(I)I"⟩
abbrev cX1_exchange : ByteArray := prog_3_method_15_code
def yX1_exchange : MethodName := ⟨RX1, "exchange", "(II)V"⟩
def RX2 : String := "CousinShares$History"
def TX2 : u_T := fun k => match k with
  | 0 => ("CousinShares$History", "count", "I", false)
  | _ => ("CousinShares$History", "states", "[LCousinShares$Harvest;", true)
def tyX2 : Nat → FieldType := fun k => match k with
  | 0 => .int
  | _ => .array (.object "CousinShares$Harvest")
abbrev wsX20 : List Cond := u_ws RX2 TX2 2
theorem nmX2 : ∀ a, a < 2 → ∀ b, b < 2 → a ≠ b → (TX2 a).2.1 ≠ (TX2 b).2.1 := by decide +kernel
theorem tyX2_ok : ∀ k, k < 2 → parseFieldDescriptor (TX2 k).2.2.1 = some (tyX2 k) := by decide +kernel
abbrev cX2_init : ByteArray := prog_4_method_1_code
def yX2_init : MethodName := ⟨RX2, "<init>", "()V"⟩
abbrev cX2_record : ByteArray := prog_4_method_2_code
def yX2_record : MethodName := ⟨RX2, "record", "(LCousinShares$Harvest;)V"⟩
abbrev cX2_takeLatest : ByteArray := prog_4_method_3_code
def yX2_takeLatest : MethodName := ⟨RX2, "takeLatest", "(LCousinShares$Harvest;)V"⟩
abbrev cX2_dropOldest : ByteArray := prog_4_method_4_code
def yX2_dropOldest : MethodName := ⟨RX2, "dropOldest", "()V"⟩
def RX3 : String := "CousinShares$OrderText"
def TX3 : u_T := fun k => match k with
  | 0 => ("CousinShares$OrderText", "length", "I", false)
  | 1 => ("CousinShares$OrderText", "at", "I", false)
  | 2 => ("CousinShares$OrderText", "kind", "I", false)
  | 3 => ("CousinShares$OrderText", "first", "I", false)
  | 4 => ("CousinShares$OrderText", "second", "I", false)
  | 5 => ("CousinShares$OrderText", "party", "I", false)
  | 6 => ("CousinShares$OrderText", "digits", "[I", true)
  | _ => ("CousinShares$OrderText", "signs", "[C", true)
def tyX3 : Nat → FieldType := fun k => match k with
  | 0 => .int
  | 1 => .int
  | 2 => .int
  | 3 => .int
  | 4 => .int
  | 5 => .int
  | 6 => .array .int
  | _ => .array .char
abbrev wsX30 : List Cond := u_ws RX3 TX3 8
theorem nmX3 : ∀ a, a < 8 → ∀ b, b < 8 → a ≠ b → (TX3 a).2.1 ≠ (TX3 b).2.1 := by decide +kernel
theorem tyX3_ok : ∀ k, k < 8 → parseFieldDescriptor (TX3 k).2.2.1 = some (tyX3 k) := by decide +kernel
abbrev cX3_init : ByteArray := prog_5_method_1_code
def yX3_init : MethodName := ⟨RX3, "<init>", "()V"⟩
abbrev cX3_append : ByteArray := prog_5_method_2_code
def yX3_append : MethodName := ⟨RX3, "append", "(C)V"⟩
abbrev cX3_countOrders : ByteArray := prog_5_method_3_code
def yX3_countOrders : MethodName := ⟨RX3, "countOrders", "()I"⟩
abbrev cX3_readOrder : ByteArray := prog_5_method_4_code
def yX3_readOrder : MethodName := ⟨RX3, "readOrder", "()Z"⟩
abbrev cX3_readSign : ByteArray := prog_5_method_5_code
def yX3_readSign : MethodName := ⟨RX3, "readSign", "(C)Z"⟩
abbrev cX3_readDigit : ByteArray := prog_5_method_6_code
def yX3_readDigit : MethodName := ⟨RX3, "readDigit", "(II)I"⟩
abbrev cX3_readPlot : ByteArray := prog_5_method_7_code
def yX3_readPlot : MethodName := ⟨RX3, "readPlot", "()Z"⟩
abbrev cX3_readCousin : ByteArray := prog_5_method_8_code
def yX3_readCousin : MethodName := ⟨RX3, "readCousin", "()Z"⟩
abbrev cX3_readOther : ByteArray := prog_5_method_9_code
def yX3_readOther : MethodName := ⟨RX3, "readOther", "()Z"⟩
abbrev cX3_readDigits : ByteArray := prog_5_method_10_code
def yX3_readDigits : MethodName := ⟨RX3, "readDigits", "(I)Z"⟩
abbrev cX3_readParty : ByteArray := prog_5_method_11_code
def yX3_readParty : MethodName := ⟨RX3, "readParty", "()Z"⟩
def RX4 : String := "CousinShares$Shares"
def TX4 : u_T := fun k => match k with
  | 0 => ("CousinShares$Shares", "bestFirst", "I", false)
  | 1 => ("CousinShares$Shares", "bestSecond", "I", false)
  | 2 => ("CousinShares$Shares", "bestSum", "I", false)
  | 3 => ("CousinShares$Shares", "harvest", "LCousinShares$Harvest;", true)
  | _ => ("CousinShares$Shares", "worths", "[I", true)
def tyX4 : Nat → FieldType := fun k => match k with
  | 0 => .int
  | 1 => .int
  | 2 => .int
  | 3 => .object "CousinShares$Harvest"
  | _ => .array .int
abbrev wsX40 : List Cond := u_ws RX4 TX4 5
theorem nmX4 : ∀ a, a < 5 → ∀ b, b < 5 → a ≠ b → (TX4 a).2.1 ≠ (TX4 b).2.1 := by decide +kernel
theorem tyX4_ok : ∀ k, k < 5 → parseFieldDescriptor (TX4 k).2.2.1 = some (tyX4 k) := by decide +kernel
abbrev cX4_init : ByteArray := prog_6_method_1_code
def yX4_init : MethodName := ⟨RX4, "<init>", "(LCousinShares$Harvest;)V"⟩
abbrev cX4_measure : ByteArray := prog_6_method_2_code
def yX4_measure : MethodName := ⟨RX4, "measure", "([I)V"⟩
abbrev cX4_exchange : ByteArray := prog_6_method_3_code
def yX4_exchange : MethodName := ⟨RX4, "exchange", "(II)V"⟩
abbrev cX4_worthOf : ByteArray := prog_6_method_4_code
def yX4_worthOf : MethodName := ⟨RX4, "worthOf", "(II)I"⟩
abbrev cX4_seeming : ByteArray := prog_6_method_5_code
def yX4_seeming : MethodName := ⟨RX4, "seeming", "(II)I"⟩
abbrev cX4_envy : ByteArray := prog_6_method_6_code
def yX4_envy : MethodName := ⟨RX4, "envy", "(II)I"⟩
abbrev cX4_enviesOf : ByteArray := prog_6_method_7_code
def yX4_enviesOf : MethodName := ⟨RX4, "enviesOf", "(II)I"⟩
abbrev cX4_enviesAmong : ByteArray := prog_6_method_8_code
def yX4_enviesAmong : MethodName := ⟨RX4, "enviesAmong", "(I)I"⟩
abbrev cX4_greatestEnvyOf : ByteArray := prog_6_method_9_code
def yX4_greatestEnvyOf : MethodName := ⟨RX4, "greatestEnvyOf", "(I)I"⟩
abbrev cX4_enviesTowards : ByteArray := prog_6_method_10_code
def yX4_enviesTowards : MethodName := ⟨RX4, "enviesTowards", "(I)I"⟩
abbrev cX4_contentCousins : ByteArray := prog_6_method_11_code
def yX4_contentCousins : MethodName := ⟨RX4, "contentCousins", "()I"⟩
abbrev cX4_whyNoTrade : ByteArray := prog_6_method_12_code
def yX4_whyNoTrade : MethodName := ⟨RX4, "whyNoTrade", "(II)I"⟩
abbrev cX4_tradingPairs : ByteArray := prog_6_method_13_code
def yX4_tradingPairs : MethodName := ⟨RX4, "tradingPairs", "()I"⟩
abbrev cX4_findBestTrade : ByteArray := prog_6_method_14_code
def yX4_findBestTrade : MethodName := ⟨RX4, "findBestTrade", "()Z"⟩
abbrev cX4_enviesAfterTrade : ByteArray := prog_6_method_15_code
def yX4_enviesAfterTrade : MethodName := ⟨RX4, "enviesAfterTrade", "(II)I"⟩
def RX5 : String := "CousinShares"
def TX5 : u_T := fun k => match k with
  | 0 => ("CousinShares", "now", "LCousinShares$Harvest;", true)
  | 1 => ("CousinShares", "division", "LCousinShares$Division;", true)
  | 2 => ("CousinShares", "shares", "LCousinShares$Shares;", true)
  | 3 => ("CousinShares", "text", "LCousinShares$OrderText;", true)
  | 4 => ("CousinShares", "history", "LCousinShares$History;", true)
  | 5 => ("CousinShares", "snapshot", "LCousinShares$Harvest;", true)
  | _ => ("CousinShares", "hasSnapshot", "Z", false)
def tyX5 : Nat → FieldType := fun k => match k with
  | 0 => .object "CousinShares$Harvest"
  | 1 => .object "CousinShares$Division"
  | 2 => .object "CousinShares$Shares"
  | 3 => .object "CousinShares$OrderText"
  | 4 => .object "CousinShares$History"
  | 5 => .object "CousinShares$Harvest"
  | _ => .boolean
abbrev wsX50 : List Cond := u_ws RX5 TX5 7
theorem nmX5 : ∀ a, a < 7 → ∀ b, b < 7 → a ≠ b → (TX5 a).2.1 ≠ (TX5 b).2.1 := by decide +kernel
theorem tyX5_ok : ∀ k, k < 7 → parseFieldDescriptor (TX5 k).2.2.1 = some (tyX5 k) := by decide +kernel
abbrev cX5_init : ByteArray := prog_1_method_1_code
def yX5_init : MethodName := ⟨RX5, "<init>", "()V"⟩
abbrev cX5_plant : ByteArray := prog_1_method_2_code
def yX5_plant : MethodName := ⟨RX5, "plant", "(III)I"⟩
abbrev cX5_weigh : ByteArray := prog_1_method_3_code
def yX5_weigh : MethodName := ⟨RX5, "weigh", "(III)I"⟩
abbrev cX5_grudge : ByteArray := prog_1_method_4_code
def yX5_grudge : MethodName := ⟨RX5, "grudge", "(III)I"⟩
abbrev cX5_set : ByteArray := prog_1_method_5_code
def yX5_set : MethodName := ⟨RX5, "set", "(II)I"⟩
abbrev cX5_divide : ByteArray := prog_1_method_6_code
def yX5_divide : MethodName := ⟨RX5, "divide", "(I)I"⟩
abbrev cX5_give : ByteArray := prog_1_method_7_code
def yX5_give : MethodName := ⟨RX5, "give", "(II)I"⟩
abbrev cX5_trade : ByteArray := prog_1_method_8_code
def yX5_trade : MethodName := ⟨RX5, "trade", "(II)I"⟩
abbrev cX5_settle : ByteArray := prog_1_method_9_code
def yX5_settle : MethodName := ⟨RX5, "settle", "()I"⟩
abbrev cX5_type : ByteArray := prog_1_method_10_code
def yX5_type : MethodName := ⟨RX5, "type", "(C)I"⟩
abbrev cX5_clearText : ByteArray := prog_1_method_11_code
def yX5_clearText : MethodName := ⟨RX5, "clearText", "()I"⟩
abbrev cX5_perform : ByteArray := prog_1_method_12_code
def yX5_perform : MethodName := ⟨RX5, "perform", "()I"⟩
abbrev cX5_undo : ByteArray := prog_1_method_13_code
def yX5_undo : MethodName := ⟨RX5, "undo", "()I"⟩
abbrev cX5_keep : ByteArray := prog_1_method_14_code
def yX5_keep : MethodName := ⟨RX5, "keep", "()I"⟩
abbrev cX5_restore : ByteArray := prog_1_method_15_code
def yX5_restore : MethodName := ⟨RX5, "restore", "()I"⟩
abbrev cX5_plot : ByteArray := prog_1_method_16_code
def yX5_plot : MethodName := ⟨RX5, "plot", "(II)I"⟩
abbrev cX5_cousin : ByteArray := prog_1_method_17_code
def yX5_cousin : MethodName := ⟨RX5, "cousin", "(II)I"⟩
abbrev cX5_pair : ByteArray := prog_1_method_18_code
def yX5_pair : MethodName := ⟨RX5, "pair", "(III)I"⟩
abbrev cX5_total : ByteArray := prog_1_method_19_code
def yX5_total : MethodName := ⟨RX5, "total", "(I)I"⟩
abbrev cX5_ifDivided : ByteArray := prog_1_method_20_code
def yX5_ifDivided : MethodName := ⟨RX5, "ifDivided", "(II)I"⟩
abbrev cX5_bestTrade : ByteArray := prog_1_method_21_code
def yX5_bestTrade : MethodName := ⟨RX5, "bestTrade", "(I)I"⟩
abbrev cX5_bestWithout : ByteArray := prog_1_method_22_code
def yX5_bestWithout : MethodName := ⟨RX5, "bestWithout", "(I)I"⟩
abbrev cX5_isPlot : ByteArray := prog_1_method_23_code
def yX5_isPlot : MethodName := ⟨RX5, "isPlot", "(I)Z"⟩
abbrev cX5_isCrop : ByteArray := prog_1_method_24_code
def yX5_isCrop : MethodName := ⟨RX5, "isCrop", "(I)Z"⟩
abbrev cX5_isCousin : ByteArray := prog_1_method_25_code
def yX5_isCousin : MethodName := ⟨RX5, "isCousin", "(I)Z"⟩
abbrev cX5_isDigit : ByteArray := prog_1_method_26_code
def yX5_isDigit : MethodName := ⟨RX5, "isDigit", "(I)Z"⟩
abbrev cX5_isParty : ByteArray := prog_1_method_27_code
def yX5_isParty : MethodName := ⟨RX5, "isParty", "(I)Z"⟩
abbrev cX5_isSettingValue : ByteArray := prog_1_method_28_code
def yX5_isSettingValue : MethodName := ⟨RX5, "isSettingValue", "(II)Z"⟩
abbrev cX5_contains : ByteArray := prog_1_method_29_code
def yX5_contains : MethodName := ⟨RX5, "contains", "(II)Z"⟩
abbrev cX5_without : ByteArray := prog_1_method_30_code
def yX5_without : MethodName := ⟨RX5, "without", "(II)I"⟩
abbrev cX5_hundredths : ByteArray := prog_1_method_31_code
def yX5_hundredths : MethodName := ⟨RX5, "hundredths", "(II)I"⟩
abbrev cX5_divideNow : ByteArray := prog_1_method_32_code
def yX5_divideNow : MethodName := ⟨RX5, "divideNow", "(I)V"⟩
abbrev cX5_tradeNow : ByteArray := prog_1_method_33_code
def yX5_tradeNow : MethodName := ⟨RX5, "tradeNow", "(II)V"⟩
abbrev cX5_enviesWithout : ByteArray := prog_1_method_34_code
def yX5_enviesWithout : MethodName := ⟨RX5, "enviesWithout", "(I)I"⟩
abbrev cX5_carryOutOrder : ByteArray := prog_1_method_35_code
def yX5_carryOutOrder : MethodName := ⟨RX5, "carryOutOrder", "()V"⟩
def RX6 : String := "CousinSharesModel"
def TX6 : u_T := fun k => match k with
  | 0 => ("CousinSharesModel", "s", "[I", true)
  | 1 => ("CousinSharesModel", "past", "[I", true)
  | 2 => ("CousinSharesModel", "known", "I", false)
  | 3 => ("CousinSharesModel", "snap", "[I", true)
  | 4 => ("CousinSharesModel", "isKept", "Z", false)
  | 5 => ("CousinSharesModel", "text", "[I", true)
  | 6 => ("CousinSharesModel", "length", "I", false)
  | 7 => ("CousinSharesModel", "order", "[I", true)
  | _ => ("CousinSharesModel", "lastOne", "I", false)
def tyX6 : Nat → FieldType := fun k => match k with
  | 0 => .array .int
  | 1 => .array .int
  | 2 => .int
  | 3 => .array .int
  | 4 => .boolean
  | 5 => .array .int
  | 6 => .int
  | 7 => .array .int
  | _ => .int
abbrev wsX60 : List Cond := u_ws RX6 TX6 9
theorem nmX6 : ∀ a, a < 9 → ∀ b, b < 9 → a ≠ b → (TX6 a).2.1 ≠ (TX6 b).2.1 := by decide +kernel
theorem tyX6_ok : ∀ k, k < 9 → parseFieldDescriptor (TX6 k).2.2.1 = some (tyX6 k) := by decide +kernel
abbrev cX6_init : ByteArray := prog_8_method_1_code
def yX6_init : MethodName := ⟨RX6, "<init>", "()V"⟩
abbrev cX6_in : ByteArray := prog_8_method_3_code
def yX6_in : MethodName := ⟨RX6, "in", "(III)Z"⟩
abbrev cX6_isPlot : ByteArray := prog_8_method_4_code
def yX6_isPlot : MethodName := ⟨RX6, "isPlot", "(I)Z"⟩
abbrev cX6_isCrop : ByteArray := prog_8_method_5_code
def yX6_isCrop : MethodName := ⟨RX6, "isCrop", "(I)Z"⟩
abbrev cX6_isCousin : ByteArray := prog_8_method_6_code
def yX6_isCousin : MethodName := ⟨RX6, "isCousin", "(I)Z"⟩
abbrev cX6_remembers : ByteArray := prog_8_method_7_code
def yX6_remembers : MethodName := ⟨RX6, "remembers", "()V"⟩
abbrev cX6_copies : ByteArray := prog_8_method_8_code
def yX6_copies : MethodName := ⟨RX6, "copies", "()V"⟩
abbrev cX6_worth : ByteArray := prog_8_method_9_code
def yX6_worth : MethodName := ⟨RX6, "worth", "(II)I"⟩
abbrev cX6_worthFrom : ByteArray := prog_8_method_10_code
def yX6_worthFrom : MethodName := ⟨RX6, "worthFrom", "(II)I"⟩
abbrev cX6_share : ByteArray := prog_8_method_11_code
def yX6_share : MethodName := ⟨RX6, "share", "(III)I"⟩
abbrev cX6_grudgeOf : ByteArray := prog_8_method_12_code
def yX6_grudgeOf : MethodName := ⟨RX6, "grudgeOf", "(II)I"⟩
abbrev cX6_seems : ByteArray := prog_8_method_13_code
def yX6_seems : MethodName := ⟨RX6, "seems", "(III)I"⟩
abbrev cX6_envy : ByteArray := prog_8_method_14_code
def yX6_envy : MethodName := ⟨RX6, "envy", "(III)I"⟩
abbrev cX6_envies : ByteArray := prog_8_method_15_code
def yX6_envies : MethodName := ⟨RX6, "envies", "(III)I"⟩
abbrev cX6_allEnvies : ByteArray := prog_8_method_16_code
def yX6_allEnvies : MethodName := ⟨RX6, "allEnvies", "(I)I"⟩
abbrev cX6_grudges : ByteArray := prog_8_method_17_code
def yX6_grudges : MethodName := ⟨RX6, "grudges", "(I)I"⟩
abbrev cX6_isAhead : ByteArray := prog_8_method_18_code
def yX6_isAhead : MethodName := ⟨RX6, "isAhead", "(II)Z"⟩
abbrev cX6_placeOf : ByteArray := prog_8_method_19_code
def yX6_placeOf : MethodName := ⟨RX6, "placeOf", "(I)I"⟩
abbrev cX6_orders : ByteArray := prog_8_method_20_code
def yX6_orders : MethodName := ⟨RX6, "orders", "()V"⟩
abbrev cX6_ones : ByteArray := prog_8_method_21_code
def yX6_ones : MethodName := ⟨RX6, "ones", "(I)I"⟩
abbrev cX6_fair : ByteArray := prog_8_method_22_code
def yX6_fair : MethodName := ⟨RX6, "fair", "(III)I"⟩
abbrev cX6_round : ByteArray := prog_8_method_23_code
def yX6_round : MethodName := ⟨RX6, "round", "(III)I"⟩
abbrev cX6_gets : ByteArray := prog_8_method_24_code
def yX6_gets : MethodName := ⟨RX6, "gets", "(IIII)V"⟩
abbrev cX6_divides : ByteArray := prog_8_method_25_code
def yX6_divides : MethodName := ⟨RX6, "divides", "(II)I"⟩
abbrev cX6_reason : ByteArray := prog_8_method_26_code
def yX6_reason : MethodName := ⟨RX6, "reason", "(III)I"⟩
abbrev cX6_trades : ByteArray := prog_8_method_27_code
def yX6_trades : MethodName := ⟨RX6, "trades", "(III)V"⟩
abbrev cX6_best : ByteArray := prog_8_method_28_code
def yX6_best : MethodName := ⟨RX6, "best", "(I)I"⟩
abbrev cX6_settles : ByteArray := prog_8_method_29_code
def yX6_settles : MethodName := ⟨RX6, "settles", "(I)I"⟩
abbrev cX6_changes : ByteArray := prog_8_method_30_code
def yX6_changes : MethodName := ⟨RX6, "changes", "(II)I"⟩
abbrev cX6_plant : ByteArray := prog_8_method_31_code
def yX6_plant : MethodName := ⟨RX6, "plant", "(III)I"⟩
abbrev cX6_weigh : ByteArray := prog_8_method_32_code
def yX6_weigh : MethodName := ⟨RX6, "weigh", "(III)I"⟩
abbrev cX6_grudge : ByteArray := prog_8_method_33_code
def yX6_grudge : MethodName := ⟨RX6, "grudge", "(III)I"⟩
abbrev cX6_set : ByteArray := prog_8_method_34_code
def yX6_set : MethodName := ⟨RX6, "set", "(II)I"⟩
abbrev cX6_divide : ByteArray := prog_8_method_35_code
def yX6_divide : MethodName := ⟨RX6, "divide", "(I)I"⟩
abbrev cX6_give : ByteArray := prog_8_method_36_code
def yX6_give : MethodName := ⟨RX6, "give", "(II)I"⟩
abbrev cX6_trade : ByteArray := prog_8_method_37_code
def yX6_trade : MethodName := ⟨RX6, "trade", "(II)I"⟩
abbrev cX6_settle : ByteArray := prog_8_method_38_code
def yX6_settle : MethodName := ⟨RX6, "settle", "()I"⟩
abbrev cX6_type : ByteArray := prog_8_method_39_code
def yX6_type : MethodName := ⟨RX6, "type", "(C)I"⟩
abbrev cX6_clearText : ByteArray := prog_8_method_40_code
def yX6_clearText : MethodName := ⟨RX6, "clearText", "()I"⟩
abbrev cX6_sign : ByteArray := prog_8_method_41_code
def yX6_sign : MethodName := ⟨RX6, "sign", "(I)I"⟩
abbrev cX6_digit : ByteArray := prog_8_method_42_code
def yX6_digit : MethodName := ⟨RX6, "digit", "(I)I"⟩
abbrev cX6_digitsEnd : ByteArray := prog_8_method_43_code
def yX6_digitsEnd : MethodName := ⟨RX6, "digitsEnd", "(II)I"⟩
abbrev cX6_plotEnd : ByteArray := prog_8_method_44_code
def yX6_plotEnd : MethodName := ⟨RX6, "plotEnd", "(I)I"⟩
abbrev cX6_cousinsEnd : ByteArray := prog_8_method_45_code
def yX6_cousinsEnd : MethodName := ⟨RX6, "cousinsEnd", "(I)I"⟩
abbrev cX6_orderEnd : ByteArray := prog_8_method_46_code
def yX6_orderEnd : MethodName := ⟨RX6, "orderEnd", "(I)I"⟩
abbrev cX6_fault : ByteArray := prog_8_method_47_code
def yX6_fault : MethodName := ⟨RX6, "fault", "()I"⟩
abbrev cX6_setsFour : ByteArray := prog_8_method_48_code
def yX6_setsFour : MethodName := ⟨RX6, "setsFour", "(II)V"⟩
abbrev cX6_does : ByteArray := prog_8_method_49_code
def yX6_does : MethodName := ⟨RX6, "does", "(I)V"⟩
abbrev cX6_perform : ByteArray := prog_8_method_50_code
def yX6_perform : MethodName := ⟨RX6, "perform", "()I"⟩
abbrev cX6_undo : ByteArray := prog_8_method_51_code
def yX6_undo : MethodName := ⟨RX6, "undo", "()I"⟩
abbrev cX6_plotsOf : ByteArray := prog_8_method_52_code
def yX6_plotsOf : MethodName := ⟨RX6, "plotsOf", "(I)I"⟩
abbrev cX6_keep : ByteArray := prog_8_method_53_code
def yX6_keep : MethodName := ⟨RX6, "keep", "()I"⟩
abbrev cX6_restore : ByteArray := prog_8_method_54_code
def yX6_restore : MethodName := ⟨RX6, "restore", "()I"⟩
abbrev cX6_plot : ByteArray := prog_8_method_55_code
def yX6_plot : MethodName := ⟨RX6, "plot", "(II)I"⟩
abbrev cX6_hundredths : ByteArray := prog_8_method_56_code
def yX6_hundredths : MethodName := ⟨RX6, "hundredths", "(I)I"⟩
abbrev cX6_greatestEnvy : ByteArray := prog_8_method_57_code
def yX6_greatestEnvy : MethodName := ⟨RX6, "greatestEnvy", "(I)I"⟩
abbrev cX6_cousin : ByteArray := prog_8_method_58_code
def yX6_cousin : MethodName := ⟨RX6, "cousin", "(II)I"⟩
abbrev cX6_pair : ByteArray := prog_8_method_59_code
def yX6_pair : MethodName := ⟨RX6, "pair", "(III)I"⟩
abbrev cX6_content : ByteArray := prog_8_method_60_code
def yX6_content : MethodName := ⟨RX6, "content", "()I"⟩
abbrev cX6_traders : ByteArray := prog_8_method_61_code
def yX6_traders : MethodName := ⟨RX6, "traders", "()I"⟩
abbrev cX6_total : ByteArray := prog_8_method_62_code
def yX6_total : MethodName := ⟨RX6, "total", "(I)I"⟩
abbrev cX6_ifDivided : ByteArray := prog_8_method_63_code
def yX6_ifDivided : MethodName := ⟨RX6, "ifDivided", "(II)I"⟩
abbrev cX6_bestTrade : ByteArray := prog_8_method_64_code
def yX6_bestTrade : MethodName := ⟨RX6, "bestTrade", "(I)I"⟩
abbrev cX6_bestWithout : ByteArray := prog_8_method_65_code
def yX6_bestWithout : MethodName := ⟨RX6, "bestWithout", "(I)I"⟩
def RJ6 : String := "java/lang/Integer"
def TJ6 : u_T := fun k => match k with
  | _ => ("", "", "", false)
def tyJ6 : Nat → FieldType := fun k => match k with
  | _ => .int
abbrev wsJ60 : List Cond := u_ws RJ6 TJ6 0
theorem nmJ6 : ∀ a, a < 0 → ∀ b, b < 0 → a ≠ b → (TJ6 a).2.1 ≠ (TJ6 b).2.1 := by decide +kernel
theorem tyJ6_ok : ∀ k, k < 0 → parseFieldDescriptor (TJ6 k).2.2.1 = some (tyJ6 k) := by decide +kernel
abbrev cJ6_bitCount_0f7a4 : ByteArray := prog_9_method_49_code
def yJ6_bitCount_0f7a4 : MethodName := ⟨RJ6, "bitCount", "(I)I"⟩
def RJ9 : String := "java/lang/Math"
def TJ9 : u_T := fun k => match k with
  | _ => ("", "", "", false)
def tyJ9 : Nat → FieldType := fun k => match k with
  | _ => .int
abbrev wsJ90 : List Cond := u_ws RJ9 TJ9 0
theorem nmJ9 : ∀ a, a < 0 → ∀ b, b < 0 → a ≠ b → (TJ9 a).2.1 ≠ (TJ9 b).2.1 := by decide +kernel
theorem tyJ9_ok : ∀ k, k < 0 → parseFieldDescriptor (TJ9 k).2.2.1 = some (tyJ9 k) := by decide +kernel
abbrev cJ9_max_7cf53 : ByteArray := prog_10_method_65_code
def yJ9_max_7cf53 : MethodName := ⟨RJ9, "max", "(II)I"⟩
abbrev cJ9_min_7cf53 : ByteArray := prog_10_method_69_code
def yJ9_min_7cf53 : MethodName := ⟨RJ9, "min", "(II)I"⟩
def RJ10 : String := "java/lang/System"
def TJ10 : u_T := fun k => match k with
  | _ => ("", "", "", false)
def tyJ10 : Nat → FieldType := fun k => match k with
  | _ => .int
abbrev wsJ100 : List Cond := u_ws RJ10 TJ10 0
theorem nmJ10 : ∀ a, a < 0 → ∀ b, b < 0 → a ≠ b → (TJ10 a).2.1 ≠ (TJ10 b).2.1 := by decide +kernel
theorem tyJ10_ok : ∀ k, k < 0 → parseFieldDescriptor (TJ10 k).2.2.1 = some (tyJ10 k) := by decide +kernel
def RL : String := "CousinSharesLaw"
abbrev cL_law : ByteArray := code
def yL_law : MethodName := ⟨RL, "law", "([I)Z"⟩
def wsX0_init : List Cond := .code yX0_init cX0_init 2 none :: ([.methodLink RX0 3 objectInit, .instanceMethod objectInit, .code objectInit ⟨#[0xb1]⟩ 1 none, .arrayClass .int, .fieldLink RX0 9 "CousinShares$Division" "owners" "[I", .fieldLink RX0 15 "CousinShares$Division" "byOrder" "[I", .fieldLink RX0 18 "CousinShares$Division" "harvest" "LCousinShares$Harvest;"] ++ wsX00)
def wsX1_grudgesOf : List Cond := .code yX1_grudgesOf cX1_grudgesOf 4 (some .int) :: ([.fieldLink RX1 18 "CousinShares$Harvest" "grudges" "[I"] ++ wsX10)
def wsX1_isAhead : List Cond := .code yX1_isAhead cX1_isAhead 5 (some .boolean) :: ([.fieldLink RX1 24 "CousinShares$Harvest" "settings" "[I", .methodLink RX1 54 yX1_grudgesOf, .instanceMethod yX1_grudgesOf, .selects RX1 yX1_grudgesOf yX1_grudgesOf, .initialized RX1, .code yX1_grudgesOf cX1_grudgesOf 4 (some .int), .fieldLink RX1 18 "CousinShares$Harvest" "grudges" "[I"] ++ wsX10)
def wsX0_lineUp : List Cond := .code yX0_lineUp cX0_lineUp 3 none :: ([.fieldLink RX0 18 "CousinShares$Division" "harvest" "LCousinShares$Harvest;", .fieldLink RX0 15 "CousinShares$Division" "byOrder" "[I", .methodLink RX0 61 yX1_isAhead, .instanceMethod yX1_isAhead, .selects RX1 yX1_isAhead yX1_isAhead, .initialized RX1, .code yX1_isAhead cX1_isAhead 5 (some .boolean), .fieldLink RX1 24 "CousinShares$Harvest" "settings" "[I", .methodLink RX1 54 yX1_grudgesOf, .instanceMethod yX1_grudgesOf, .selects RX1 yX1_grudgesOf yX1_grudgesOf, .code yX1_grudgesOf cX1_grudgesOf 4 (some .int), .fieldLink RX1 18 "CousinShares$Harvest" "grudges" "[I"] ++ wsX00 ++ wsX10)
def wsJ6_bitCount_0f7a4 : List Cond := .code yJ6_bitCount_0f7a4 cJ6_bitCount_0f7a4 1 (some .int) :: ([.constant RJ6 265 (1431655765), .constant RJ6 266 (858993459), .constant RJ6 267 (252645135)])
def wsX5_contains : List Cond := .code yX5_contains cX5_contains 2 (some .boolean) :: ([])
def wsX1_worthFrom : List Cond := .code yX1_worthFrom cX1_worthFrom 5 (some .int) :: ([.fieldLink RX1 27 "CousinShares$Harvest" "worths" "[I"] ++ wsX10)
def wsX1_worthOf : List Cond := .code yX1_worthOf cX1_worthOf 3 (some .int) :: ([.fieldLink RX1 27 "CousinShares$Harvest" "worths" "[I"] ++ wsX10)
def wsX0_fairPiece : List Cond := .code yX0_fairPiece cX0_fairPiece 7 (some .int) :: ([.fieldLink RX0 18 "CousinShares$Division" "harvest" "LCousinShares$Harvest;", .methodLink RX0 87 yX1_worthFrom, .instanceMethod yX1_worthFrom, .selects RX1 yX1_worthFrom yX1_worthFrom, .initialized RX1, .code yX1_worthFrom cX1_worthFrom 5 (some .int), .fieldLink RX1 27 "CousinShares$Harvest" "worths" "[I", .methodLink RX0 90 yX1_worthOf, .instanceMethod yX1_worthOf, .selects RX1 yX1_worthOf yX1_worthOf, .code yX1_worthOf cX1_worthOf 3 (some .int)] ++ wsX00 ++ wsX10)
def wsX0_hold : List Cond := .code yX0_hold cX0_hold 3 none :: ([.fieldLink RX0 45 "CousinShares$Division" "holder" "I", .fieldLink RX0 42 "CousinShares$Division" "pieceSize" "I"] ++ wsX00)
def wsX1_grudgeOf : List Cond := .code yX1_grudgeOf cX1_grudgeOf 3 (some .int) :: ([.fieldLink RX1 18 "CousinShares$Harvest" "grudges" "[I"] ++ wsX10)
def wsX0_mayTrim : List Cond := .code yX0_mayTrim cX0_mayTrim 3 none :: ([.fieldLink RX0 42 "CousinShares$Division" "pieceSize" "I", .fieldLink RX0 22 "CousinShares$Division" "trims" "I", .fieldLink RX0 18 "CousinShares$Division" "harvest" "LCousinShares$Harvest;", .fieldLink RX0 45 "CousinShares$Division" "holder" "I", .fieldLink RX0 84 "CousinShares$Harvest" "settings" "[I", .fieldLink RX0 26 "CousinShares$Division" "grudgeTrims" "I", .methodLink RX0 74 yX0_hold, .instanceMethod yX0_hold, .selects RX0 yX0_hold yX0_hold, .initialized RX0, .code yX0_hold cX0_hold 3 none, .methodLink RX0 81 yX1_grudgeOf, .instanceMethod yX1_grudgeOf, .selects RX1 yX1_grudgeOf yX1_grudgeOf, .initialized RX1, .code yX1_grudgeOf cX1_grudgeOf 3 (some .int), .fieldLink RX1 18 "CousinShares$Harvest" "grudges" "[I"] ++ wsX00 ++ wsX10)
def wsX0_cutAndTrim_r1 : List Cond := [Cond.fieldLink RX0 45 "CousinShares$Division" "holder" "I", Cond.fieldLink RX0 15 "CousinShares$Division" "byOrder" "[I", Cond.static yX5_contains, Cond.initialized RX5, Cond.code yX5_contains cX5_contains 2 (some .boolean), Cond.methodLink RX0 70 yX0_fairPiece, Cond.instanceMethod yX0_fairPiece, Cond.selects RX0 yX0_fairPiece yX0_fairPiece, Cond.initialized RX0, Cond.code yX0_fairPiece cX0_fairPiece 7 (some .int), Cond.fieldLink RX0 18 "CousinShares$Division" "harvest" "LCousinShares$Harvest;", Cond.methodLink RX0 87 yX1_worthFrom, Cond.instanceMethod yX1_worthFrom, Cond.selects RX1 yX1_worthFrom yX1_worthFrom, Cond.initialized RX1, Cond.code yX1_worthFrom cX1_worthFrom 5 (some .int), Cond.fieldLink RX1 27 "CousinShares$Harvest" "worths" "[I", Cond.methodLink RX0 90 yX1_worthOf, Cond.instanceMethod yX1_worthOf, Cond.selects RX1 yX1_worthOf yX1_worthOf, Cond.code yX1_worthOf cX1_worthOf 3 (some .int), Cond.methodLink RX0 74 yX0_hold, Cond.instanceMethod yX0_hold, Cond.selects RX0 yX0_hold yX0_hold]
def wsX0_cutAndTrim_r2 : List Cond := [Cond.code yX0_hold cX0_hold 3 none, Cond.fieldLink RX0 42 "CousinShares$Division" "pieceSize" "I", Cond.methodLink RX0 78 yX0_mayTrim, Cond.instanceMethod yX0_mayTrim, Cond.selects RX0 yX0_mayTrim yX0_mayTrim, Cond.code yX0_mayTrim cX0_mayTrim 3 none, Cond.fieldLink RX0 22 "CousinShares$Division" "trims" "I", Cond.fieldLink RX0 84 "CousinShares$Harvest" "settings" "[I", Cond.fieldLink RX0 26 "CousinShares$Division" "grudgeTrims" "I", Cond.methodLink RX0 81 yX1_grudgeOf, Cond.instanceMethod yX1_grudgeOf, Cond.selects RX1 yX1_grudgeOf yX1_grudgeOf, Cond.code yX1_grudgeOf cX1_grudgeOf 3 (some .int), Cond.fieldLink RX1 18 "CousinShares$Harvest" "grudges" "[I"]
def wsX0_cutAndTrim : List Cond := .code yX0_cutAndTrim cX0_cutAndTrim 7 none :: ((wsX0_cutAndTrim_r1 ++ wsX0_cutAndTrim_r2) ++ wsX00 ++ wsX10)
def wsX0_handOut : List Cond := .code yX0_handOut cX0_handOut 5 none :: ([.fieldLink RX0 9 "CousinShares$Division" "owners" "[I"] ++ wsX00)
def wsX5_without : List Cond := .code yX5_without cX5_without 2 (some .int) :: ([])
def wsX0_firstOf : List Cond := .code yX0_firstOf cX0_firstOf 3 (some .int) :: ([.fieldLink RX0 15 "CousinShares$Division" "byOrder" "[I", .static yX5_contains, .initialized RX5, .code yX5_contains cX5_contains 2 (some .boolean)] ++ wsX00)
def wsX0_run_r1 : List Cond := [Cond.fieldLink RX0 22 "CousinShares$Division" "trims" "I", Cond.fieldLink RX0 26 "CousinShares$Division" "grudgeTrims" "I", Cond.fieldLink RX0 42 "CousinShares$Division" "pieceSize" "I", Cond.fieldLink RX0 45 "CousinShares$Division" "holder" "I", Cond.fieldLink RX0 58 "CousinShares$Division" "lastCousin" "I", Cond.methodLink RX0 29 yX0_lineUp, Cond.instanceMethod yX0_lineUp, Cond.selects RX0 yX0_lineUp yX0_lineUp, Cond.initialized RX0, Cond.code yX0_lineUp cX0_lineUp 3 none, Cond.fieldLink RX0 18 "CousinShares$Division" "harvest" "LCousinShares$Harvest;", Cond.fieldLink RX0 15 "CousinShares$Division" "byOrder" "[I", Cond.methodLink RX0 61 yX1_isAhead, Cond.instanceMethod yX1_isAhead, Cond.selects RX1 yX1_isAhead yX1_isAhead, Cond.initialized RX1, Cond.code yX1_isAhead cX1_isAhead 5 (some .boolean), Cond.fieldLink RX1 24 "CousinShares$Harvest" "settings" "[I", Cond.methodLink RX1 54 yX1_grudgesOf, Cond.instanceMethod yX1_grudgesOf, Cond.selects RX1 yX1_grudgesOf yX1_grudgesOf, Cond.code yX1_grudgesOf cX1_grudgesOf 4 (some .int), Cond.fieldLink RX1 18 "CousinShares$Harvest" "grudges" "[I", Cond.methodLink RX0 32 yJ6_bitCount_0f7a4]
def wsX0_run_r2 : List Cond := [Cond.static yJ6_bitCount_0f7a4, Cond.initialized RJ6, Cond.code yJ6_bitCount_0f7a4 cJ6_bitCount_0f7a4 1 (some .int), Cond.constant RJ6 265 (1431655765), Cond.constant RJ6 266 (858993459), Cond.constant RJ6 267 (252645135), Cond.methodLink RX0 38 yX0_cutAndTrim, Cond.instanceMethod yX0_cutAndTrim, Cond.selects RX0 yX0_cutAndTrim yX0_cutAndTrim, Cond.code yX0_cutAndTrim cX0_cutAndTrim 7 none, Cond.static yX5_contains, Cond.initialized RX5, Cond.code yX5_contains cX5_contains 2 (some .boolean), Cond.methodLink RX0 70 yX0_fairPiece, Cond.instanceMethod yX0_fairPiece, Cond.selects RX0 yX0_fairPiece yX0_fairPiece, Cond.code yX0_fairPiece cX0_fairPiece 7 (some .int), Cond.methodLink RX0 87 yX1_worthFrom, Cond.instanceMethod yX1_worthFrom, Cond.selects RX1 yX1_worthFrom yX1_worthFrom, Cond.code yX1_worthFrom cX1_worthFrom 5 (some .int), Cond.fieldLink RX1 27 "CousinShares$Harvest" "worths" "[I", Cond.methodLink RX0 90 yX1_worthOf, Cond.instanceMethod yX1_worthOf]
def wsX0_run_r3 : List Cond := [Cond.selects RX1 yX1_worthOf yX1_worthOf, Cond.code yX1_worthOf cX1_worthOf 3 (some .int), Cond.methodLink RX0 74 yX0_hold, Cond.instanceMethod yX0_hold, Cond.selects RX0 yX0_hold yX0_hold, Cond.code yX0_hold cX0_hold 3 none, Cond.methodLink RX0 78 yX0_mayTrim, Cond.instanceMethod yX0_mayTrim, Cond.selects RX0 yX0_mayTrim yX0_mayTrim, Cond.code yX0_mayTrim cX0_mayTrim 3 none, Cond.fieldLink RX0 84 "CousinShares$Harvest" "settings" "[I", Cond.methodLink RX0 81 yX1_grudgeOf, Cond.instanceMethod yX1_grudgeOf, Cond.selects RX1 yX1_grudgeOf yX1_grudgeOf, Cond.code yX1_grudgeOf cX1_grudgeOf 3 (some .int), Cond.methodLink RX0 48 yX0_handOut, Cond.instanceMethod yX0_handOut, Cond.selects RX0 yX0_handOut yX0_handOut, Cond.code yX0_handOut cX0_handOut 5 none, Cond.fieldLink RX0 9 "CousinShares$Division" "owners" "[I", Cond.static yX5_without, Cond.code yX5_without cX5_without 2 (some .int), Cond.methodLink RX0 55 yX0_firstOf, Cond.instanceMethod yX0_firstOf]
def wsX0_run_r4 : List Cond := [Cond.selects RX0 yX0_firstOf yX0_firstOf, Cond.code yX0_firstOf cX0_firstOf 3 (some .int)]
def wsX0_run : List Cond := .code yX0_run cX0_run 5 none :: ((wsX0_run_r1 ++ (wsX0_run_r2 ++ (wsX0_run_r3 ++ wsX0_run_r4))) ++ wsX00 ++ wsX10)
def wsX1_weighPlot : List Cond := .code yX1_weighPlot cX1_weighPlot 5 none :: ([.fieldLink RX1 9 "CousinShares$Harvest" "amounts" "[I", .fieldLink RX1 15 "CousinShares$Harvest" "weights" "[I", .fieldLink RX1 27 "CousinShares$Harvest" "worths" "[I"] ++ wsX10)
def wsX1_weighPlots : List Cond := .code yX1_weighPlots cX1_weighPlots 3 none :: ([.methodLink RX1 50 yX1_weighPlot, .instanceMethod yX1_weighPlot, .selects RX1 yX1_weighPlot yX1_weighPlot, .initialized RX1, .code yX1_weighPlot cX1_weighPlot 5 none, .fieldLink RX1 9 "CousinShares$Harvest" "amounts" "[I", .fieldLink RX1 15 "CousinShares$Harvest" "weights" "[I", .fieldLink RX1 27 "CousinShares$Harvest" "worths" "[I"] ++ wsX10)
def wsX1_init : List Cond := .code yX1_init cX1_init 2 none :: ([.methodLink RX1 3 objectInit, .instanceMethod objectInit, .code objectInit ⟨#[0xb1]⟩ 1 none, .arrayClass .int, .fieldLink RX1 9 "CousinShares$Harvest" "amounts" "[I", .fieldLink RX1 15 "CousinShares$Harvest" "weights" "[I", .fieldLink RX1 18 "CousinShares$Harvest" "grudges" "[I", .fieldLink RX1 21 "CousinShares$Harvest" "owners" "[I", .fieldLink RX1 24 "CousinShares$Harvest" "settings" "[I", .fieldLink RX1 27 "CousinShares$Harvest" "worths" "[I", .methodLink RX1 30 yX1_weighPlots, .instanceMethod yX1_weighPlots, .selects RX1 yX1_weighPlots yX1_weighPlots, .initialized RX1, .code yX1_weighPlots cX1_weighPlots 3 none, .methodLink RX1 50 yX1_weighPlot, .instanceMethod yX1_weighPlot, .selects RX1 yX1_weighPlot yX1_weighPlot, .code yX1_weighPlot cX1_weighPlot 5 none] ++ wsX10)
def wsX1_copyFrom : List Cond := .code yX1_copyFrom cX1_copyFrom 2 none :: ([.fieldLink RX1 9 "CousinShares$Harvest" "amounts" "[I", .methodLink RX1 34 arraycopyName, .native arraycopyName, .static arraycopyName, .initialized "java/lang/System", .fieldLink RX1 15 "CousinShares$Harvest" "weights" "[I", .fieldLink RX1 18 "CousinShares$Harvest" "grudges" "[I", .fieldLink RX1 21 "CousinShares$Harvest" "owners" "[I", .fieldLink RX1 24 "CousinShares$Harvest" "settings" "[I", .fieldLink RX1 27 "CousinShares$Harvest" "worths" "[I", .fieldLink RX1 40 "CousinShares$Harvest" "trims" "I", .fieldLink RX1 44 "CousinShares$Harvest" "grudgeTrims" "I", .fieldLink RX1 47 "CousinShares$Harvest" "trades" "I"] ++ wsX10)
def wsX1_putAmount : List Cond := .code yX1_putAmount cX1_putAmount 5 none :: ([.fieldLink RX1 9 "CousinShares$Harvest" "amounts" "[I", .methodLink RX1 50 yX1_weighPlot, .instanceMethod yX1_weighPlot, .selects RX1 yX1_weighPlot yX1_weighPlot, .initialized RX1, .code yX1_weighPlot cX1_weighPlot 5 none, .fieldLink RX1 15 "CousinShares$Harvest" "weights" "[I", .fieldLink RX1 27 "CousinShares$Harvest" "worths" "[I"] ++ wsX10)
def wsX1_putWeight : List Cond := .code yX1_putWeight cX1_putWeight 4 none :: ([.fieldLink RX1 15 "CousinShares$Harvest" "weights" "[I", .methodLink RX1 30 yX1_weighPlots, .instanceMethod yX1_weighPlots, .selects RX1 yX1_weighPlots yX1_weighPlots, .initialized RX1, .code yX1_weighPlots cX1_weighPlots 3 none, .methodLink RX1 50 yX1_weighPlot, .instanceMethod yX1_weighPlot, .selects RX1 yX1_weighPlot yX1_weighPlot, .code yX1_weighPlot cX1_weighPlot 5 none, .fieldLink RX1 9 "CousinShares$Harvest" "amounts" "[I", .fieldLink RX1 27 "CousinShares$Harvest" "worths" "[I"] ++ wsX10)
def wsX1_putGrudge : List Cond := .code yX1_putGrudge cX1_putGrudge 4 none :: ([.fieldLink RX1 18 "CousinShares$Harvest" "grudges" "[I"] ++ wsX10)
def wsX1_placeOf : List Cond := .code yX1_placeOf cX1_placeOf 4 (some .int) :: ([.methodLink RX1 58 yX1_isAhead, .instanceMethod yX1_isAhead, .selects RX1 yX1_isAhead yX1_isAhead, .initialized RX1, .code yX1_isAhead cX1_isAhead 5 (some .boolean), .fieldLink RX1 24 "CousinShares$Harvest" "settings" "[I", .methodLink RX1 54 yX1_grudgesOf, .instanceMethod yX1_grudgesOf, .selects RX1 yX1_grudgesOf yX1_grudgesOf, .code yX1_grudgesOf cX1_grudgesOf 4 (some .int), .fieldLink RX1 18 "CousinShares$Harvest" "grudges" "[I"] ++ wsX10)
def wsX1_plotsOf : List Cond := .code yX1_plotsOf cX1_plotsOf 4 (some .int) :: ([.fieldLink RX1 21 "CousinShares$Harvest" "owners" "[I"] ++ wsX10)
def wsX1_exchange : List Cond := .code yX1_exchange cX1_exchange 4 none :: ([.fieldLink RX1 21 "CousinShares$Harvest" "owners" "[I"] ++ wsX10)
def wsX2_init_r1 : List Cond := [Cond.methodLink RX2 3 objectInit, Cond.instanceMethod objectInit, Cond.code objectInit ⟨#[0xb1]⟩ 1 none, Cond.classLink RX2 9 RX1, Cond.fieldLink RX2 11 "CousinShares$History" "states" "[LCousinShares$Harvest;", Cond.instantiable RX1 9, Cond.initialized RX1, Cond.methodLink RX2 17 yX1_init, Cond.instanceMethod yX1_init, Cond.code yX1_init cX1_init 2 none, Cond.methodLink RX1 3 objectInit, Cond.arrayClass .int, Cond.fieldLink RX1 9 "CousinShares$Harvest" "amounts" "[I", Cond.fieldLink RX1 15 "CousinShares$Harvest" "weights" "[I", Cond.fieldLink RX1 18 "CousinShares$Harvest" "grudges" "[I", Cond.fieldLink RX1 21 "CousinShares$Harvest" "owners" "[I", Cond.fieldLink RX1 24 "CousinShares$Harvest" "settings" "[I", Cond.fieldLink RX1 27 "CousinShares$Harvest" "worths" "[I", Cond.methodLink RX1 30 yX1_weighPlots, Cond.instanceMethod yX1_weighPlots, Cond.selects RX1 yX1_weighPlots yX1_weighPlots, Cond.code yX1_weighPlots cX1_weighPlots 3 none, Cond.methodLink RX1 50 yX1_weighPlot, Cond.instanceMethod yX1_weighPlot]
def wsX2_init_r2 : List Cond := [Cond.selects RX1 yX1_weighPlot yX1_weighPlot, Cond.code yX1_weighPlot cX1_weighPlot 5 none]
def wsX2_init : List Cond := .code yX2_init cX2_init 2 none :: ((wsX2_init_r1 ++ wsX2_init_r2) ++ wsX20 ++ wsX10)
def wsX2_dropOldest : List Cond := .code yX2_dropOldest cX2_dropOldest 3 none :: ([.fieldLink RX2 11 "CousinShares$History" "states" "[LCousinShares$Harvest;", .fieldLink RX2 18 "CousinShares$History" "count" "I"] ++ wsX20)
def wsX2_record_r1 : List Cond := [Cond.fieldLink RX2 18 "CousinShares$History" "count" "I", Cond.fieldLink RX2 11 "CousinShares$History" "states" "[LCousinShares$Harvest;", Cond.methodLink RX2 22 yX2_dropOldest, Cond.instanceMethod yX2_dropOldest, Cond.selects RX2 yX2_dropOldest yX2_dropOldest, Cond.initialized RX2, Cond.code yX2_dropOldest cX2_dropOldest 3 none, Cond.methodLink RX2 25 yX1_copyFrom, Cond.instanceMethod yX1_copyFrom, Cond.selects RX1 yX1_copyFrom yX1_copyFrom, Cond.initialized RX1, Cond.code yX1_copyFrom cX1_copyFrom 2 none, Cond.fieldLink RX1 9 "CousinShares$Harvest" "amounts" "[I", Cond.methodLink RX1 34 arraycopyName, Cond.native arraycopyName, Cond.static arraycopyName, Cond.initialized "java/lang/System", Cond.fieldLink RX1 15 "CousinShares$Harvest" "weights" "[I", Cond.fieldLink RX1 18 "CousinShares$Harvest" "grudges" "[I", Cond.fieldLink RX1 21 "CousinShares$Harvest" "owners" "[I", Cond.fieldLink RX1 24 "CousinShares$Harvest" "settings" "[I", Cond.fieldLink RX1 27 "CousinShares$Harvest" "worths" "[I", Cond.fieldLink RX1 40 "CousinShares$Harvest" "trims" "I", Cond.fieldLink RX1 44 "CousinShares$Harvest" "grudgeTrims" "I"]
def wsX2_record_r2 : List Cond := [Cond.fieldLink RX1 47 "CousinShares$Harvest" "trades" "I"]
def wsX2_record : List Cond := .code yX2_record cX2_record 2 none :: ((wsX2_record_r1 ++ wsX2_record_r2) ++ wsX20 ++ wsX10)
def wsX2_takeLatest : List Cond := .code yX2_takeLatest cX2_takeLatest 2 none :: ([.fieldLink RX2 18 "CousinShares$History" "count" "I", .fieldLink RX2 11 "CousinShares$History" "states" "[LCousinShares$Harvest;", .methodLink RX2 25 yX1_copyFrom, .instanceMethod yX1_copyFrom, .selects RX1 yX1_copyFrom yX1_copyFrom, .initialized RX1, .code yX1_copyFrom cX1_copyFrom 2 none, .fieldLink RX1 9 "CousinShares$Harvest" "amounts" "[I", .methodLink RX1 34 arraycopyName, .native arraycopyName, .static arraycopyName, .initialized "java/lang/System", .fieldLink RX1 15 "CousinShares$Harvest" "weights" "[I", .fieldLink RX1 18 "CousinShares$Harvest" "grudges" "[I", .fieldLink RX1 21 "CousinShares$Harvest" "owners" "[I", .fieldLink RX1 24 "CousinShares$Harvest" "settings" "[I", .fieldLink RX1 27 "CousinShares$Harvest" "worths" "[I", .fieldLink RX1 40 "CousinShares$Harvest" "trims" "I", .fieldLink RX1 44 "CousinShares$Harvest" "grudgeTrims" "I", .fieldLink RX1 47 "CousinShares$Harvest" "trades" "I"] ++ wsX20 ++ wsX10)
def wsX3_init : List Cond := .code yX3_init cX3_init 1 none :: ([.methodLink RX3 3 objectInit, .instanceMethod objectInit, .code objectInit ⟨#[0xb1]⟩ 1 none, .arrayClass .int, .fieldLink RX3 9 "CousinShares$OrderText" "digits" "[I", .arrayClass .char, .fieldLink RX3 15 "CousinShares$OrderText" "signs" "[C"] ++ wsX30)
def wsX3_append : List Cond := .code yX3_append cX3_append 2 none :: ([.fieldLink RX3 19 "CousinShares$OrderText" "length" "I", .fieldLink RX3 15 "CousinShares$OrderText" "signs" "[C"] ++ wsX30)
def wsX3_readSign : List Cond := .code yX3_readSign cX3_readSign 2 (some .boolean) :: ([.fieldLink RX3 23 "CousinShares$OrderText" "at" "I", .fieldLink RX3 19 "CousinShares$OrderText" "length" "I", .fieldLink RX3 15 "CousinShares$OrderText" "signs" "[C"] ++ wsX30)
def wsX3_readDigit : List Cond := .code yX3_readDigit cX3_readDigit 4 (some .int) :: ([.fieldLink RX3 23 "CousinShares$OrderText" "at" "I", .fieldLink RX3 19 "CousinShares$OrderText" "length" "I", .fieldLink RX3 15 "CousinShares$OrderText" "signs" "[C"] ++ wsX30)
def wsX3_readPlot : List Cond := .code yX3_readPlot cX3_readPlot 2 (some .boolean) :: ([.fieldLink RX3 57 "CousinShares$OrderText" "first" "I", .methodLink RX3 60 Lib.Math.min.name, .static Lib.Math.min.name, .initialized "java/lang/Math", .code Lib.Math.min.name Lib.Math.min.code 2 (some .int), .methodLink RX3 53 yX3_readDigit, .instanceMethod yX3_readDigit, .selects RX3 yX3_readDigit yX3_readDigit, .initialized RX3, .code yX3_readDigit cX3_readDigit 4 (some .int), .fieldLink RX3 23 "CousinShares$OrderText" "at" "I", .fieldLink RX3 19 "CousinShares$OrderText" "length" "I", .fieldLink RX3 15 "CousinShares$OrderText" "signs" "[C"] ++ wsX30)
def wsX3_readDigits : List Cond := .code yX3_readDigits cX3_readDigits 4 (some .boolean) :: ([.fieldLink RX3 9 "CousinShares$OrderText" "digits" "[I", .methodLink RX3 53 yX3_readDigit, .instanceMethod yX3_readDigit, .selects RX3 yX3_readDigit yX3_readDigit, .initialized RX3, .code yX3_readDigit cX3_readDigit 4 (some .int), .fieldLink RX3 23 "CousinShares$OrderText" "at" "I", .fieldLink RX3 19 "CousinShares$OrderText" "length" "I", .fieldLink RX3 15 "CousinShares$OrderText" "signs" "[C"] ++ wsX30)
def wsX3_readCousin : List Cond := .code yX3_readCousin cX3_readCousin 1 (some .boolean) :: ([.fieldLink RX3 57 "CousinShares$OrderText" "first" "I", .methodLink RX3 53 yX3_readDigit, .instanceMethod yX3_readDigit, .selects RX3 yX3_readDigit yX3_readDigit, .initialized RX3, .code yX3_readDigit cX3_readDigit 4 (some .int), .fieldLink RX3 23 "CousinShares$OrderText" "at" "I", .fieldLink RX3 19 "CousinShares$OrderText" "length" "I", .fieldLink RX3 15 "CousinShares$OrderText" "signs" "[C"] ++ wsX30)
def wsX3_readOther : List Cond := .code yX3_readOther cX3_readOther 1 (some .boolean) :: ([.fieldLink RX3 57 "CousinShares$OrderText" "first" "I", .fieldLink RX3 65 "CousinShares$OrderText" "second" "I", .methodLink RX3 53 yX3_readDigit, .instanceMethod yX3_readDigit, .selects RX3 yX3_readDigit yX3_readDigit, .initialized RX3, .code yX3_readDigit cX3_readDigit 4 (some .int), .fieldLink RX3 23 "CousinShares$OrderText" "at" "I", .fieldLink RX3 19 "CousinShares$OrderText" "length" "I", .fieldLink RX3 15 "CousinShares$OrderText" "signs" "[C"] ++ wsX30)
def wsX3_readParty : List Cond := .code yX3_readParty cX3_readParty 4 (some .boolean) :: ([.fieldLink RX3 68 "CousinShares$OrderText" "party" "I", .methodLink RX3 53 yX3_readDigit, .instanceMethod yX3_readDigit, .selects RX3 yX3_readDigit yX3_readDigit, .initialized RX3, .code yX3_readDigit cX3_readDigit 4 (some .int), .fieldLink RX3 23 "CousinShares$OrderText" "at" "I", .fieldLink RX3 19 "CousinShares$OrderText" "length" "I", .fieldLink RX3 15 "CousinShares$OrderText" "signs" "[C"] ++ wsX30)
def wsX3_readOrder_r1 : List Cond := [Cond.fieldLink RX3 34 "CousinShares$OrderText" "kind" "I", Cond.methodLink RX3 30 yX3_readSign, Cond.instanceMethod yX3_readSign, Cond.selects RX3 yX3_readSign yX3_readSign, Cond.initialized RX3, Cond.code yX3_readSign cX3_readSign 2 (some .boolean), Cond.fieldLink RX3 23 "CousinShares$OrderText" "at" "I", Cond.fieldLink RX3 19 "CousinShares$OrderText" "length" "I", Cond.fieldLink RX3 15 "CousinShares$OrderText" "signs" "[C", Cond.methodLink RX3 37 yX3_readPlot, Cond.instanceMethod yX3_readPlot, Cond.selects RX3 yX3_readPlot yX3_readPlot, Cond.code yX3_readPlot cX3_readPlot 2 (some .boolean), Cond.fieldLink RX3 57 "CousinShares$OrderText" "first" "I", Cond.methodLink RX3 60 Lib.Math.min.name, Cond.static Lib.Math.min.name, Cond.initialized "java/lang/Math", Cond.code Lib.Math.min.name Lib.Math.min.code 2 (some .int), Cond.methodLink RX3 53 yX3_readDigit, Cond.instanceMethod yX3_readDigit, Cond.selects RX3 yX3_readDigit yX3_readDigit, Cond.code yX3_readDigit cX3_readDigit 4 (some .int), Cond.methodLink RX3 40 yX3_readDigits, Cond.instanceMethod yX3_readDigits]
def wsX3_readOrder_r2 : List Cond := [Cond.selects RX3 yX3_readDigits yX3_readDigits, Cond.code yX3_readDigits cX3_readDigits 4 (some .boolean), Cond.fieldLink RX3 9 "CousinShares$OrderText" "digits" "[I", Cond.methodLink RX3 44 yX3_readCousin, Cond.instanceMethod yX3_readCousin, Cond.selects RX3 yX3_readCousin yX3_readCousin, Cond.code yX3_readCousin cX3_readCousin 1 (some .boolean), Cond.methodLink RX3 47 yX3_readOther, Cond.instanceMethod yX3_readOther, Cond.selects RX3 yX3_readOther yX3_readOther, Cond.code yX3_readOther cX3_readOther 1 (some .boolean), Cond.fieldLink RX3 65 "CousinShares$OrderText" "second" "I", Cond.methodLink RX3 50 yX3_readParty, Cond.instanceMethod yX3_readParty, Cond.selects RX3 yX3_readParty yX3_readParty, Cond.code yX3_readParty cX3_readParty 4 (some .boolean), Cond.fieldLink RX3 68 "CousinShares$OrderText" "party" "I"]
def wsX3_readOrder : List Cond := .code yX3_readOrder cX3_readOrder 1 (some .boolean) :: ((wsX3_readOrder_r1 ++ wsX3_readOrder_r2) ++ wsX30)
def wsX3_countOrders_r1 : List Cond := [Cond.fieldLink RX3 23 "CousinShares$OrderText" "at" "I", Cond.fieldLink RX3 19 "CousinShares$OrderText" "length" "I", Cond.methodLink RX3 26 yX3_readOrder, Cond.instanceMethod yX3_readOrder, Cond.selects RX3 yX3_readOrder yX3_readOrder, Cond.initialized RX3, Cond.code yX3_readOrder cX3_readOrder 1 (some .boolean), Cond.fieldLink RX3 34 "CousinShares$OrderText" "kind" "I", Cond.methodLink RX3 30 yX3_readSign, Cond.instanceMethod yX3_readSign, Cond.selects RX3 yX3_readSign yX3_readSign, Cond.code yX3_readSign cX3_readSign 2 (some .boolean), Cond.fieldLink RX3 15 "CousinShares$OrderText" "signs" "[C", Cond.methodLink RX3 37 yX3_readPlot, Cond.instanceMethod yX3_readPlot, Cond.selects RX3 yX3_readPlot yX3_readPlot, Cond.code yX3_readPlot cX3_readPlot 2 (some .boolean), Cond.fieldLink RX3 57 "CousinShares$OrderText" "first" "I", Cond.methodLink RX3 60 Lib.Math.min.name, Cond.static Lib.Math.min.name, Cond.initialized "java/lang/Math", Cond.code Lib.Math.min.name Lib.Math.min.code 2 (some .int), Cond.methodLink RX3 53 yX3_readDigit, Cond.instanceMethod yX3_readDigit]
def wsX3_countOrders_r2 : List Cond := [Cond.selects RX3 yX3_readDigit yX3_readDigit, Cond.code yX3_readDigit cX3_readDigit 4 (some .int), Cond.methodLink RX3 40 yX3_readDigits, Cond.instanceMethod yX3_readDigits, Cond.selects RX3 yX3_readDigits yX3_readDigits, Cond.code yX3_readDigits cX3_readDigits 4 (some .boolean), Cond.fieldLink RX3 9 "CousinShares$OrderText" "digits" "[I", Cond.methodLink RX3 44 yX3_readCousin, Cond.instanceMethod yX3_readCousin, Cond.selects RX3 yX3_readCousin yX3_readCousin, Cond.code yX3_readCousin cX3_readCousin 1 (some .boolean), Cond.methodLink RX3 47 yX3_readOther, Cond.instanceMethod yX3_readOther, Cond.selects RX3 yX3_readOther yX3_readOther, Cond.code yX3_readOther cX3_readOther 1 (some .boolean), Cond.fieldLink RX3 65 "CousinShares$OrderText" "second" "I", Cond.methodLink RX3 50 yX3_readParty, Cond.instanceMethod yX3_readParty, Cond.selects RX3 yX3_readParty yX3_readParty, Cond.code yX3_readParty cX3_readParty 4 (some .boolean), Cond.fieldLink RX3 68 "CousinShares$OrderText" "party" "I"]
def wsX3_countOrders : List Cond := .code yX3_countOrders cX3_countOrders 2 (some .int) :: ((wsX3_countOrders_r1 ++ wsX3_countOrders_r2) ++ wsX30)
def wsX4_init : List Cond := .code yX4_init cX4_init 2 none :: ([.methodLink RX4 3 objectInit, .instanceMethod objectInit, .code objectInit ⟨#[0xb1]⟩ 1 none, .arrayClass .int, .fieldLink RX4 9 "CousinShares$Shares" "worths" "[I", .fieldLink RX4 15 "CousinShares$Shares" "harvest" "LCousinShares$Harvest;"] ++ wsX40)
def wsX5_isCousin : List Cond := .code yX5_isCousin cX5_isCousin 1 (some .boolean) :: ([])
def wsX4_measure : List Cond := .code yX4_measure cX4_measure 5 none :: ([.fieldLink RX4 9 "CousinShares$Shares" "worths" "[I", .fieldLink RX4 15 "CousinShares$Shares" "harvest" "LCousinShares$Harvest;", .static yX5_isCousin, .initialized RX5, .code yX5_isCousin cX5_isCousin 1 (some .boolean), .methodLink RX4 23 yX1_worthOf, .instanceMethod yX1_worthOf, .selects RX1 yX1_worthOf yX1_worthOf, .initialized RX1, .code yX1_worthOf cX1_worthOf 3 (some .int), .fieldLink RX1 27 "CousinShares$Harvest" "worths" "[I"] ++ wsX40 ++ wsX10)
def wsX4_exchange : List Cond := .code yX4_exchange cX4_exchange 5 none :: ([.fieldLink RX4 9 "CousinShares$Shares" "worths" "[I"] ++ wsX40)
def wsX4_worthOf : List Cond := .code yX4_worthOf cX4_worthOf 3 (some .int) :: ([.fieldLink RX4 9 "CousinShares$Shares" "worths" "[I"] ++ wsX40)
def wsX4_seeming : List Cond := .code yX4_seeming cX4_seeming 4 (some .int) :: ([.fieldLink RX4 9 "CousinShares$Shares" "worths" "[I", .fieldLink RX4 15 "CousinShares$Shares" "harvest" "LCousinShares$Harvest;", .fieldLink RX4 29 "CousinShares$Harvest" "grudges" "[I"] ++ wsX40 ++ wsX10)
def wsX4_envy : List Cond := .code yX4_envy cX4_envy 3 (some .int) :: ([.methodLink RX4 36 Lib.Math.max.name, .static Lib.Math.max.name, .initialized "java/lang/Math", .code Lib.Math.max.name Lib.Math.max.code 2 (some .int), .methodLink RX4 32 yX4_seeming, .instanceMethod yX4_seeming, .selects RX4 yX4_seeming yX4_seeming, .initialized RX4, .code yX4_seeming cX4_seeming 4 (some .int), .fieldLink RX4 9 "CousinShares$Shares" "worths" "[I", .fieldLink RX4 15 "CousinShares$Shares" "harvest" "LCousinShares$Harvest;", .fieldLink RX4 29 "CousinShares$Harvest" "grudges" "[I", .methodLink RX4 35 yX4_worthOf, .instanceMethod yX4_worthOf, .selects RX4 yX4_worthOf yX4_worthOf, .code yX4_worthOf cX4_worthOf 3 (some .int)] ++ wsX40 ++ wsX10)
def wsX4_enviesOf : List Cond := .code yX4_enviesOf cX4_enviesOf 5 (some .int) :: ([.static yX5_contains, .initialized RX5, .code yX5_contains cX5_contains 2 (some .boolean), .methodLink RX4 45 yX4_envy, .instanceMethod yX4_envy, .selects RX4 yX4_envy yX4_envy, .initialized RX4, .code yX4_envy cX4_envy 3 (some .int), .methodLink RX4 36 Lib.Math.max.name, .static Lib.Math.max.name, .initialized "java/lang/Math", .code Lib.Math.max.name Lib.Math.max.code 2 (some .int), .methodLink RX4 32 yX4_seeming, .instanceMethod yX4_seeming, .selects RX4 yX4_seeming yX4_seeming, .code yX4_seeming cX4_seeming 4 (some .int), .fieldLink RX4 9 "CousinShares$Shares" "worths" "[I", .fieldLink RX4 15 "CousinShares$Shares" "harvest" "LCousinShares$Harvest;", .fieldLink RX4 29 "CousinShares$Harvest" "grudges" "[I", .methodLink RX4 35 yX4_worthOf, .instanceMethod yX4_worthOf, .selects RX4 yX4_worthOf yX4_worthOf, .code yX4_worthOf cX4_worthOf 3 (some .int)] ++ wsX40 ++ wsX10)
def wsX4_enviesAmong_r1 : List Cond := [Cond.static yX5_contains, Cond.initialized RX5, Cond.code yX5_contains cX5_contains 2 (some .boolean), Cond.methodLink RX4 48 yX4_enviesOf, Cond.instanceMethod yX4_enviesOf, Cond.selects RX4 yX4_enviesOf yX4_enviesOf, Cond.initialized RX4, Cond.code yX4_enviesOf cX4_enviesOf 5 (some .int), Cond.methodLink RX4 45 yX4_envy, Cond.instanceMethod yX4_envy, Cond.selects RX4 yX4_envy yX4_envy, Cond.code yX4_envy cX4_envy 3 (some .int), Cond.methodLink RX4 36 Lib.Math.max.name, Cond.static Lib.Math.max.name, Cond.initialized "java/lang/Math", Cond.code Lib.Math.max.name Lib.Math.max.code 2 (some .int), Cond.methodLink RX4 32 yX4_seeming, Cond.instanceMethod yX4_seeming, Cond.selects RX4 yX4_seeming yX4_seeming, Cond.code yX4_seeming cX4_seeming 4 (some .int), Cond.fieldLink RX4 9 "CousinShares$Shares" "worths" "[I", Cond.fieldLink RX4 15 "CousinShares$Shares" "harvest" "LCousinShares$Harvest;", Cond.fieldLink RX4 29 "CousinShares$Harvest" "grudges" "[I", Cond.methodLink RX4 35 yX4_worthOf]
def wsX4_enviesAmong_r2 : List Cond := [Cond.instanceMethod yX4_worthOf, Cond.selects RX4 yX4_worthOf yX4_worthOf, Cond.code yX4_worthOf cX4_worthOf 3 (some .int)]
def wsX4_enviesAmong : List Cond := .code yX4_enviesAmong cX4_enviesAmong 4 (some .int) :: ((wsX4_enviesAmong_r1 ++ wsX4_enviesAmong_r2) ++ wsX40 ++ wsX10)
def wsX4_greatestEnvyOf : List Cond := .code yX4_greatestEnvyOf cX4_greatestEnvyOf 4 (some .int) :: ([.methodLink RX4 36 Lib.Math.max.name, .static Lib.Math.max.name, .initialized "java/lang/Math", .code Lib.Math.max.name Lib.Math.max.code 2 (some .int), .methodLink RX4 45 yX4_envy, .instanceMethod yX4_envy, .selects RX4 yX4_envy yX4_envy, .initialized RX4, .code yX4_envy cX4_envy 3 (some .int), .methodLink RX4 32 yX4_seeming, .instanceMethod yX4_seeming, .selects RX4 yX4_seeming yX4_seeming, .code yX4_seeming cX4_seeming 4 (some .int), .fieldLink RX4 9 "CousinShares$Shares" "worths" "[I", .fieldLink RX4 15 "CousinShares$Shares" "harvest" "LCousinShares$Harvest;", .fieldLink RX4 29 "CousinShares$Harvest" "grudges" "[I", .methodLink RX4 35 yX4_worthOf, .instanceMethod yX4_worthOf, .selects RX4 yX4_worthOf yX4_worthOf, .code yX4_worthOf cX4_worthOf 3 (some .int)] ++ wsX40 ++ wsX10)
def wsX4_enviesTowards : List Cond := .code yX4_enviesTowards cX4_enviesTowards 4 (some .int) :: ([.methodLink RX4 45 yX4_envy, .instanceMethod yX4_envy, .selects RX4 yX4_envy yX4_envy, .initialized RX4, .code yX4_envy cX4_envy 3 (some .int), .methodLink RX4 36 Lib.Math.max.name, .static Lib.Math.max.name, .initialized "java/lang/Math", .code Lib.Math.max.name Lib.Math.max.code 2 (some .int), .methodLink RX4 32 yX4_seeming, .instanceMethod yX4_seeming, .selects RX4 yX4_seeming yX4_seeming, .code yX4_seeming cX4_seeming 4 (some .int), .fieldLink RX4 9 "CousinShares$Shares" "worths" "[I", .fieldLink RX4 15 "CousinShares$Shares" "harvest" "LCousinShares$Harvest;", .fieldLink RX4 29 "CousinShares$Harvest" "grudges" "[I", .methodLink RX4 35 yX4_worthOf, .instanceMethod yX4_worthOf, .selects RX4 yX4_worthOf yX4_worthOf, .code yX4_worthOf cX4_worthOf 3 (some .int)] ++ wsX40 ++ wsX10)
def wsX4_contentCousins : List Cond := .code yX4_contentCousins cX4_contentCousins 3 (some .int) :: ([.methodLink RX4 51 yX4_greatestEnvyOf, .instanceMethod yX4_greatestEnvyOf, .selects RX4 yX4_greatestEnvyOf yX4_greatestEnvyOf, .initialized RX4, .code yX4_greatestEnvyOf cX4_greatestEnvyOf 4 (some .int), .methodLink RX4 36 Lib.Math.max.name, .static Lib.Math.max.name, .initialized "java/lang/Math", .code Lib.Math.max.name Lib.Math.max.code 2 (some .int), .methodLink RX4 45 yX4_envy, .instanceMethod yX4_envy, .selects RX4 yX4_envy yX4_envy, .code yX4_envy cX4_envy 3 (some .int), .methodLink RX4 32 yX4_seeming, .instanceMethod yX4_seeming, .selects RX4 yX4_seeming yX4_seeming, .code yX4_seeming cX4_seeming 4 (some .int), .fieldLink RX4 9 "CousinShares$Shares" "worths" "[I", .fieldLink RX4 15 "CousinShares$Shares" "harvest" "LCousinShares$Harvest;", .fieldLink RX4 29 "CousinShares$Harvest" "grudges" "[I", .methodLink RX4 35 yX4_worthOf, .instanceMethod yX4_worthOf, .selects RX4 yX4_worthOf yX4_worthOf, .code yX4_worthOf cX4_worthOf 3 (some .int)] ++ wsX40 ++ wsX10)
def wsX4_whyNoTrade : List Cond := .code yX4_whyNoTrade cX4_whyNoTrade 4 (some .int) :: ([.fieldLink RX4 15 "CousinShares$Shares" "harvest" "LCousinShares$Harvest;", .fieldLink RX4 55 "CousinShares$Harvest" "settings" "[I", .methodLink RX4 58 yX1_grudgeOf, .instanceMethod yX1_grudgeOf, .selects RX1 yX1_grudgeOf yX1_grudgeOf, .initialized RX1, .code yX1_grudgeOf cX1_grudgeOf 3 (some .int), .fieldLink RX1 18 "CousinShares$Harvest" "grudges" "[I", .methodLink RX4 35 yX4_worthOf, .instanceMethod yX4_worthOf, .selects RX4 yX4_worthOf yX4_worthOf, .initialized RX4, .code yX4_worthOf cX4_worthOf 3 (some .int), .fieldLink RX4 9 "CousinShares$Shares" "worths" "[I"] ++ wsX40 ++ wsX10)
def wsX4_tradingPairs : List Cond := .code yX4_tradingPairs cX4_tradingPairs 4 (some .int) :: ([.methodLink RX4 61 yX4_whyNoTrade, .instanceMethod yX4_whyNoTrade, .selects RX4 yX4_whyNoTrade yX4_whyNoTrade, .initialized RX4, .code yX4_whyNoTrade cX4_whyNoTrade 4 (some .int), .fieldLink RX4 15 "CousinShares$Shares" "harvest" "LCousinShares$Harvest;", .fieldLink RX4 55 "CousinShares$Harvest" "settings" "[I", .methodLink RX4 58 yX1_grudgeOf, .instanceMethod yX1_grudgeOf, .selects RX1 yX1_grudgeOf yX1_grudgeOf, .initialized RX1, .code yX1_grudgeOf cX1_grudgeOf 3 (some .int), .fieldLink RX1 18 "CousinShares$Harvest" "grudges" "[I", .methodLink RX4 35 yX4_worthOf, .instanceMethod yX4_worthOf, .selects RX4 yX4_worthOf yX4_worthOf, .code yX4_worthOf cX4_worthOf 3 (some .int), .fieldLink RX4 9 "CousinShares$Shares" "worths" "[I"] ++ wsX40 ++ wsX10)
def wsX4_enviesAfterTrade_r1 : List Cond := [Cond.methodLink RX4 77 yX4_exchange, Cond.instanceMethod yX4_exchange, Cond.selects RX4 yX4_exchange yX4_exchange, Cond.initialized RX4, Cond.code yX4_exchange cX4_exchange 5 none, Cond.fieldLink RX4 9 "CousinShares$Shares" "worths" "[I", Cond.methodLink RX4 81 yX4_enviesAmong, Cond.instanceMethod yX4_enviesAmong, Cond.selects RX4 yX4_enviesAmong yX4_enviesAmong, Cond.code yX4_enviesAmong cX4_enviesAmong 4 (some .int), Cond.static yX5_contains, Cond.initialized RX5, Cond.code yX5_contains cX5_contains 2 (some .boolean), Cond.methodLink RX4 48 yX4_enviesOf, Cond.instanceMethod yX4_enviesOf, Cond.selects RX4 yX4_enviesOf yX4_enviesOf, Cond.code yX4_enviesOf cX4_enviesOf 5 (some .int), Cond.methodLink RX4 45 yX4_envy, Cond.instanceMethod yX4_envy, Cond.selects RX4 yX4_envy yX4_envy, Cond.code yX4_envy cX4_envy 3 (some .int), Cond.methodLink RX4 36 Lib.Math.max.name, Cond.static Lib.Math.max.name, Cond.initialized "java/lang/Math"]
def wsX4_enviesAfterTrade_r2 : List Cond := [Cond.code Lib.Math.max.name Lib.Math.max.code 2 (some .int), Cond.methodLink RX4 32 yX4_seeming, Cond.instanceMethod yX4_seeming, Cond.selects RX4 yX4_seeming yX4_seeming, Cond.code yX4_seeming cX4_seeming 4 (some .int), Cond.fieldLink RX4 15 "CousinShares$Shares" "harvest" "LCousinShares$Harvest;", Cond.fieldLink RX4 29 "CousinShares$Harvest" "grudges" "[I", Cond.methodLink RX4 35 yX4_worthOf, Cond.instanceMethod yX4_worthOf, Cond.selects RX4 yX4_worthOf yX4_worthOf, Cond.code yX4_worthOf cX4_worthOf 3 (some .int)]
def wsX4_enviesAfterTrade : List Cond := .code yX4_enviesAfterTrade cX4_enviesAfterTrade 4 (some .int) :: ((wsX4_enviesAfterTrade_r1 ++ wsX4_enviesAfterTrade_r2) ++ wsX40 ++ wsX10)
def wsX4_findBestTrade_r1 : List Cond := [Cond.fieldLink RX4 67 "CousinShares$Shares" "bestSum" "I", Cond.fieldLink RX4 71 "CousinShares$Shares" "bestFirst" "I", Cond.fieldLink RX4 74 "CousinShares$Shares" "bestSecond" "I", Cond.methodLink RX4 61 yX4_whyNoTrade, Cond.instanceMethod yX4_whyNoTrade, Cond.selects RX4 yX4_whyNoTrade yX4_whyNoTrade, Cond.initialized RX4, Cond.code yX4_whyNoTrade cX4_whyNoTrade 4 (some .int), Cond.fieldLink RX4 15 "CousinShares$Shares" "harvest" "LCousinShares$Harvest;", Cond.fieldLink RX4 55 "CousinShares$Harvest" "settings" "[I", Cond.methodLink RX4 58 yX1_grudgeOf, Cond.instanceMethod yX1_grudgeOf, Cond.selects RX1 yX1_grudgeOf yX1_grudgeOf, Cond.initialized RX1, Cond.code yX1_grudgeOf cX1_grudgeOf 3 (some .int), Cond.fieldLink RX1 18 "CousinShares$Harvest" "grudges" "[I", Cond.methodLink RX4 35 yX4_worthOf, Cond.instanceMethod yX4_worthOf, Cond.selects RX4 yX4_worthOf yX4_worthOf, Cond.code yX4_worthOf cX4_worthOf 3 (some .int), Cond.fieldLink RX4 9 "CousinShares$Shares" "worths" "[I", Cond.methodLink RX4 64 yX4_enviesAfterTrade, Cond.instanceMethod yX4_enviesAfterTrade, Cond.selects RX4 yX4_enviesAfterTrade yX4_enviesAfterTrade]
def wsX4_findBestTrade_r2 : List Cond := [Cond.code yX4_enviesAfterTrade cX4_enviesAfterTrade 4 (some .int), Cond.methodLink RX4 77 yX4_exchange, Cond.instanceMethod yX4_exchange, Cond.selects RX4 yX4_exchange yX4_exchange, Cond.code yX4_exchange cX4_exchange 5 none, Cond.methodLink RX4 81 yX4_enviesAmong, Cond.instanceMethod yX4_enviesAmong, Cond.selects RX4 yX4_enviesAmong yX4_enviesAmong, Cond.code yX4_enviesAmong cX4_enviesAmong 4 (some .int), Cond.static yX5_contains, Cond.initialized RX5, Cond.code yX5_contains cX5_contains 2 (some .boolean), Cond.methodLink RX4 48 yX4_enviesOf, Cond.instanceMethod yX4_enviesOf, Cond.selects RX4 yX4_enviesOf yX4_enviesOf, Cond.code yX4_enviesOf cX4_enviesOf 5 (some .int), Cond.methodLink RX4 45 yX4_envy, Cond.instanceMethod yX4_envy, Cond.selects RX4 yX4_envy yX4_envy, Cond.code yX4_envy cX4_envy 3 (some .int), Cond.methodLink RX4 36 Lib.Math.max.name, Cond.static Lib.Math.max.name, Cond.initialized "java/lang/Math", Cond.code Lib.Math.max.name Lib.Math.max.code 2 (some .int)]
def wsX4_findBestTrade_r3 : List Cond := [Cond.methodLink RX4 32 yX4_seeming, Cond.instanceMethod yX4_seeming, Cond.selects RX4 yX4_seeming yX4_seeming, Cond.code yX4_seeming cX4_seeming 4 (some .int), Cond.fieldLink RX4 29 "CousinShares$Harvest" "grudges" "[I"]
def wsX4_findBestTrade : List Cond := .code yX4_findBestTrade cX4_findBestTrade 5 (some .boolean) :: ((wsX4_findBestTrade_r1 ++ (wsX4_findBestTrade_r2 ++ wsX4_findBestTrade_r3)) ++ wsX40 ++ wsX10)
def wsX5_init_r1 : List Cond := [Cond.methodLink RX5 3 objectInit, Cond.instanceMethod objectInit, Cond.code objectInit ⟨#[0xb1]⟩ 1 none, Cond.classLink RX5 9 RX1, Cond.instantiable RX1 9, Cond.initialized RX1, Cond.fieldLink RX5 12 "CousinShares" "now" "LCousinShares$Harvest;", Cond.classLink RX5 16 RX0, Cond.instantiable RX0 8, Cond.initialized RX0, Cond.fieldLink RX5 21 "CousinShares" "division" "LCousinShares$Division;", Cond.classLink RX5 25 RX4, Cond.instantiable RX4 5, Cond.initialized RX4, Cond.fieldLink RX5 28 "CousinShares" "shares" "LCousinShares$Shares;", Cond.classLink RX5 32 RX3, Cond.instantiable RX3 8, Cond.initialized RX3, Cond.fieldLink RX5 35 "CousinShares" "text" "LCousinShares$OrderText;", Cond.classLink RX5 39 RX2, Cond.instantiable RX2 2, Cond.initialized RX2, Cond.fieldLink RX5 42 "CousinShares" "history" "LCousinShares$History;", Cond.fieldLink RX5 46 "CousinShares" "snapshot" "LCousinShares$Harvest;"]
def wsX5_init_r2 : List Cond := [Cond.fieldLink RX5 49 "CousinShares" "hasSnapshot" "Z", Cond.methodLink RX5 11 yX1_init, Cond.instanceMethod yX1_init, Cond.code yX1_init cX1_init 2 none, Cond.methodLink RX1 3 objectInit, Cond.arrayClass .int, Cond.fieldLink RX1 9 "CousinShares$Harvest" "amounts" "[I", Cond.fieldLink RX1 15 "CousinShares$Harvest" "weights" "[I", Cond.fieldLink RX1 18 "CousinShares$Harvest" "grudges" "[I", Cond.fieldLink RX1 21 "CousinShares$Harvest" "owners" "[I", Cond.fieldLink RX1 24 "CousinShares$Harvest" "settings" "[I", Cond.fieldLink RX1 27 "CousinShares$Harvest" "worths" "[I", Cond.methodLink RX1 30 yX1_weighPlots, Cond.instanceMethod yX1_weighPlots, Cond.selects RX1 yX1_weighPlots yX1_weighPlots, Cond.code yX1_weighPlots cX1_weighPlots 3 none, Cond.methodLink RX1 50 yX1_weighPlot, Cond.instanceMethod yX1_weighPlot, Cond.selects RX1 yX1_weighPlot yX1_weighPlot, Cond.code yX1_weighPlot cX1_weighPlot 5 none, Cond.methodLink RX5 18 yX0_init, Cond.instanceMethod yX0_init, Cond.code yX0_init cX0_init 2 none, Cond.methodLink RX0 3 objectInit]
def wsX5_init_r3 : List Cond := [Cond.fieldLink RX0 9 "CousinShares$Division" "owners" "[I", Cond.fieldLink RX0 15 "CousinShares$Division" "byOrder" "[I", Cond.fieldLink RX0 18 "CousinShares$Division" "harvest" "LCousinShares$Harvest;", Cond.methodLink RX5 27 yX4_init, Cond.instanceMethod yX4_init, Cond.code yX4_init cX4_init 2 none, Cond.methodLink RX4 3 objectInit, Cond.fieldLink RX4 9 "CousinShares$Shares" "worths" "[I", Cond.fieldLink RX4 15 "CousinShares$Shares" "harvest" "LCousinShares$Harvest;", Cond.instanceMethod yX3_init, Cond.code yX3_init cX3_init 1 none, Cond.methodLink RX3 3 objectInit, Cond.fieldLink RX3 9 "CousinShares$OrderText" "digits" "[I", Cond.arrayClass .char, Cond.fieldLink RX3 15 "CousinShares$OrderText" "signs" "[C", Cond.methodLink RX5 41 yX2_init, Cond.instanceMethod yX2_init, Cond.code yX2_init cX2_init 2 none, Cond.methodLink RX2 3 objectInit, Cond.classLink RX2 9 RX1, Cond.fieldLink RX2 11 "CousinShares$History" "states" "[LCousinShares$Harvest;", Cond.methodLink RX2 17 yX1_init]
def wsX5_init : List Cond := .code yX5_init cX5_init 1 none :: ((wsX5_init_r1 ++ (wsX5_init_r2 ++ wsX5_init_r3)) ++ wsX10 ++ wsX50 ++ wsX00 ++ wsX40 ++ wsX30 ++ wsX20)
def wsX5_isPlot : List Cond := .code yX5_isPlot cX5_isPlot 1 (some .boolean) :: ([])
def wsX5_isCrop : List Cond := .code yX5_isCrop cX5_isCrop 1 (some .boolean) :: ([])
def wsX5_isDigit : List Cond := .code yX5_isDigit cX5_isDigit 1 (some .boolean) :: ([])
def wsX5_plant_r1 : List Cond := [Cond.fieldLink RX5 12 "CousinShares" "now" "LCousinShares$Harvest;", Cond.fieldLink RX5 63 "CousinShares$Harvest" "amounts" "[I", Cond.fieldLink RX5 42 "CousinShares" "history" "LCousinShares$History;", Cond.methodLink RX5 53 yX5_isPlot, Cond.static yX5_isPlot, Cond.initialized RX5, Cond.code yX5_isPlot cX5_isPlot 1 (some .boolean), Cond.methodLink RX5 57 yX5_isCrop, Cond.static yX5_isCrop, Cond.code yX5_isCrop cX5_isCrop 1 (some .boolean), Cond.methodLink RX5 60 yX5_isDigit, Cond.static yX5_isDigit, Cond.code yX5_isDigit cX5_isDigit 1 (some .boolean), Cond.methodLink RX5 67 yX2_record, Cond.instanceMethod yX2_record, Cond.selects RX2 yX2_record yX2_record, Cond.initialized RX2, Cond.code yX2_record cX2_record 2 none, Cond.fieldLink RX2 18 "CousinShares$History" "count" "I", Cond.fieldLink RX2 11 "CousinShares$History" "states" "[LCousinShares$Harvest;", Cond.methodLink RX2 22 yX2_dropOldest, Cond.instanceMethod yX2_dropOldest, Cond.selects RX2 yX2_dropOldest yX2_dropOldest, Cond.code yX2_dropOldest cX2_dropOldest 3 none]
def wsX5_plant_r2 : List Cond := [Cond.methodLink RX2 25 yX1_copyFrom, Cond.instanceMethod yX1_copyFrom, Cond.selects RX1 yX1_copyFrom yX1_copyFrom, Cond.initialized RX1, Cond.code yX1_copyFrom cX1_copyFrom 2 none, Cond.fieldLink RX1 9 "CousinShares$Harvest" "amounts" "[I", Cond.methodLink RX1 34 arraycopyName, Cond.native arraycopyName, Cond.static arraycopyName, Cond.initialized "java/lang/System", Cond.fieldLink RX1 15 "CousinShares$Harvest" "weights" "[I", Cond.fieldLink RX1 18 "CousinShares$Harvest" "grudges" "[I", Cond.fieldLink RX1 21 "CousinShares$Harvest" "owners" "[I", Cond.fieldLink RX1 24 "CousinShares$Harvest" "settings" "[I", Cond.fieldLink RX1 27 "CousinShares$Harvest" "worths" "[I", Cond.fieldLink RX1 40 "CousinShares$Harvest" "trims" "I", Cond.fieldLink RX1 44 "CousinShares$Harvest" "grudgeTrims" "I", Cond.fieldLink RX1 47 "CousinShares$Harvest" "trades" "I", Cond.methodLink RX5 70 yX1_putAmount, Cond.instanceMethod yX1_putAmount, Cond.selects RX1 yX1_putAmount yX1_putAmount, Cond.code yX1_putAmount cX1_putAmount 5 none, Cond.methodLink RX1 50 yX1_weighPlot, Cond.instanceMethod yX1_weighPlot]
def wsX5_plant_r3 : List Cond := [Cond.selects RX1 yX1_weighPlot yX1_weighPlot, Cond.code yX1_weighPlot cX1_weighPlot 5 none]
def wsX5_plant : List Cond := .code yX5_plant cX5_plant 5 (some .int) :: ((wsX5_plant_r1 ++ (wsX5_plant_r2 ++ wsX5_plant_r3)) ++ wsX50 ++ wsX10 ++ wsX20)
def wsX5_weigh_r1 : List Cond := [Cond.fieldLink RX5 12 "CousinShares" "now" "LCousinShares$Harvest;", Cond.fieldLink RX5 77 "CousinShares$Harvest" "weights" "[I", Cond.fieldLink RX5 42 "CousinShares" "history" "LCousinShares$History;", Cond.methodLink RX5 74 yX5_isCousin, Cond.static yX5_isCousin, Cond.initialized RX5, Cond.code yX5_isCousin cX5_isCousin 1 (some .boolean), Cond.methodLink RX5 57 yX5_isCrop, Cond.static yX5_isCrop, Cond.code yX5_isCrop cX5_isCrop 1 (some .boolean), Cond.methodLink RX5 60 yX5_isDigit, Cond.static yX5_isDigit, Cond.code yX5_isDigit cX5_isDigit 1 (some .boolean), Cond.methodLink RX5 67 yX2_record, Cond.instanceMethod yX2_record, Cond.selects RX2 yX2_record yX2_record, Cond.initialized RX2, Cond.code yX2_record cX2_record 2 none, Cond.fieldLink RX2 18 "CousinShares$History" "count" "I", Cond.fieldLink RX2 11 "CousinShares$History" "states" "[LCousinShares$Harvest;", Cond.methodLink RX2 22 yX2_dropOldest, Cond.instanceMethod yX2_dropOldest, Cond.selects RX2 yX2_dropOldest yX2_dropOldest, Cond.code yX2_dropOldest cX2_dropOldest 3 none]
def wsX5_weigh_r2 : List Cond := [Cond.methodLink RX2 25 yX1_copyFrom, Cond.instanceMethod yX1_copyFrom, Cond.selects RX1 yX1_copyFrom yX1_copyFrom, Cond.initialized RX1, Cond.code yX1_copyFrom cX1_copyFrom 2 none, Cond.fieldLink RX1 9 "CousinShares$Harvest" "amounts" "[I", Cond.methodLink RX1 34 arraycopyName, Cond.native arraycopyName, Cond.static arraycopyName, Cond.initialized "java/lang/System", Cond.fieldLink RX1 15 "CousinShares$Harvest" "weights" "[I", Cond.fieldLink RX1 18 "CousinShares$Harvest" "grudges" "[I", Cond.fieldLink RX1 21 "CousinShares$Harvest" "owners" "[I", Cond.fieldLink RX1 24 "CousinShares$Harvest" "settings" "[I", Cond.fieldLink RX1 27 "CousinShares$Harvest" "worths" "[I", Cond.fieldLink RX1 40 "CousinShares$Harvest" "trims" "I", Cond.fieldLink RX1 44 "CousinShares$Harvest" "grudgeTrims" "I", Cond.fieldLink RX1 47 "CousinShares$Harvest" "trades" "I", Cond.methodLink RX5 80 yX1_putWeight, Cond.instanceMethod yX1_putWeight, Cond.selects RX1 yX1_putWeight yX1_putWeight, Cond.code yX1_putWeight cX1_putWeight 4 none, Cond.methodLink RX1 30 yX1_weighPlots, Cond.instanceMethod yX1_weighPlots]
def wsX5_weigh_r3 : List Cond := [Cond.selects RX1 yX1_weighPlots yX1_weighPlots, Cond.code yX1_weighPlots cX1_weighPlots 3 none, Cond.methodLink RX1 50 yX1_weighPlot, Cond.instanceMethod yX1_weighPlot, Cond.selects RX1 yX1_weighPlot yX1_weighPlot, Cond.code yX1_weighPlot cX1_weighPlot 5 none]
def wsX5_weigh : List Cond := .code yX5_weigh cX5_weigh 5 (some .int) :: ((wsX5_weigh_r1 ++ (wsX5_weigh_r2 ++ wsX5_weigh_r3)) ++ wsX50 ++ wsX10 ++ wsX20)
def wsX5_grudge_r1 : List Cond := [Cond.fieldLink RX5 12 "CousinShares" "now" "LCousinShares$Harvest;", Cond.fieldLink RX5 42 "CousinShares" "history" "LCousinShares$History;", Cond.methodLink RX5 74 yX5_isCousin, Cond.static yX5_isCousin, Cond.initialized RX5, Cond.code yX5_isCousin cX5_isCousin 1 (some .boolean), Cond.methodLink RX5 60 yX5_isDigit, Cond.static yX5_isDigit, Cond.code yX5_isDigit cX5_isDigit 1 (some .boolean), Cond.methodLink RX5 83 yX1_grudgeOf, Cond.instanceMethod yX1_grudgeOf, Cond.selects RX1 yX1_grudgeOf yX1_grudgeOf, Cond.initialized RX1, Cond.code yX1_grudgeOf cX1_grudgeOf 3 (some .int), Cond.fieldLink RX1 18 "CousinShares$Harvest" "grudges" "[I", Cond.methodLink RX5 67 yX2_record, Cond.instanceMethod yX2_record, Cond.selects RX2 yX2_record yX2_record, Cond.initialized RX2, Cond.code yX2_record cX2_record 2 none, Cond.fieldLink RX2 18 "CousinShares$History" "count" "I", Cond.fieldLink RX2 11 "CousinShares$History" "states" "[LCousinShares$Harvest;", Cond.methodLink RX2 22 yX2_dropOldest, Cond.instanceMethod yX2_dropOldest]
def wsX5_grudge_r2 : List Cond := [Cond.selects RX2 yX2_dropOldest yX2_dropOldest, Cond.code yX2_dropOldest cX2_dropOldest 3 none, Cond.methodLink RX2 25 yX1_copyFrom, Cond.instanceMethod yX1_copyFrom, Cond.selects RX1 yX1_copyFrom yX1_copyFrom, Cond.code yX1_copyFrom cX1_copyFrom 2 none, Cond.fieldLink RX1 9 "CousinShares$Harvest" "amounts" "[I", Cond.methodLink RX1 34 arraycopyName, Cond.native arraycopyName, Cond.static arraycopyName, Cond.initialized "java/lang/System", Cond.fieldLink RX1 15 "CousinShares$Harvest" "weights" "[I", Cond.fieldLink RX1 21 "CousinShares$Harvest" "owners" "[I", Cond.fieldLink RX1 24 "CousinShares$Harvest" "settings" "[I", Cond.fieldLink RX1 27 "CousinShares$Harvest" "worths" "[I", Cond.fieldLink RX1 40 "CousinShares$Harvest" "trims" "I", Cond.fieldLink RX1 44 "CousinShares$Harvest" "grudgeTrims" "I", Cond.fieldLink RX1 47 "CousinShares$Harvest" "trades" "I", Cond.methodLink RX5 87 yX1_putGrudge, Cond.instanceMethod yX1_putGrudge, Cond.selects RX1 yX1_putGrudge yX1_putGrudge, Cond.code yX1_putGrudge cX1_putGrudge 4 none]
def wsX5_grudge : List Cond := .code yX5_grudge cX5_grudge 5 (some .int) :: ((wsX5_grudge_r1 ++ wsX5_grudge_r2) ++ wsX50 ++ wsX10 ++ wsX20)
def wsX5_isSettingValue : List Cond := .code yX5_isSettingValue cX5_isSettingValue 2 (some .boolean) :: ([])
def wsX5_set_r1 : List Cond := [Cond.fieldLink RX5 12 "CousinShares" "now" "LCousinShares$Harvest;", Cond.fieldLink RX5 94 "CousinShares$Harvest" "settings" "[I", Cond.fieldLink RX5 42 "CousinShares" "history" "LCousinShares$History;", Cond.methodLink RX5 90 yX5_isSettingValue, Cond.static yX5_isSettingValue, Cond.initialized RX5, Cond.code yX5_isSettingValue cX5_isSettingValue 2 (some .boolean), Cond.methodLink RX5 67 yX2_record, Cond.instanceMethod yX2_record, Cond.selects RX2 yX2_record yX2_record, Cond.initialized RX2, Cond.code yX2_record cX2_record 2 none, Cond.fieldLink RX2 18 "CousinShares$History" "count" "I", Cond.fieldLink RX2 11 "CousinShares$History" "states" "[LCousinShares$Harvest;", Cond.methodLink RX2 22 yX2_dropOldest, Cond.instanceMethod yX2_dropOldest, Cond.selects RX2 yX2_dropOldest yX2_dropOldest, Cond.code yX2_dropOldest cX2_dropOldest 3 none, Cond.methodLink RX2 25 yX1_copyFrom, Cond.instanceMethod yX1_copyFrom, Cond.selects RX1 yX1_copyFrom yX1_copyFrom, Cond.initialized RX1, Cond.code yX1_copyFrom cX1_copyFrom 2 none, Cond.fieldLink RX1 9 "CousinShares$Harvest" "amounts" "[I"]
def wsX5_set_r2 : List Cond := [Cond.methodLink RX1 34 arraycopyName, Cond.native arraycopyName, Cond.static arraycopyName, Cond.initialized "java/lang/System", Cond.fieldLink RX1 15 "CousinShares$Harvest" "weights" "[I", Cond.fieldLink RX1 18 "CousinShares$Harvest" "grudges" "[I", Cond.fieldLink RX1 21 "CousinShares$Harvest" "owners" "[I", Cond.fieldLink RX1 24 "CousinShares$Harvest" "settings" "[I", Cond.fieldLink RX1 27 "CousinShares$Harvest" "worths" "[I", Cond.fieldLink RX1 40 "CousinShares$Harvest" "trims" "I", Cond.fieldLink RX1 44 "CousinShares$Harvest" "grudgeTrims" "I", Cond.fieldLink RX1 47 "CousinShares$Harvest" "trades" "I"]
def wsX5_set : List Cond := .code yX5_set cX5_set 4 (some .int) :: ((wsX5_set_r1 ++ wsX5_set_r2) ++ wsX50 ++ wsX10 ++ wsX20)
def wsX5_isParty : List Cond := .code yX5_isParty cX5_isParty 1 (some .boolean) :: ([])
def wsX5_divideNow_r1 : List Cond := [Cond.fieldLink RX5 21 "CousinShares" "division" "LCousinShares$Division;", Cond.fieldLink RX5 220 "CousinShares$Division" "owners" "[I", Cond.fieldLink RX5 12 "CousinShares" "now" "LCousinShares$Harvest;", Cond.fieldLink RX5 108 "CousinShares$Harvest" "owners" "[I", Cond.methodLink RX5 230 arraycopyName, Cond.native arraycopyName, Cond.static arraycopyName, Cond.initialized "java/lang/System", Cond.fieldLink RX5 209 "CousinShares$Harvest" "trims" "I", Cond.fieldLink RX5 104 "CousinShares$Division" "trims" "I", Cond.fieldLink RX5 210 "CousinShares$Harvest" "grudgeTrims" "I", Cond.fieldLink RX5 219 "CousinShares$Division" "grudgeTrims" "I", Cond.methodLink RX5 216 yX0_run, Cond.instanceMethod yX0_run, Cond.selects RX0 yX0_run yX0_run, Cond.initialized RX0, Cond.code yX0_run cX0_run 5 none, Cond.fieldLink RX0 22 "CousinShares$Division" "trims" "I", Cond.fieldLink RX0 26 "CousinShares$Division" "grudgeTrims" "I", Cond.fieldLink RX0 42 "CousinShares$Division" "pieceSize" "I", Cond.fieldLink RX0 45 "CousinShares$Division" "holder" "I", Cond.fieldLink RX0 58 "CousinShares$Division" "lastCousin" "I", Cond.methodLink RX0 29 yX0_lineUp, Cond.instanceMethod yX0_lineUp]
def wsX5_divideNow_r2 : List Cond := [Cond.selects RX0 yX0_lineUp yX0_lineUp, Cond.code yX0_lineUp cX0_lineUp 3 none, Cond.fieldLink RX0 18 "CousinShares$Division" "harvest" "LCousinShares$Harvest;", Cond.fieldLink RX0 15 "CousinShares$Division" "byOrder" "[I", Cond.methodLink RX0 61 yX1_isAhead, Cond.instanceMethod yX1_isAhead, Cond.selects RX1 yX1_isAhead yX1_isAhead, Cond.initialized RX1, Cond.code yX1_isAhead cX1_isAhead 5 (some .boolean), Cond.fieldLink RX1 24 "CousinShares$Harvest" "settings" "[I", Cond.methodLink RX1 54 yX1_grudgesOf, Cond.instanceMethod yX1_grudgesOf, Cond.selects RX1 yX1_grudgesOf yX1_grudgesOf, Cond.code yX1_grudgesOf cX1_grudgesOf 4 (some .int), Cond.fieldLink RX1 18 "CousinShares$Harvest" "grudges" "[I", Cond.methodLink RX0 32 yJ6_bitCount_0f7a4, Cond.static yJ6_bitCount_0f7a4, Cond.initialized RJ6, Cond.code yJ6_bitCount_0f7a4 cJ6_bitCount_0f7a4 1 (some .int), Cond.constant RJ6 265 (1431655765), Cond.constant RJ6 266 (858993459), Cond.constant RJ6 267 (252645135), Cond.methodLink RX0 38 yX0_cutAndTrim, Cond.instanceMethod yX0_cutAndTrim]
def wsX5_divideNow_r3 : List Cond := [Cond.selects RX0 yX0_cutAndTrim yX0_cutAndTrim, Cond.code yX0_cutAndTrim cX0_cutAndTrim 7 none, Cond.static yX5_contains, Cond.initialized RX5, Cond.code yX5_contains cX5_contains 2 (some .boolean), Cond.methodLink RX0 70 yX0_fairPiece, Cond.instanceMethod yX0_fairPiece, Cond.selects RX0 yX0_fairPiece yX0_fairPiece, Cond.code yX0_fairPiece cX0_fairPiece 7 (some .int), Cond.methodLink RX0 87 yX1_worthFrom, Cond.instanceMethod yX1_worthFrom, Cond.selects RX1 yX1_worthFrom yX1_worthFrom, Cond.code yX1_worthFrom cX1_worthFrom 5 (some .int), Cond.fieldLink RX1 27 "CousinShares$Harvest" "worths" "[I", Cond.methodLink RX0 90 yX1_worthOf, Cond.instanceMethod yX1_worthOf, Cond.selects RX1 yX1_worthOf yX1_worthOf, Cond.code yX1_worthOf cX1_worthOf 3 (some .int), Cond.methodLink RX0 74 yX0_hold, Cond.instanceMethod yX0_hold, Cond.selects RX0 yX0_hold yX0_hold, Cond.code yX0_hold cX0_hold 3 none, Cond.methodLink RX0 78 yX0_mayTrim, Cond.instanceMethod yX0_mayTrim]
def wsX5_divideNow_r4 : List Cond := [Cond.selects RX0 yX0_mayTrim yX0_mayTrim, Cond.code yX0_mayTrim cX0_mayTrim 3 none, Cond.fieldLink RX0 84 "CousinShares$Harvest" "settings" "[I", Cond.methodLink RX0 81 yX1_grudgeOf, Cond.instanceMethod yX1_grudgeOf, Cond.selects RX1 yX1_grudgeOf yX1_grudgeOf, Cond.code yX1_grudgeOf cX1_grudgeOf 3 (some .int), Cond.methodLink RX0 48 yX0_handOut, Cond.instanceMethod yX0_handOut, Cond.selects RX0 yX0_handOut yX0_handOut, Cond.code yX0_handOut cX0_handOut 5 none, Cond.fieldLink RX0 9 "CousinShares$Division" "owners" "[I", Cond.static yX5_without, Cond.code yX5_without cX5_without 2 (some .int), Cond.methodLink RX0 55 yX0_firstOf, Cond.instanceMethod yX0_firstOf, Cond.selects RX0 yX0_firstOf yX0_firstOf, Cond.code yX0_firstOf cX0_firstOf 3 (some .int)]
def wsX5_divideNow : List Cond := .code yX5_divideNow cX5_divideNow 2 none :: ((wsX5_divideNow_r1 ++ (wsX5_divideNow_r2 ++ (wsX5_divideNow_r3 ++ wsX5_divideNow_r4))) ++ wsX50 ++ wsX00 ++ wsX10)
def wsX5_divide_r1 : List Cond := [Cond.fieldLink RX5 42 "CousinShares" "history" "LCousinShares$History;", Cond.fieldLink RX5 12 "CousinShares" "now" "LCousinShares$Harvest;", Cond.fieldLink RX5 21 "CousinShares" "division" "LCousinShares$Division;", Cond.fieldLink RX5 104 "CousinShares$Division" "trims" "I", Cond.methodLink RX5 97 yX5_isParty, Cond.static yX5_isParty, Cond.initialized RX5, Cond.code yX5_isParty cX5_isParty 1 (some .boolean), Cond.methodLink RX5 67 yX2_record, Cond.instanceMethod yX2_record, Cond.selects RX2 yX2_record yX2_record, Cond.initialized RX2, Cond.code yX2_record cX2_record 2 none, Cond.fieldLink RX2 18 "CousinShares$History" "count" "I", Cond.fieldLink RX2 11 "CousinShares$History" "states" "[LCousinShares$Harvest;", Cond.methodLink RX2 22 yX2_dropOldest, Cond.instanceMethod yX2_dropOldest, Cond.selects RX2 yX2_dropOldest yX2_dropOldest, Cond.code yX2_dropOldest cX2_dropOldest 3 none, Cond.methodLink RX2 25 yX1_copyFrom, Cond.instanceMethod yX1_copyFrom, Cond.selects RX1 yX1_copyFrom yX1_copyFrom, Cond.initialized RX1, Cond.code yX1_copyFrom cX1_copyFrom 2 none]
def wsX5_divide_r2 : List Cond := [Cond.fieldLink RX1 9 "CousinShares$Harvest" "amounts" "[I", Cond.methodLink RX1 34 arraycopyName, Cond.native arraycopyName, Cond.static arraycopyName, Cond.initialized "java/lang/System", Cond.fieldLink RX1 15 "CousinShares$Harvest" "weights" "[I", Cond.fieldLink RX1 18 "CousinShares$Harvest" "grudges" "[I", Cond.fieldLink RX1 21 "CousinShares$Harvest" "owners" "[I", Cond.fieldLink RX1 24 "CousinShares$Harvest" "settings" "[I", Cond.fieldLink RX1 27 "CousinShares$Harvest" "worths" "[I", Cond.fieldLink RX1 40 "CousinShares$Harvest" "trims" "I", Cond.fieldLink RX1 44 "CousinShares$Harvest" "grudgeTrims" "I", Cond.fieldLink RX1 47 "CousinShares$Harvest" "trades" "I", Cond.methodLink RX5 100 yX5_divideNow, Cond.instanceMethod yX5_divideNow, Cond.selects RX5 yX5_divideNow yX5_divideNow, Cond.code yX5_divideNow cX5_divideNow 2 none, Cond.fieldLink RX5 220 "CousinShares$Division" "owners" "[I", Cond.fieldLink RX5 108 "CousinShares$Harvest" "owners" "[I", Cond.methodLink RX5 230 arraycopyName, Cond.fieldLink RX5 209 "CousinShares$Harvest" "trims" "I", Cond.fieldLink RX5 210 "CousinShares$Harvest" "grudgeTrims" "I", Cond.fieldLink RX5 219 "CousinShares$Division" "grudgeTrims" "I", Cond.methodLink RX5 216 yX0_run]
def wsX5_divide_r3 : List Cond := [Cond.instanceMethod yX0_run, Cond.selects RX0 yX0_run yX0_run, Cond.initialized RX0, Cond.code yX0_run cX0_run 5 none, Cond.fieldLink RX0 22 "CousinShares$Division" "trims" "I", Cond.fieldLink RX0 26 "CousinShares$Division" "grudgeTrims" "I", Cond.fieldLink RX0 42 "CousinShares$Division" "pieceSize" "I", Cond.fieldLink RX0 45 "CousinShares$Division" "holder" "I", Cond.fieldLink RX0 58 "CousinShares$Division" "lastCousin" "I", Cond.methodLink RX0 29 yX0_lineUp, Cond.instanceMethod yX0_lineUp, Cond.selects RX0 yX0_lineUp yX0_lineUp, Cond.code yX0_lineUp cX0_lineUp 3 none, Cond.fieldLink RX0 18 "CousinShares$Division" "harvest" "LCousinShares$Harvest;", Cond.fieldLink RX0 15 "CousinShares$Division" "byOrder" "[I", Cond.methodLink RX0 61 yX1_isAhead, Cond.instanceMethod yX1_isAhead, Cond.selects RX1 yX1_isAhead yX1_isAhead, Cond.code yX1_isAhead cX1_isAhead 5 (some .boolean), Cond.methodLink RX1 54 yX1_grudgesOf, Cond.instanceMethod yX1_grudgesOf, Cond.selects RX1 yX1_grudgesOf yX1_grudgesOf, Cond.code yX1_grudgesOf cX1_grudgesOf 4 (some .int), Cond.methodLink RX0 32 yJ6_bitCount_0f7a4]
def wsX5_divide_r4 : List Cond := [Cond.static yJ6_bitCount_0f7a4, Cond.initialized RJ6, Cond.code yJ6_bitCount_0f7a4 cJ6_bitCount_0f7a4 1 (some .int), Cond.constant RJ6 265 (1431655765), Cond.constant RJ6 266 (858993459), Cond.constant RJ6 267 (252645135), Cond.methodLink RX0 38 yX0_cutAndTrim, Cond.instanceMethod yX0_cutAndTrim, Cond.selects RX0 yX0_cutAndTrim yX0_cutAndTrim, Cond.code yX0_cutAndTrim cX0_cutAndTrim 7 none, Cond.static yX5_contains, Cond.code yX5_contains cX5_contains 2 (some .boolean), Cond.methodLink RX0 70 yX0_fairPiece, Cond.instanceMethod yX0_fairPiece, Cond.selects RX0 yX0_fairPiece yX0_fairPiece, Cond.code yX0_fairPiece cX0_fairPiece 7 (some .int), Cond.methodLink RX0 87 yX1_worthFrom, Cond.instanceMethod yX1_worthFrom, Cond.selects RX1 yX1_worthFrom yX1_worthFrom, Cond.code yX1_worthFrom cX1_worthFrom 5 (some .int), Cond.methodLink RX0 90 yX1_worthOf, Cond.instanceMethod yX1_worthOf, Cond.selects RX1 yX1_worthOf yX1_worthOf, Cond.code yX1_worthOf cX1_worthOf 3 (some .int)]
def wsX5_divide_r5 : List Cond := [Cond.methodLink RX0 74 yX0_hold, Cond.instanceMethod yX0_hold, Cond.selects RX0 yX0_hold yX0_hold, Cond.code yX0_hold cX0_hold 3 none, Cond.methodLink RX0 78 yX0_mayTrim, Cond.instanceMethod yX0_mayTrim, Cond.selects RX0 yX0_mayTrim yX0_mayTrim, Cond.code yX0_mayTrim cX0_mayTrim 3 none, Cond.fieldLink RX0 84 "CousinShares$Harvest" "settings" "[I", Cond.methodLink RX0 81 yX1_grudgeOf, Cond.instanceMethod yX1_grudgeOf, Cond.selects RX1 yX1_grudgeOf yX1_grudgeOf, Cond.code yX1_grudgeOf cX1_grudgeOf 3 (some .int), Cond.methodLink RX0 48 yX0_handOut, Cond.instanceMethod yX0_handOut, Cond.selects RX0 yX0_handOut yX0_handOut, Cond.code yX0_handOut cX0_handOut 5 none, Cond.fieldLink RX0 9 "CousinShares$Division" "owners" "[I", Cond.static yX5_without, Cond.code yX5_without cX5_without 2 (some .int), Cond.methodLink RX0 55 yX0_firstOf, Cond.instanceMethod yX0_firstOf, Cond.selects RX0 yX0_firstOf yX0_firstOf, Cond.code yX0_firstOf cX0_firstOf 3 (some .int)]
def wsX5_divide : List Cond := .code yX5_divide cX5_divide 2 (some .int) :: ((wsX5_divide_r1 ++ (wsX5_divide_r2 ++ (wsX5_divide_r3 ++ (wsX5_divide_r4 ++ wsX5_divide_r5)))) ++ wsX50 ++ wsX00 ++ wsX20 ++ wsX10)
def wsX5_give_r1 : List Cond := [Cond.fieldLink RX5 12 "CousinShares" "now" "LCousinShares$Harvest;", Cond.fieldLink RX5 108 "CousinShares$Harvest" "owners" "[I", Cond.fieldLink RX5 42 "CousinShares" "history" "LCousinShares$History;", Cond.methodLink RX5 53 yX5_isPlot, Cond.static yX5_isPlot, Cond.initialized RX5, Cond.code yX5_isPlot cX5_isPlot 1 (some .boolean), Cond.methodLink RX5 74 yX5_isCousin, Cond.static yX5_isCousin, Cond.code yX5_isCousin cX5_isCousin 1 (some .boolean), Cond.methodLink RX5 67 yX2_record, Cond.instanceMethod yX2_record, Cond.selects RX2 yX2_record yX2_record, Cond.initialized RX2, Cond.code yX2_record cX2_record 2 none, Cond.fieldLink RX2 18 "CousinShares$History" "count" "I", Cond.fieldLink RX2 11 "CousinShares$History" "states" "[LCousinShares$Harvest;", Cond.methodLink RX2 22 yX2_dropOldest, Cond.instanceMethod yX2_dropOldest, Cond.selects RX2 yX2_dropOldest yX2_dropOldest, Cond.code yX2_dropOldest cX2_dropOldest 3 none, Cond.methodLink RX2 25 yX1_copyFrom, Cond.instanceMethod yX1_copyFrom, Cond.selects RX1 yX1_copyFrom yX1_copyFrom]
def wsX5_give_r2 : List Cond := [Cond.initialized RX1, Cond.code yX1_copyFrom cX1_copyFrom 2 none, Cond.fieldLink RX1 9 "CousinShares$Harvest" "amounts" "[I", Cond.methodLink RX1 34 arraycopyName, Cond.native arraycopyName, Cond.static arraycopyName, Cond.initialized "java/lang/System", Cond.fieldLink RX1 15 "CousinShares$Harvest" "weights" "[I", Cond.fieldLink RX1 18 "CousinShares$Harvest" "grudges" "[I", Cond.fieldLink RX1 21 "CousinShares$Harvest" "owners" "[I", Cond.fieldLink RX1 24 "CousinShares$Harvest" "settings" "[I", Cond.fieldLink RX1 27 "CousinShares$Harvest" "worths" "[I", Cond.fieldLink RX1 40 "CousinShares$Harvest" "trims" "I", Cond.fieldLink RX1 44 "CousinShares$Harvest" "grudgeTrims" "I", Cond.fieldLink RX1 47 "CousinShares$Harvest" "trades" "I"]
def wsX5_give : List Cond := .code yX5_give cX5_give 4 (some .int) :: ((wsX5_give_r1 ++ wsX5_give_r2) ++ wsX50 ++ wsX10 ++ wsX20)
def wsX5_tradeNow : List Cond := .code yX5_tradeNow cX5_tradeNow 3 none :: ([.fieldLink RX5 12 "CousinShares" "now" "LCousinShares$Harvest;", .fieldLink RX5 213 "CousinShares$Harvest" "trades" "I", .fieldLink RX5 28 "CousinShares" "shares" "LCousinShares$Shares;", .methodLink RX5 236 yX1_exchange, .instanceMethod yX1_exchange, .selects RX1 yX1_exchange yX1_exchange, .initialized RX1, .code yX1_exchange cX1_exchange 4 none, .fieldLink RX1 21 "CousinShares$Harvest" "owners" "[I", .methodLink RX5 239 yX4_exchange, .instanceMethod yX4_exchange, .selects RX4 yX4_exchange yX4_exchange, .initialized RX4, .code yX4_exchange cX4_exchange 5 none, .fieldLink RX4 9 "CousinShares$Shares" "worths" "[I"] ++ wsX50 ++ wsX10 ++ wsX40)
def wsX5_trade_r1 : List Cond := [Cond.fieldLink RX5 28 "CousinShares" "shares" "LCousinShares$Shares;", Cond.fieldLink RX5 12 "CousinShares" "now" "LCousinShares$Harvest;", Cond.fieldLink RX5 108 "CousinShares$Harvest" "owners" "[I", Cond.fieldLink RX5 42 "CousinShares" "history" "LCousinShares$History;", Cond.methodLink RX5 74 yX5_isCousin, Cond.static yX5_isCousin, Cond.initialized RX5, Cond.code yX5_isCousin cX5_isCousin 1 (some .boolean), Cond.methodLink RX5 111 yX4_measure, Cond.instanceMethod yX4_measure, Cond.selects RX4 yX4_measure yX4_measure, Cond.initialized RX4, Cond.code yX4_measure cX4_measure 5 none, Cond.fieldLink RX4 9 "CousinShares$Shares" "worths" "[I", Cond.fieldLink RX4 15 "CousinShares$Shares" "harvest" "LCousinShares$Harvest;", Cond.methodLink RX4 23 yX1_worthOf, Cond.instanceMethod yX1_worthOf, Cond.selects RX1 yX1_worthOf yX1_worthOf, Cond.initialized RX1, Cond.code yX1_worthOf cX1_worthOf 3 (some .int), Cond.fieldLink RX1 27 "CousinShares$Harvest" "worths" "[I", Cond.methodLink RX5 115 yX4_whyNoTrade, Cond.instanceMethod yX4_whyNoTrade, Cond.selects RX4 yX4_whyNoTrade yX4_whyNoTrade]
def wsX5_trade_r2 : List Cond := [Cond.code yX4_whyNoTrade cX4_whyNoTrade 4 (some .int), Cond.fieldLink RX4 55 "CousinShares$Harvest" "settings" "[I", Cond.methodLink RX4 58 yX1_grudgeOf, Cond.instanceMethod yX1_grudgeOf, Cond.selects RX1 yX1_grudgeOf yX1_grudgeOf, Cond.code yX1_grudgeOf cX1_grudgeOf 3 (some .int), Cond.fieldLink RX1 18 "CousinShares$Harvest" "grudges" "[I", Cond.methodLink RX4 35 yX4_worthOf, Cond.instanceMethod yX4_worthOf, Cond.selects RX4 yX4_worthOf yX4_worthOf, Cond.code yX4_worthOf cX4_worthOf 3 (some .int), Cond.methodLink RX5 67 yX2_record, Cond.instanceMethod yX2_record, Cond.selects RX2 yX2_record yX2_record, Cond.initialized RX2, Cond.code yX2_record cX2_record 2 none, Cond.fieldLink RX2 18 "CousinShares$History" "count" "I", Cond.fieldLink RX2 11 "CousinShares$History" "states" "[LCousinShares$Harvest;", Cond.methodLink RX2 22 yX2_dropOldest, Cond.instanceMethod yX2_dropOldest, Cond.selects RX2 yX2_dropOldest yX2_dropOldest, Cond.code yX2_dropOldest cX2_dropOldest 3 none, Cond.methodLink RX2 25 yX1_copyFrom, Cond.instanceMethod yX1_copyFrom]
def wsX5_trade_r3 : List Cond := [Cond.selects RX1 yX1_copyFrom yX1_copyFrom, Cond.code yX1_copyFrom cX1_copyFrom 2 none, Cond.fieldLink RX1 9 "CousinShares$Harvest" "amounts" "[I", Cond.methodLink RX1 34 arraycopyName, Cond.native arraycopyName, Cond.static arraycopyName, Cond.initialized "java/lang/System", Cond.fieldLink RX1 15 "CousinShares$Harvest" "weights" "[I", Cond.fieldLink RX1 21 "CousinShares$Harvest" "owners" "[I", Cond.fieldLink RX1 24 "CousinShares$Harvest" "settings" "[I", Cond.fieldLink RX1 40 "CousinShares$Harvest" "trims" "I", Cond.fieldLink RX1 44 "CousinShares$Harvest" "grudgeTrims" "I", Cond.fieldLink RX1 47 "CousinShares$Harvest" "trades" "I", Cond.methodLink RX5 118 yX5_tradeNow, Cond.instanceMethod yX5_tradeNow, Cond.selects RX5 yX5_tradeNow yX5_tradeNow, Cond.code yX5_tradeNow cX5_tradeNow 3 none, Cond.fieldLink RX5 213 "CousinShares$Harvest" "trades" "I", Cond.methodLink RX5 236 yX1_exchange, Cond.instanceMethod yX1_exchange, Cond.selects RX1 yX1_exchange yX1_exchange, Cond.code yX1_exchange cX1_exchange 4 none, Cond.methodLink RX5 239 yX4_exchange, Cond.instanceMethod yX4_exchange]
def wsX5_trade_r4 : List Cond := [Cond.selects RX4 yX4_exchange yX4_exchange, Cond.code yX4_exchange cX4_exchange 5 none, Cond.methodLink RX5 122 yX4_enviesAmong, Cond.instanceMethod yX4_enviesAmong, Cond.selects RX4 yX4_enviesAmong yX4_enviesAmong, Cond.code yX4_enviesAmong cX4_enviesAmong 4 (some .int), Cond.static yX5_contains, Cond.code yX5_contains cX5_contains 2 (some .boolean), Cond.methodLink RX4 48 yX4_enviesOf, Cond.instanceMethod yX4_enviesOf, Cond.selects RX4 yX4_enviesOf yX4_enviesOf, Cond.code yX4_enviesOf cX4_enviesOf 5 (some .int), Cond.methodLink RX4 45 yX4_envy, Cond.instanceMethod yX4_envy, Cond.selects RX4 yX4_envy yX4_envy, Cond.code yX4_envy cX4_envy 3 (some .int), Cond.methodLink RX4 36 Lib.Math.max.name, Cond.static Lib.Math.max.name, Cond.initialized "java/lang/Math", Cond.code Lib.Math.max.name Lib.Math.max.code 2 (some .int), Cond.methodLink RX4 32 yX4_seeming, Cond.instanceMethod yX4_seeming, Cond.selects RX4 yX4_seeming yX4_seeming, Cond.code yX4_seeming cX4_seeming 4 (some .int)]
def wsX5_trade_r5 : List Cond := [Cond.fieldLink RX4 29 "CousinShares$Harvest" "grudges" "[I"]
def wsX5_trade : List Cond := .code yX5_trade cX5_trade 4 (some .int) :: ((wsX5_trade_r1 ++ (wsX5_trade_r2 ++ (wsX5_trade_r3 ++ (wsX5_trade_r4 ++ wsX5_trade_r5)))) ++ wsX50 ++ wsX10 ++ wsX40 ++ wsX20)
def wsX5_settle_r1 : List Cond := [Cond.fieldLink RX5 28 "CousinShares" "shares" "LCousinShares$Shares;", Cond.fieldLink RX5 12 "CousinShares" "now" "LCousinShares$Harvest;", Cond.fieldLink RX5 108 "CousinShares$Harvest" "owners" "[I", Cond.fieldLink RX5 42 "CousinShares" "history" "LCousinShares$History;", Cond.fieldLink RX5 130 "CousinShares$Shares" "bestFirst" "I", Cond.fieldLink RX5 133 "CousinShares$Shares" "bestSecond" "I", Cond.methodLink RX5 111 yX4_measure, Cond.instanceMethod yX4_measure, Cond.selects RX4 yX4_measure yX4_measure, Cond.initialized RX4, Cond.code yX4_measure cX4_measure 5 none, Cond.fieldLink RX4 9 "CousinShares$Shares" "worths" "[I", Cond.fieldLink RX4 15 "CousinShares$Shares" "harvest" "LCousinShares$Harvest;", Cond.static yX5_isCousin, Cond.initialized RX5, Cond.code yX5_isCousin cX5_isCousin 1 (some .boolean), Cond.methodLink RX4 23 yX1_worthOf, Cond.instanceMethod yX1_worthOf, Cond.selects RX1 yX1_worthOf yX1_worthOf, Cond.initialized RX1, Cond.code yX1_worthOf cX1_worthOf 3 (some .int), Cond.fieldLink RX1 27 "CousinShares$Harvest" "worths" "[I", Cond.methodLink RX5 126 yX4_findBestTrade, Cond.instanceMethod yX4_findBestTrade]
def wsX5_settle_r2 : List Cond := [Cond.selects RX4 yX4_findBestTrade yX4_findBestTrade, Cond.code yX4_findBestTrade cX4_findBestTrade 5 (some .boolean), Cond.fieldLink RX4 67 "CousinShares$Shares" "bestSum" "I", Cond.fieldLink RX4 71 "CousinShares$Shares" "bestFirst" "I", Cond.fieldLink RX4 74 "CousinShares$Shares" "bestSecond" "I", Cond.methodLink RX4 61 yX4_whyNoTrade, Cond.instanceMethod yX4_whyNoTrade, Cond.selects RX4 yX4_whyNoTrade yX4_whyNoTrade, Cond.code yX4_whyNoTrade cX4_whyNoTrade 4 (some .int), Cond.fieldLink RX4 55 "CousinShares$Harvest" "settings" "[I", Cond.methodLink RX4 58 yX1_grudgeOf, Cond.instanceMethod yX1_grudgeOf, Cond.selects RX1 yX1_grudgeOf yX1_grudgeOf, Cond.code yX1_grudgeOf cX1_grudgeOf 3 (some .int), Cond.fieldLink RX1 18 "CousinShares$Harvest" "grudges" "[I", Cond.methodLink RX4 35 yX4_worthOf, Cond.instanceMethod yX4_worthOf, Cond.selects RX4 yX4_worthOf yX4_worthOf, Cond.code yX4_worthOf cX4_worthOf 3 (some .int), Cond.methodLink RX4 64 yX4_enviesAfterTrade, Cond.instanceMethod yX4_enviesAfterTrade, Cond.selects RX4 yX4_enviesAfterTrade yX4_enviesAfterTrade, Cond.code yX4_enviesAfterTrade cX4_enviesAfterTrade 4 (some .int), Cond.methodLink RX4 77 yX4_exchange]
def wsX5_settle_r3 : List Cond := [Cond.instanceMethod yX4_exchange, Cond.selects RX4 yX4_exchange yX4_exchange, Cond.code yX4_exchange cX4_exchange 5 none, Cond.methodLink RX4 81 yX4_enviesAmong, Cond.instanceMethod yX4_enviesAmong, Cond.selects RX4 yX4_enviesAmong yX4_enviesAmong, Cond.code yX4_enviesAmong cX4_enviesAmong 4 (some .int), Cond.static yX5_contains, Cond.code yX5_contains cX5_contains 2 (some .boolean), Cond.methodLink RX4 48 yX4_enviesOf, Cond.instanceMethod yX4_enviesOf, Cond.selects RX4 yX4_enviesOf yX4_enviesOf, Cond.code yX4_enviesOf cX4_enviesOf 5 (some .int), Cond.methodLink RX4 45 yX4_envy, Cond.instanceMethod yX4_envy, Cond.selects RX4 yX4_envy yX4_envy, Cond.code yX4_envy cX4_envy 3 (some .int), Cond.methodLink RX4 36 Lib.Math.max.name, Cond.static Lib.Math.max.name, Cond.initialized "java/lang/Math", Cond.code Lib.Math.max.name Lib.Math.max.code 2 (some .int), Cond.methodLink RX4 32 yX4_seeming, Cond.instanceMethod yX4_seeming, Cond.selects RX4 yX4_seeming yX4_seeming]
def wsX5_settle_r4 : List Cond := [Cond.code yX4_seeming cX4_seeming 4 (some .int), Cond.fieldLink RX4 29 "CousinShares$Harvest" "grudges" "[I", Cond.methodLink RX5 67 yX2_record, Cond.instanceMethod yX2_record, Cond.selects RX2 yX2_record yX2_record, Cond.initialized RX2, Cond.code yX2_record cX2_record 2 none, Cond.fieldLink RX2 18 "CousinShares$History" "count" "I", Cond.fieldLink RX2 11 "CousinShares$History" "states" "[LCousinShares$Harvest;", Cond.methodLink RX2 22 yX2_dropOldest, Cond.instanceMethod yX2_dropOldest, Cond.selects RX2 yX2_dropOldest yX2_dropOldest, Cond.code yX2_dropOldest cX2_dropOldest 3 none, Cond.methodLink RX2 25 yX1_copyFrom, Cond.instanceMethod yX1_copyFrom, Cond.selects RX1 yX1_copyFrom yX1_copyFrom, Cond.code yX1_copyFrom cX1_copyFrom 2 none, Cond.fieldLink RX1 9 "CousinShares$Harvest" "amounts" "[I", Cond.methodLink RX1 34 arraycopyName, Cond.native arraycopyName, Cond.static arraycopyName, Cond.initialized "java/lang/System", Cond.fieldLink RX1 15 "CousinShares$Harvest" "weights" "[I", Cond.fieldLink RX1 21 "CousinShares$Harvest" "owners" "[I"]
def wsX5_settle_r5 : List Cond := [Cond.fieldLink RX1 24 "CousinShares$Harvest" "settings" "[I", Cond.fieldLink RX1 40 "CousinShares$Harvest" "trims" "I", Cond.fieldLink RX1 44 "CousinShares$Harvest" "grudgeTrims" "I", Cond.fieldLink RX1 47 "CousinShares$Harvest" "trades" "I", Cond.methodLink RX5 118 yX5_tradeNow, Cond.instanceMethod yX5_tradeNow, Cond.selects RX5 yX5_tradeNow yX5_tradeNow, Cond.code yX5_tradeNow cX5_tradeNow 3 none, Cond.fieldLink RX5 213 "CousinShares$Harvest" "trades" "I", Cond.methodLink RX5 236 yX1_exchange, Cond.instanceMethod yX1_exchange, Cond.selects RX1 yX1_exchange yX1_exchange, Cond.code yX1_exchange cX1_exchange 4 none, Cond.methodLink RX5 239 yX4_exchange]
def wsX5_settle : List Cond := .code yX5_settle cX5_settle 2 (some .int) :: ((wsX5_settle_r1 ++ (wsX5_settle_r2 ++ (wsX5_settle_r3 ++ (wsX5_settle_r4 ++ wsX5_settle_r5)))) ++ wsX50 ++ wsX10 ++ wsX40 ++ wsX20)
def wsX5_type : List Cond := .code yX5_type cX5_type 2 (some .int) :: ([.fieldLink RX5 35 "CousinShares" "text" "LCousinShares$OrderText;", .fieldLink RX5 136 "CousinShares$OrderText" "length" "I", .methodLink RX5 139 yX3_append, .instanceMethod yX3_append, .selects RX3 yX3_append yX3_append, .initialized RX3, .code yX3_append cX3_append 2 none, .fieldLink RX3 19 "CousinShares$OrderText" "length" "I", .fieldLink RX3 15 "CousinShares$OrderText" "signs" "[C"] ++ wsX50 ++ wsX30)
def wsX5_clearText : List Cond := .code yX5_clearText cX5_clearText 2 (some .int) :: ([.fieldLink RX5 35 "CousinShares" "text" "LCousinShares$OrderText;", .fieldLink RX5 136 "CousinShares$OrderText" "length" "I"] ++ wsX50 ++ wsX30)
def wsX5_carryOutOrder_r1 : List Cond := [Cond.fieldLink RX5 35 "CousinShares" "text" "LCousinShares$OrderText;", Cond.fieldLink RX5 243 "CousinShares$OrderText" "kind" "I", Cond.fieldLink RX5 12 "CousinShares" "now" "LCousinShares$Harvest;", Cond.fieldLink RX5 246 "CousinShares$OrderText" "first" "I", Cond.fieldLink RX5 249 "CousinShares$OrderText" "digits" "[I", Cond.fieldLink RX5 252 "CousinShares$OrderText" "second" "I", Cond.fieldLink RX5 255 "CousinShares$OrderText" "party" "I", Cond.methodLink RX5 70 yX1_putAmount, Cond.instanceMethod yX1_putAmount, Cond.selects RX1 yX1_putAmount yX1_putAmount, Cond.initialized RX1, Cond.code yX1_putAmount cX1_putAmount 5 none, Cond.fieldLink RX1 9 "CousinShares$Harvest" "amounts" "[I", Cond.methodLink RX1 50 yX1_weighPlot, Cond.instanceMethod yX1_weighPlot, Cond.selects RX1 yX1_weighPlot yX1_weighPlot, Cond.code yX1_weighPlot cX1_weighPlot 5 none, Cond.fieldLink RX1 15 "CousinShares$Harvest" "weights" "[I", Cond.fieldLink RX1 27 "CousinShares$Harvest" "worths" "[I", Cond.methodLink RX5 80 yX1_putWeight, Cond.instanceMethod yX1_putWeight, Cond.selects RX1 yX1_putWeight yX1_putWeight, Cond.code yX1_putWeight cX1_putWeight 4 none, Cond.methodLink RX1 30 yX1_weighPlots]
def wsX5_carryOutOrder_r2 : List Cond := [Cond.instanceMethod yX1_weighPlots, Cond.selects RX1 yX1_weighPlots yX1_weighPlots, Cond.code yX1_weighPlots cX1_weighPlots 3 none, Cond.methodLink RX5 87 yX1_putGrudge, Cond.instanceMethod yX1_putGrudge, Cond.selects RX1 yX1_putGrudge yX1_putGrudge, Cond.code yX1_putGrudge cX1_putGrudge 4 none, Cond.fieldLink RX1 18 "CousinShares$Harvest" "grudges" "[I", Cond.methodLink RX5 100 yX5_divideNow, Cond.instanceMethod yX5_divideNow, Cond.selects RX5 yX5_divideNow yX5_divideNow, Cond.initialized RX5, Cond.code yX5_divideNow cX5_divideNow 2 none, Cond.fieldLink RX5 21 "CousinShares" "division" "LCousinShares$Division;", Cond.fieldLink RX5 220 "CousinShares$Division" "owners" "[I", Cond.fieldLink RX5 108 "CousinShares$Harvest" "owners" "[I", Cond.methodLink RX5 230 arraycopyName, Cond.native arraycopyName, Cond.static arraycopyName, Cond.initialized "java/lang/System", Cond.fieldLink RX5 209 "CousinShares$Harvest" "trims" "I", Cond.fieldLink RX5 104 "CousinShares$Division" "trims" "I", Cond.fieldLink RX5 210 "CousinShares$Harvest" "grudgeTrims" "I", Cond.fieldLink RX5 219 "CousinShares$Division" "grudgeTrims" "I"]
def wsX5_carryOutOrder_r3 : List Cond := [Cond.methodLink RX5 216 yX0_run, Cond.instanceMethod yX0_run, Cond.selects RX0 yX0_run yX0_run, Cond.initialized RX0, Cond.code yX0_run cX0_run 5 none, Cond.fieldLink RX0 22 "CousinShares$Division" "trims" "I", Cond.fieldLink RX0 26 "CousinShares$Division" "grudgeTrims" "I", Cond.fieldLink RX0 42 "CousinShares$Division" "pieceSize" "I", Cond.fieldLink RX0 45 "CousinShares$Division" "holder" "I", Cond.fieldLink RX0 58 "CousinShares$Division" "lastCousin" "I", Cond.methodLink RX0 29 yX0_lineUp, Cond.instanceMethod yX0_lineUp, Cond.selects RX0 yX0_lineUp yX0_lineUp, Cond.code yX0_lineUp cX0_lineUp 3 none, Cond.fieldLink RX0 18 "CousinShares$Division" "harvest" "LCousinShares$Harvest;", Cond.fieldLink RX0 15 "CousinShares$Division" "byOrder" "[I", Cond.methodLink RX0 61 yX1_isAhead, Cond.instanceMethod yX1_isAhead, Cond.selects RX1 yX1_isAhead yX1_isAhead, Cond.code yX1_isAhead cX1_isAhead 5 (some .boolean), Cond.fieldLink RX1 24 "CousinShares$Harvest" "settings" "[I", Cond.methodLink RX1 54 yX1_grudgesOf, Cond.instanceMethod yX1_grudgesOf, Cond.selects RX1 yX1_grudgesOf yX1_grudgesOf]
def wsX5_carryOutOrder_r4 : List Cond := [Cond.code yX1_grudgesOf cX1_grudgesOf 4 (some .int), Cond.methodLink RX0 32 yJ6_bitCount_0f7a4, Cond.static yJ6_bitCount_0f7a4, Cond.initialized RJ6, Cond.code yJ6_bitCount_0f7a4 cJ6_bitCount_0f7a4 1 (some .int), Cond.constant RJ6 265 (1431655765), Cond.constant RJ6 266 (858993459), Cond.constant RJ6 267 (252645135), Cond.methodLink RX0 38 yX0_cutAndTrim, Cond.instanceMethod yX0_cutAndTrim, Cond.selects RX0 yX0_cutAndTrim yX0_cutAndTrim, Cond.code yX0_cutAndTrim cX0_cutAndTrim 7 none, Cond.static yX5_contains, Cond.code yX5_contains cX5_contains 2 (some .boolean), Cond.methodLink RX0 70 yX0_fairPiece, Cond.instanceMethod yX0_fairPiece, Cond.selects RX0 yX0_fairPiece yX0_fairPiece, Cond.code yX0_fairPiece cX0_fairPiece 7 (some .int), Cond.methodLink RX0 87 yX1_worthFrom, Cond.instanceMethod yX1_worthFrom, Cond.selects RX1 yX1_worthFrom yX1_worthFrom, Cond.code yX1_worthFrom cX1_worthFrom 5 (some .int), Cond.methodLink RX0 90 yX1_worthOf, Cond.instanceMethod yX1_worthOf]
def wsX5_carryOutOrder_r5 : List Cond := [Cond.selects RX1 yX1_worthOf yX1_worthOf, Cond.code yX1_worthOf cX1_worthOf 3 (some .int), Cond.methodLink RX0 74 yX0_hold, Cond.instanceMethod yX0_hold, Cond.selects RX0 yX0_hold yX0_hold, Cond.code yX0_hold cX0_hold 3 none, Cond.methodLink RX0 78 yX0_mayTrim, Cond.instanceMethod yX0_mayTrim, Cond.selects RX0 yX0_mayTrim yX0_mayTrim, Cond.code yX0_mayTrim cX0_mayTrim 3 none, Cond.fieldLink RX0 84 "CousinShares$Harvest" "settings" "[I", Cond.methodLink RX0 81 yX1_grudgeOf, Cond.instanceMethod yX1_grudgeOf, Cond.selects RX1 yX1_grudgeOf yX1_grudgeOf, Cond.code yX1_grudgeOf cX1_grudgeOf 3 (some .int), Cond.methodLink RX0 48 yX0_handOut, Cond.instanceMethod yX0_handOut, Cond.selects RX0 yX0_handOut yX0_handOut, Cond.code yX0_handOut cX0_handOut 5 none, Cond.fieldLink RX0 9 "CousinShares$Division" "owners" "[I", Cond.static yX5_without, Cond.code yX5_without cX5_without 2 (some .int), Cond.methodLink RX0 55 yX0_firstOf, Cond.instanceMethod yX0_firstOf]
def wsX5_carryOutOrder_r6 : List Cond := [Cond.selects RX0 yX0_firstOf yX0_firstOf, Cond.code yX0_firstOf cX0_firstOf 3 (some .int)]
def wsX5_carryOutOrder : List Cond := .code yX5_carryOutOrder cX5_carryOutOrder 2 none :: ((wsX5_carryOutOrder_r1 ++ (wsX5_carryOutOrder_r2 ++ (wsX5_carryOutOrder_r3 ++ (wsX5_carryOutOrder_r4 ++ (wsX5_carryOutOrder_r5 ++ wsX5_carryOutOrder_r6))))) ++ wsX50 ++ wsX30 ++ wsX10 ++ wsX00)
def wsX5_perform_r1 : List Cond := [Cond.fieldLink RX5 35 "CousinShares" "text" "LCousinShares$OrderText;", Cond.fieldLink RX5 147 "CousinShares$OrderText" "at" "I", Cond.fieldLink RX5 42 "CousinShares" "history" "LCousinShares$History;", Cond.fieldLink RX5 12 "CousinShares" "now" "LCousinShares$Harvest;", Cond.methodLink RX5 143 yX3_countOrders, Cond.instanceMethod yX3_countOrders, Cond.selects RX3 yX3_countOrders yX3_countOrders, Cond.initialized RX3, Cond.code yX3_countOrders cX3_countOrders 2 (some .int), Cond.fieldLink RX3 23 "CousinShares$OrderText" "at" "I", Cond.fieldLink RX3 19 "CousinShares$OrderText" "length" "I", Cond.methodLink RX3 26 yX3_readOrder, Cond.instanceMethod yX3_readOrder, Cond.selects RX3 yX3_readOrder yX3_readOrder, Cond.code yX3_readOrder cX3_readOrder 1 (some .boolean), Cond.fieldLink RX3 34 "CousinShares$OrderText" "kind" "I", Cond.methodLink RX3 30 yX3_readSign, Cond.instanceMethod yX3_readSign, Cond.selects RX3 yX3_readSign yX3_readSign, Cond.code yX3_readSign cX3_readSign 2 (some .boolean), Cond.fieldLink RX3 15 "CousinShares$OrderText" "signs" "[C", Cond.methodLink RX3 37 yX3_readPlot, Cond.instanceMethod yX3_readPlot, Cond.selects RX3 yX3_readPlot yX3_readPlot]
def wsX5_perform_r2 : List Cond := [Cond.code yX3_readPlot cX3_readPlot 2 (some .boolean), Cond.fieldLink RX3 57 "CousinShares$OrderText" "first" "I", Cond.methodLink RX3 60 Lib.Math.min.name, Cond.static Lib.Math.min.name, Cond.initialized "java/lang/Math", Cond.code Lib.Math.min.name Lib.Math.min.code 2 (some .int), Cond.methodLink RX3 53 yX3_readDigit, Cond.instanceMethod yX3_readDigit, Cond.selects RX3 yX3_readDigit yX3_readDigit, Cond.code yX3_readDigit cX3_readDigit 4 (some .int), Cond.methodLink RX3 40 yX3_readDigits, Cond.instanceMethod yX3_readDigits, Cond.selects RX3 yX3_readDigits yX3_readDigits, Cond.code yX3_readDigits cX3_readDigits 4 (some .boolean), Cond.fieldLink RX3 9 "CousinShares$OrderText" "digits" "[I", Cond.methodLink RX3 44 yX3_readCousin, Cond.instanceMethod yX3_readCousin, Cond.selects RX3 yX3_readCousin yX3_readCousin, Cond.code yX3_readCousin cX3_readCousin 1 (some .boolean), Cond.methodLink RX3 47 yX3_readOther, Cond.instanceMethod yX3_readOther, Cond.selects RX3 yX3_readOther yX3_readOther, Cond.code yX3_readOther cX3_readOther 1 (some .boolean), Cond.fieldLink RX3 65 "CousinShares$OrderText" "second" "I"]
def wsX5_perform_r3 : List Cond := [Cond.methodLink RX3 50 yX3_readParty, Cond.instanceMethod yX3_readParty, Cond.selects RX3 yX3_readParty yX3_readParty, Cond.code yX3_readParty cX3_readParty 4 (some .boolean), Cond.fieldLink RX3 68 "CousinShares$OrderText" "party" "I", Cond.methodLink RX5 67 yX2_record, Cond.instanceMethod yX2_record, Cond.selects RX2 yX2_record yX2_record, Cond.initialized RX2, Cond.code yX2_record cX2_record 2 none, Cond.fieldLink RX2 18 "CousinShares$History" "count" "I", Cond.fieldLink RX2 11 "CousinShares$History" "states" "[LCousinShares$Harvest;", Cond.methodLink RX2 22 yX2_dropOldest, Cond.instanceMethod yX2_dropOldest, Cond.selects RX2 yX2_dropOldest yX2_dropOldest, Cond.code yX2_dropOldest cX2_dropOldest 3 none, Cond.methodLink RX2 25 yX1_copyFrom, Cond.instanceMethod yX1_copyFrom, Cond.selects RX1 yX1_copyFrom yX1_copyFrom, Cond.initialized RX1, Cond.code yX1_copyFrom cX1_copyFrom 2 none, Cond.fieldLink RX1 9 "CousinShares$Harvest" "amounts" "[I", Cond.methodLink RX1 34 arraycopyName, Cond.native arraycopyName]
def wsX5_perform_r4 : List Cond := [Cond.static arraycopyName, Cond.initialized "java/lang/System", Cond.fieldLink RX1 15 "CousinShares$Harvest" "weights" "[I", Cond.fieldLink RX1 18 "CousinShares$Harvest" "grudges" "[I", Cond.fieldLink RX1 21 "CousinShares$Harvest" "owners" "[I", Cond.fieldLink RX1 24 "CousinShares$Harvest" "settings" "[I", Cond.fieldLink RX1 27 "CousinShares$Harvest" "worths" "[I", Cond.fieldLink RX1 40 "CousinShares$Harvest" "trims" "I", Cond.fieldLink RX1 44 "CousinShares$Harvest" "grudgeTrims" "I", Cond.fieldLink RX1 47 "CousinShares$Harvest" "trades" "I", Cond.methodLink RX5 150 yX3_readOrder, Cond.methodLink RX5 153 yX5_carryOutOrder, Cond.instanceMethod yX5_carryOutOrder, Cond.selects RX5 yX5_carryOutOrder yX5_carryOutOrder, Cond.initialized RX5, Cond.code yX5_carryOutOrder cX5_carryOutOrder 2 none, Cond.fieldLink RX5 243 "CousinShares$OrderText" "kind" "I", Cond.fieldLink RX5 246 "CousinShares$OrderText" "first" "I", Cond.fieldLink RX5 249 "CousinShares$OrderText" "digits" "[I", Cond.fieldLink RX5 252 "CousinShares$OrderText" "second" "I", Cond.fieldLink RX5 255 "CousinShares$OrderText" "party" "I", Cond.methodLink RX5 70 yX1_putAmount, Cond.instanceMethod yX1_putAmount, Cond.selects RX1 yX1_putAmount yX1_putAmount]
def wsX5_perform_r5 : List Cond := [Cond.code yX1_putAmount cX1_putAmount 5 none, Cond.methodLink RX1 50 yX1_weighPlot, Cond.instanceMethod yX1_weighPlot, Cond.selects RX1 yX1_weighPlot yX1_weighPlot, Cond.code yX1_weighPlot cX1_weighPlot 5 none, Cond.methodLink RX5 80 yX1_putWeight, Cond.instanceMethod yX1_putWeight, Cond.selects RX1 yX1_putWeight yX1_putWeight, Cond.code yX1_putWeight cX1_putWeight 4 none, Cond.methodLink RX1 30 yX1_weighPlots, Cond.instanceMethod yX1_weighPlots, Cond.selects RX1 yX1_weighPlots yX1_weighPlots, Cond.code yX1_weighPlots cX1_weighPlots 3 none, Cond.methodLink RX5 87 yX1_putGrudge, Cond.instanceMethod yX1_putGrudge, Cond.selects RX1 yX1_putGrudge yX1_putGrudge, Cond.code yX1_putGrudge cX1_putGrudge 4 none, Cond.methodLink RX5 100 yX5_divideNow, Cond.instanceMethod yX5_divideNow, Cond.selects RX5 yX5_divideNow yX5_divideNow, Cond.code yX5_divideNow cX5_divideNow 2 none, Cond.fieldLink RX5 21 "CousinShares" "division" "LCousinShares$Division;", Cond.fieldLink RX5 220 "CousinShares$Division" "owners" "[I", Cond.fieldLink RX5 108 "CousinShares$Harvest" "owners" "[I"]
def wsX5_perform_r6 : List Cond := [Cond.methodLink RX5 230 arraycopyName, Cond.fieldLink RX5 209 "CousinShares$Harvest" "trims" "I", Cond.fieldLink RX5 104 "CousinShares$Division" "trims" "I", Cond.fieldLink RX5 210 "CousinShares$Harvest" "grudgeTrims" "I", Cond.fieldLink RX5 219 "CousinShares$Division" "grudgeTrims" "I", Cond.methodLink RX5 216 yX0_run, Cond.instanceMethod yX0_run, Cond.selects RX0 yX0_run yX0_run, Cond.initialized RX0, Cond.code yX0_run cX0_run 5 none, Cond.fieldLink RX0 22 "CousinShares$Division" "trims" "I", Cond.fieldLink RX0 26 "CousinShares$Division" "grudgeTrims" "I", Cond.fieldLink RX0 42 "CousinShares$Division" "pieceSize" "I", Cond.fieldLink RX0 45 "CousinShares$Division" "holder" "I", Cond.fieldLink RX0 58 "CousinShares$Division" "lastCousin" "I", Cond.methodLink RX0 29 yX0_lineUp, Cond.instanceMethod yX0_lineUp, Cond.selects RX0 yX0_lineUp yX0_lineUp, Cond.code yX0_lineUp cX0_lineUp 3 none, Cond.fieldLink RX0 18 "CousinShares$Division" "harvest" "LCousinShares$Harvest;", Cond.fieldLink RX0 15 "CousinShares$Division" "byOrder" "[I", Cond.methodLink RX0 61 yX1_isAhead, Cond.instanceMethod yX1_isAhead, Cond.selects RX1 yX1_isAhead yX1_isAhead]
def wsX5_perform_r7 : List Cond := [Cond.code yX1_isAhead cX1_isAhead 5 (some .boolean), Cond.methodLink RX1 54 yX1_grudgesOf, Cond.instanceMethod yX1_grudgesOf, Cond.selects RX1 yX1_grudgesOf yX1_grudgesOf, Cond.code yX1_grudgesOf cX1_grudgesOf 4 (some .int), Cond.methodLink RX0 32 yJ6_bitCount_0f7a4, Cond.static yJ6_bitCount_0f7a4, Cond.initialized RJ6, Cond.code yJ6_bitCount_0f7a4 cJ6_bitCount_0f7a4 1 (some .int), Cond.constant RJ6 265 (1431655765), Cond.constant RJ6 266 (858993459), Cond.constant RJ6 267 (252645135), Cond.methodLink RX0 38 yX0_cutAndTrim, Cond.instanceMethod yX0_cutAndTrim, Cond.selects RX0 yX0_cutAndTrim yX0_cutAndTrim, Cond.code yX0_cutAndTrim cX0_cutAndTrim 7 none, Cond.static yX5_contains, Cond.code yX5_contains cX5_contains 2 (some .boolean), Cond.methodLink RX0 70 yX0_fairPiece, Cond.instanceMethod yX0_fairPiece, Cond.selects RX0 yX0_fairPiece yX0_fairPiece, Cond.code yX0_fairPiece cX0_fairPiece 7 (some .int), Cond.methodLink RX0 87 yX1_worthFrom, Cond.instanceMethod yX1_worthFrom]
def wsX5_perform_r8 : List Cond := [Cond.selects RX1 yX1_worthFrom yX1_worthFrom, Cond.code yX1_worthFrom cX1_worthFrom 5 (some .int), Cond.methodLink RX0 90 yX1_worthOf, Cond.instanceMethod yX1_worthOf, Cond.selects RX1 yX1_worthOf yX1_worthOf, Cond.code yX1_worthOf cX1_worthOf 3 (some .int), Cond.methodLink RX0 74 yX0_hold, Cond.instanceMethod yX0_hold, Cond.selects RX0 yX0_hold yX0_hold, Cond.code yX0_hold cX0_hold 3 none, Cond.methodLink RX0 78 yX0_mayTrim, Cond.instanceMethod yX0_mayTrim, Cond.selects RX0 yX0_mayTrim yX0_mayTrim, Cond.code yX0_mayTrim cX0_mayTrim 3 none, Cond.fieldLink RX0 84 "CousinShares$Harvest" "settings" "[I", Cond.methodLink RX0 81 yX1_grudgeOf, Cond.instanceMethod yX1_grudgeOf, Cond.selects RX1 yX1_grudgeOf yX1_grudgeOf, Cond.code yX1_grudgeOf cX1_grudgeOf 3 (some .int), Cond.methodLink RX0 48 yX0_handOut, Cond.instanceMethod yX0_handOut, Cond.selects RX0 yX0_handOut yX0_handOut, Cond.code yX0_handOut cX0_handOut 5 none, Cond.fieldLink RX0 9 "CousinShares$Division" "owners" "[I"]
def wsX5_perform_r9 : List Cond := [Cond.static yX5_without, Cond.code yX5_without cX5_without 2 (some .int), Cond.methodLink RX0 55 yX0_firstOf, Cond.instanceMethod yX0_firstOf, Cond.selects RX0 yX0_firstOf yX0_firstOf, Cond.code yX0_firstOf cX0_firstOf 3 (some .int), Cond.methodLink RX5 156 yX3_readSign]
def wsX5_perform : List Cond := .code yX5_perform cX5_perform 3 (some .int) :: ((wsX5_perform_r1 ++ (wsX5_perform_r2 ++ (wsX5_perform_r3 ++ (wsX5_perform_r4 ++ (wsX5_perform_r5 ++ (wsX5_perform_r6 ++ (wsX5_perform_r7 ++ (wsX5_perform_r8 ++ wsX5_perform_r9)))))))) ++ wsX50 ++ wsX30 ++ wsX20 ++ wsX10 ++ wsX00)
def wsX5_undo_r1 : List Cond := [Cond.fieldLink RX5 42 "CousinShares" "history" "LCousinShares$History;", Cond.fieldLink RX5 160 "CousinShares$History" "count" "I", Cond.fieldLink RX5 12 "CousinShares" "now" "LCousinShares$Harvest;", Cond.methodLink RX5 163 yX2_takeLatest, Cond.instanceMethod yX2_takeLatest, Cond.selects RX2 yX2_takeLatest yX2_takeLatest, Cond.initialized RX2, Cond.code yX2_takeLatest cX2_takeLatest 2 none, Cond.fieldLink RX2 18 "CousinShares$History" "count" "I", Cond.fieldLink RX2 11 "CousinShares$History" "states" "[LCousinShares$Harvest;", Cond.methodLink RX2 25 yX1_copyFrom, Cond.instanceMethod yX1_copyFrom, Cond.selects RX1 yX1_copyFrom yX1_copyFrom, Cond.initialized RX1, Cond.code yX1_copyFrom cX1_copyFrom 2 none, Cond.fieldLink RX1 9 "CousinShares$Harvest" "amounts" "[I", Cond.methodLink RX1 34 arraycopyName, Cond.native arraycopyName, Cond.static arraycopyName, Cond.initialized "java/lang/System", Cond.fieldLink RX1 15 "CousinShares$Harvest" "weights" "[I", Cond.fieldLink RX1 18 "CousinShares$Harvest" "grudges" "[I", Cond.fieldLink RX1 21 "CousinShares$Harvest" "owners" "[I", Cond.fieldLink RX1 24 "CousinShares$Harvest" "settings" "[I"]
def wsX5_undo_r2 : List Cond := [Cond.fieldLink RX1 27 "CousinShares$Harvest" "worths" "[I", Cond.fieldLink RX1 40 "CousinShares$Harvest" "trims" "I", Cond.fieldLink RX1 44 "CousinShares$Harvest" "grudgeTrims" "I", Cond.fieldLink RX1 47 "CousinShares$Harvest" "trades" "I"]
def wsX5_undo : List Cond := .code yX5_undo cX5_undo 1 (some .int) :: ((wsX5_undo_r1 ++ wsX5_undo_r2) ++ wsX50 ++ wsX20 ++ wsX10)
def wsX5_keep_r1 : List Cond := [Cond.fieldLink RX5 46 "CousinShares" "snapshot" "LCousinShares$Harvest;", Cond.fieldLink RX5 12 "CousinShares" "now" "LCousinShares$Harvest;", Cond.fieldLink RX5 49 "CousinShares" "hasSnapshot" "Z", Cond.methodLink RX5 166 yX1_copyFrom, Cond.instanceMethod yX1_copyFrom, Cond.selects RX1 yX1_copyFrom yX1_copyFrom, Cond.initialized RX1, Cond.code yX1_copyFrom cX1_copyFrom 2 none, Cond.fieldLink RX1 9 "CousinShares$Harvest" "amounts" "[I", Cond.methodLink RX1 34 arraycopyName, Cond.native arraycopyName, Cond.static arraycopyName, Cond.initialized "java/lang/System", Cond.fieldLink RX1 15 "CousinShares$Harvest" "weights" "[I", Cond.fieldLink RX1 18 "CousinShares$Harvest" "grudges" "[I", Cond.fieldLink RX1 21 "CousinShares$Harvest" "owners" "[I", Cond.fieldLink RX1 24 "CousinShares$Harvest" "settings" "[I", Cond.fieldLink RX1 27 "CousinShares$Harvest" "worths" "[I", Cond.fieldLink RX1 40 "CousinShares$Harvest" "trims" "I", Cond.fieldLink RX1 44 "CousinShares$Harvest" "grudgeTrims" "I", Cond.fieldLink RX1 47 "CousinShares$Harvest" "trades" "I", Cond.methodLink RX5 169 yX1_plotsOf, Cond.instanceMethod yX1_plotsOf, Cond.selects RX1 yX1_plotsOf yX1_plotsOf]
def wsX5_keep_r2 : List Cond := [Cond.code yX1_plotsOf cX1_plotsOf 4 (some .int)]
def wsX5_keep : List Cond := .code yX5_keep cX5_keep 1 (some .int) :: ((wsX5_keep_r1 ++ wsX5_keep_r2) ++ wsX50 ++ wsX10)
def wsX5_restore_r1 : List Cond := [Cond.fieldLink RX5 49 "CousinShares" "hasSnapshot" "Z", Cond.fieldLink RX5 42 "CousinShares" "history" "LCousinShares$History;", Cond.fieldLink RX5 12 "CousinShares" "now" "LCousinShares$Harvest;", Cond.fieldLink RX5 46 "CousinShares" "snapshot" "LCousinShares$Harvest;", Cond.methodLink RX5 67 yX2_record, Cond.instanceMethod yX2_record, Cond.selects RX2 yX2_record yX2_record, Cond.initialized RX2, Cond.code yX2_record cX2_record 2 none, Cond.fieldLink RX2 18 "CousinShares$History" "count" "I", Cond.fieldLink RX2 11 "CousinShares$History" "states" "[LCousinShares$Harvest;", Cond.methodLink RX2 22 yX2_dropOldest, Cond.instanceMethod yX2_dropOldest, Cond.selects RX2 yX2_dropOldest yX2_dropOldest, Cond.code yX2_dropOldest cX2_dropOldest 3 none, Cond.methodLink RX2 25 yX1_copyFrom, Cond.instanceMethod yX1_copyFrom, Cond.selects RX1 yX1_copyFrom yX1_copyFrom, Cond.initialized RX1, Cond.code yX1_copyFrom cX1_copyFrom 2 none, Cond.fieldLink RX1 9 "CousinShares$Harvest" "amounts" "[I", Cond.methodLink RX1 34 arraycopyName, Cond.native arraycopyName, Cond.static arraycopyName]
def wsX5_restore_r2 : List Cond := [Cond.initialized "java/lang/System", Cond.fieldLink RX1 15 "CousinShares$Harvest" "weights" "[I", Cond.fieldLink RX1 18 "CousinShares$Harvest" "grudges" "[I", Cond.fieldLink RX1 21 "CousinShares$Harvest" "owners" "[I", Cond.fieldLink RX1 24 "CousinShares$Harvest" "settings" "[I", Cond.fieldLink RX1 27 "CousinShares$Harvest" "worths" "[I", Cond.fieldLink RX1 40 "CousinShares$Harvest" "trims" "I", Cond.fieldLink RX1 44 "CousinShares$Harvest" "grudgeTrims" "I", Cond.fieldLink RX1 47 "CousinShares$Harvest" "trades" "I", Cond.methodLink RX5 166 yX1_copyFrom, Cond.methodLink RX5 169 yX1_plotsOf, Cond.instanceMethod yX1_plotsOf, Cond.selects RX1 yX1_plotsOf yX1_plotsOf, Cond.code yX1_plotsOf cX1_plotsOf 4 (some .int)]
def wsX5_restore : List Cond := .code yX5_restore cX5_restore 1 (some .int) :: ((wsX5_restore_r1 ++ wsX5_restore_r2) ++ wsX50 ++ wsX20 ++ wsX10)
def wsX5_plot : List Cond := .code yX5_plot cX5_plot 3 (some .int) :: ([.fieldLink RX5 12 "CousinShares" "now" "LCousinShares$Harvest;", .fieldLink RX5 63 "CousinShares$Harvest" "amounts" "[I", .fieldLink RX5 108 "CousinShares$Harvest" "owners" "[I", .methodLink RX5 53 yX5_isPlot, .static yX5_isPlot, .initialized RX5, .code yX5_isPlot cX5_isPlot 1 (some .boolean), .methodLink RX5 172 yX1_worthOf, .instanceMethod yX1_worthOf, .selects RX1 yX1_worthOf yX1_worthOf, .initialized RX1, .code yX1_worthOf cX1_worthOf 3 (some .int), .fieldLink RX1 27 "CousinShares$Harvest" "worths" "[I"] ++ wsX50 ++ wsX10)
def wsX5_hundredths : List Cond := .code yX5_hundredths cX5_hundredths 2 (some .int) :: ([])
def wsX5_cousin_r1 : List Cond := [Cond.fieldLink RX5 12 "CousinShares" "now" "LCousinShares$Harvest;", Cond.fieldLink RX5 77 "CousinShares$Harvest" "weights" "[I", Cond.fieldLink RX5 28 "CousinShares" "shares" "LCousinShares$Shares;", Cond.fieldLink RX5 108 "CousinShares$Harvest" "owners" "[I", Cond.methodLink RX5 74 yX5_isCousin, Cond.static yX5_isCousin, Cond.initialized RX5, Cond.code yX5_isCousin cX5_isCousin 1 (some .boolean), Cond.methodLink RX5 111 yX4_measure, Cond.instanceMethod yX4_measure, Cond.selects RX4 yX4_measure yX4_measure, Cond.initialized RX4, Cond.code yX4_measure cX4_measure 5 none, Cond.fieldLink RX4 9 "CousinShares$Shares" "worths" "[I", Cond.fieldLink RX4 15 "CousinShares$Shares" "harvest" "LCousinShares$Harvest;", Cond.methodLink RX4 23 yX1_worthOf, Cond.instanceMethod yX1_worthOf, Cond.selects RX1 yX1_worthOf yX1_worthOf, Cond.initialized RX1, Cond.code yX1_worthOf cX1_worthOf 3 (some .int), Cond.fieldLink RX1 27 "CousinShares$Harvest" "worths" "[I", Cond.methodLink RX5 169 yX1_plotsOf, Cond.instanceMethod yX1_plotsOf, Cond.selects RX1 yX1_plotsOf yX1_plotsOf]
def wsX5_cousin_r2 : List Cond := [Cond.code yX1_plotsOf cX1_plotsOf 4 (some .int), Cond.fieldLink RX1 21 "CousinShares$Harvest" "owners" "[I", Cond.methodLink RX5 175 yX4_worthOf, Cond.instanceMethod yX4_worthOf, Cond.selects RX4 yX4_worthOf yX4_worthOf, Cond.code yX4_worthOf cX4_worthOf 3 (some .int), Cond.methodLink RX5 176 yX1_worthFrom, Cond.instanceMethod yX1_worthFrom, Cond.selects RX1 yX1_worthFrom yX1_worthFrom, Cond.code yX1_worthFrom cX1_worthFrom 5 (some .int), Cond.methodLink RX5 179 yX5_hundredths, Cond.static yX5_hundredths, Cond.code yX5_hundredths cX5_hundredths 2 (some .int), Cond.methodLink RX5 182 yX1_grudgesOf, Cond.instanceMethod yX1_grudgesOf, Cond.selects RX1 yX1_grudgesOf yX1_grudgesOf, Cond.code yX1_grudgesOf cX1_grudgesOf 4 (some .int), Cond.fieldLink RX1 18 "CousinShares$Harvest" "grudges" "[I", Cond.methodLink RX5 185 yX4_enviesOf, Cond.instanceMethod yX4_enviesOf, Cond.selects RX4 yX4_enviesOf yX4_enviesOf, Cond.code yX4_enviesOf cX4_enviesOf 5 (some .int), Cond.static yX5_contains, Cond.code yX5_contains cX5_contains 2 (some .boolean)]
def wsX5_cousin_r3 : List Cond := [Cond.methodLink RX4 45 yX4_envy, Cond.instanceMethod yX4_envy, Cond.selects RX4 yX4_envy yX4_envy, Cond.code yX4_envy cX4_envy 3 (some .int), Cond.methodLink RX4 36 Lib.Math.max.name, Cond.static Lib.Math.max.name, Cond.initialized "java/lang/Math", Cond.code Lib.Math.max.name Lib.Math.max.code 2 (some .int), Cond.methodLink RX4 32 yX4_seeming, Cond.instanceMethod yX4_seeming, Cond.selects RX4 yX4_seeming yX4_seeming, Cond.code yX4_seeming cX4_seeming 4 (some .int), Cond.fieldLink RX4 29 "CousinShares$Harvest" "grudges" "[I", Cond.methodLink RX4 35 yX4_worthOf, Cond.methodLink RX5 188 yX4_greatestEnvyOf, Cond.instanceMethod yX4_greatestEnvyOf, Cond.selects RX4 yX4_greatestEnvyOf yX4_greatestEnvyOf, Cond.code yX4_greatestEnvyOf cX4_greatestEnvyOf 4 (some .int), Cond.methodLink RX5 191 yX4_enviesTowards, Cond.instanceMethod yX4_enviesTowards, Cond.selects RX4 yX4_enviesTowards yX4_enviesTowards, Cond.code yX4_enviesTowards cX4_enviesTowards 4 (some .int), Cond.methodLink RX5 194 yX1_placeOf, Cond.instanceMethod yX1_placeOf]
def wsX5_cousin_r4 : List Cond := [Cond.selects RX1 yX1_placeOf yX1_placeOf, Cond.code yX1_placeOf cX1_placeOf 4 (some .int), Cond.methodLink RX1 58 yX1_isAhead, Cond.instanceMethod yX1_isAhead, Cond.selects RX1 yX1_isAhead yX1_isAhead, Cond.code yX1_isAhead cX1_isAhead 5 (some .boolean), Cond.fieldLink RX1 24 "CousinShares$Harvest" "settings" "[I", Cond.methodLink RX1 54 yX1_grudgesOf]
def wsX5_cousin : List Cond := .code yX5_cousin cX5_cousin 3 (some .int) :: ((wsX5_cousin_r1 ++ (wsX5_cousin_r2 ++ (wsX5_cousin_r3 ++ wsX5_cousin_r4))) ++ wsX50 ++ wsX10 ++ wsX40)
def wsX5_pair_r1 : List Cond := [Cond.fieldLink RX5 28 "CousinShares" "shares" "LCousinShares$Shares;", Cond.fieldLink RX5 12 "CousinShares" "now" "LCousinShares$Harvest;", Cond.fieldLink RX5 108 "CousinShares$Harvest" "owners" "[I", Cond.methodLink RX5 74 yX5_isCousin, Cond.static yX5_isCousin, Cond.initialized RX5, Cond.code yX5_isCousin cX5_isCousin 1 (some .boolean), Cond.methodLink RX5 111 yX4_measure, Cond.instanceMethod yX4_measure, Cond.selects RX4 yX4_measure yX4_measure, Cond.initialized RX4, Cond.code yX4_measure cX4_measure 5 none, Cond.fieldLink RX4 9 "CousinShares$Shares" "worths" "[I", Cond.fieldLink RX4 15 "CousinShares$Shares" "harvest" "LCousinShares$Harvest;", Cond.methodLink RX4 23 yX1_worthOf, Cond.instanceMethod yX1_worthOf, Cond.selects RX1 yX1_worthOf yX1_worthOf, Cond.initialized RX1, Cond.code yX1_worthOf cX1_worthOf 3 (some .int), Cond.fieldLink RX1 27 "CousinShares$Harvest" "worths" "[I", Cond.methodLink RX5 83 yX1_grudgeOf, Cond.instanceMethod yX1_grudgeOf, Cond.selects RX1 yX1_grudgeOf yX1_grudgeOf, Cond.code yX1_grudgeOf cX1_grudgeOf 3 (some .int)]
def wsX5_pair_r2 : List Cond := [Cond.fieldLink RX1 18 "CousinShares$Harvest" "grudges" "[I", Cond.methodLink RX5 175 yX4_worthOf, Cond.instanceMethod yX4_worthOf, Cond.selects RX4 yX4_worthOf yX4_worthOf, Cond.code yX4_worthOf cX4_worthOf 3 (some .int), Cond.methodLink RX5 197 yX4_seeming, Cond.instanceMethod yX4_seeming, Cond.selects RX4 yX4_seeming yX4_seeming, Cond.code yX4_seeming cX4_seeming 4 (some .int), Cond.fieldLink RX4 29 "CousinShares$Harvest" "grudges" "[I", Cond.methodLink RX5 200 yX4_envy, Cond.instanceMethod yX4_envy, Cond.selects RX4 yX4_envy yX4_envy, Cond.code yX4_envy cX4_envy 3 (some .int), Cond.methodLink RX4 36 Lib.Math.max.name, Cond.static Lib.Math.max.name, Cond.initialized "java/lang/Math", Cond.code Lib.Math.max.name Lib.Math.max.code 2 (some .int), Cond.methodLink RX4 32 yX4_seeming, Cond.methodLink RX4 35 yX4_worthOf, Cond.methodLink RX5 115 yX4_whyNoTrade, Cond.instanceMethod yX4_whyNoTrade, Cond.selects RX4 yX4_whyNoTrade yX4_whyNoTrade, Cond.code yX4_whyNoTrade cX4_whyNoTrade 4 (some .int)]
def wsX5_pair_r3 : List Cond := [Cond.fieldLink RX4 55 "CousinShares$Harvest" "settings" "[I", Cond.methodLink RX4 58 yX1_grudgeOf]
def wsX5_pair : List Cond := .code yX5_pair cX5_pair 4 (some .int) :: ((wsX5_pair_r1 ++ (wsX5_pair_r2 ++ wsX5_pair_r3)) ++ wsX50 ++ wsX10 ++ wsX40)
def wsX5_total_r1 : List Cond := [Cond.fieldLink RX5 28 "CousinShares" "shares" "LCousinShares$Shares;", Cond.fieldLink RX5 12 "CousinShares" "now" "LCousinShares$Harvest;", Cond.fieldLink RX5 108 "CousinShares$Harvest" "owners" "[I", Cond.fieldLink RX5 94 "CousinShares$Harvest" "settings" "[I", Cond.fieldLink RX5 209 "CousinShares$Harvest" "trims" "I", Cond.fieldLink RX5 210 "CousinShares$Harvest" "grudgeTrims" "I", Cond.fieldLink RX5 213 "CousinShares$Harvest" "trades" "I", Cond.fieldLink RX5 42 "CousinShares" "history" "LCousinShares$History;", Cond.fieldLink RX5 160 "CousinShares$History" "count" "I", Cond.fieldLink RX5 35 "CousinShares" "text" "LCousinShares$OrderText;", Cond.fieldLink RX5 136 "CousinShares$OrderText" "length" "I", Cond.methodLink RX5 111 yX4_measure, Cond.instanceMethod yX4_measure, Cond.selects RX4 yX4_measure yX4_measure, Cond.initialized RX4, Cond.code yX4_measure cX4_measure 5 none, Cond.fieldLink RX4 9 "CousinShares$Shares" "worths" "[I", Cond.fieldLink RX4 15 "CousinShares$Shares" "harvest" "LCousinShares$Harvest;", Cond.static yX5_isCousin, Cond.initialized RX5, Cond.code yX5_isCousin cX5_isCousin 1 (some .boolean), Cond.methodLink RX4 23 yX1_worthOf, Cond.instanceMethod yX1_worthOf, Cond.selects RX1 yX1_worthOf yX1_worthOf]
def wsX5_total_r2 : List Cond := [Cond.initialized RX1, Cond.code yX1_worthOf cX1_worthOf 3 (some .int), Cond.fieldLink RX1 27 "CousinShares$Harvest" "worths" "[I", Cond.methodLink RX5 169 yX1_plotsOf, Cond.instanceMethod yX1_plotsOf, Cond.selects RX1 yX1_plotsOf yX1_plotsOf, Cond.code yX1_plotsOf cX1_plotsOf 4 (some .int), Cond.fieldLink RX1 21 "CousinShares$Harvest" "owners" "[I", Cond.methodLink RX5 122 yX4_enviesAmong, Cond.instanceMethod yX4_enviesAmong, Cond.selects RX4 yX4_enviesAmong yX4_enviesAmong, Cond.code yX4_enviesAmong cX4_enviesAmong 4 (some .int), Cond.static yX5_contains, Cond.code yX5_contains cX5_contains 2 (some .boolean), Cond.methodLink RX4 48 yX4_enviesOf, Cond.instanceMethod yX4_enviesOf, Cond.selects RX4 yX4_enviesOf yX4_enviesOf, Cond.code yX4_enviesOf cX4_enviesOf 5 (some .int), Cond.methodLink RX4 45 yX4_envy, Cond.instanceMethod yX4_envy, Cond.selects RX4 yX4_envy yX4_envy, Cond.code yX4_envy cX4_envy 3 (some .int), Cond.methodLink RX4 36 Lib.Math.max.name, Cond.static Lib.Math.max.name]
def wsX5_total_r3 : List Cond := [Cond.initialized "java/lang/Math", Cond.code Lib.Math.max.name Lib.Math.max.code 2 (some .int), Cond.methodLink RX4 32 yX4_seeming, Cond.instanceMethod yX4_seeming, Cond.selects RX4 yX4_seeming yX4_seeming, Cond.code yX4_seeming cX4_seeming 4 (some .int), Cond.fieldLink RX4 29 "CousinShares$Harvest" "grudges" "[I", Cond.methodLink RX4 35 yX4_worthOf, Cond.instanceMethod yX4_worthOf, Cond.selects RX4 yX4_worthOf yX4_worthOf, Cond.code yX4_worthOf cX4_worthOf 3 (some .int), Cond.methodLink RX5 203 yX4_contentCousins, Cond.instanceMethod yX4_contentCousins, Cond.selects RX4 yX4_contentCousins yX4_contentCousins, Cond.code yX4_contentCousins cX4_contentCousins 3 (some .int), Cond.methodLink RX4 51 yX4_greatestEnvyOf, Cond.instanceMethod yX4_greatestEnvyOf, Cond.selects RX4 yX4_greatestEnvyOf yX4_greatestEnvyOf, Cond.code yX4_greatestEnvyOf cX4_greatestEnvyOf 4 (some .int), Cond.methodLink RX5 206 yX4_tradingPairs, Cond.instanceMethod yX4_tradingPairs, Cond.selects RX4 yX4_tradingPairs yX4_tradingPairs, Cond.code yX4_tradingPairs cX4_tradingPairs 4 (some .int), Cond.methodLink RX4 61 yX4_whyNoTrade]
def wsX5_total_r4 : List Cond := [Cond.instanceMethod yX4_whyNoTrade, Cond.selects RX4 yX4_whyNoTrade yX4_whyNoTrade, Cond.code yX4_whyNoTrade cX4_whyNoTrade 4 (some .int), Cond.fieldLink RX4 55 "CousinShares$Harvest" "settings" "[I", Cond.methodLink RX4 58 yX1_grudgeOf, Cond.instanceMethod yX1_grudgeOf, Cond.selects RX1 yX1_grudgeOf yX1_grudgeOf, Cond.code yX1_grudgeOf cX1_grudgeOf 3 (some .int), Cond.fieldLink RX1 18 "CousinShares$Harvest" "grudges" "[I"]
def wsX5_total : List Cond := .code yX5_total cX5_total 2 (some .int) :: ((wsX5_total_r1 ++ (wsX5_total_r2 ++ (wsX5_total_r3 ++ wsX5_total_r4))) ++ wsX50 ++ wsX10 ++ wsX20 ++ wsX30 ++ wsX40)
def wsX5_ifDivided_r1 : List Cond := [Cond.fieldLink RX5 21 "CousinShares" "division" "LCousinShares$Division;", Cond.fieldLink RX5 104 "CousinShares$Division" "trims" "I", Cond.fieldLink RX5 219 "CousinShares$Division" "grudgeTrims" "I", Cond.fieldLink RX5 28 "CousinShares" "shares" "LCousinShares$Shares;", Cond.fieldLink RX5 220 "CousinShares$Division" "owners" "[I", Cond.fieldLink RX5 221 "CousinShares$Division" "lastCousin" "I", Cond.methodLink RX5 97 yX5_isParty, Cond.static yX5_isParty, Cond.initialized RX5, Cond.code yX5_isParty cX5_isParty 1 (some .boolean), Cond.methodLink RX5 216 yX0_run, Cond.instanceMethod yX0_run, Cond.selects RX0 yX0_run yX0_run, Cond.initialized RX0, Cond.code yX0_run cX0_run 5 none, Cond.fieldLink RX0 22 "CousinShares$Division" "trims" "I", Cond.fieldLink RX0 26 "CousinShares$Division" "grudgeTrims" "I", Cond.fieldLink RX0 42 "CousinShares$Division" "pieceSize" "I", Cond.fieldLink RX0 45 "CousinShares$Division" "holder" "I", Cond.fieldLink RX0 58 "CousinShares$Division" "lastCousin" "I", Cond.methodLink RX0 29 yX0_lineUp, Cond.instanceMethod yX0_lineUp, Cond.selects RX0 yX0_lineUp yX0_lineUp, Cond.code yX0_lineUp cX0_lineUp 3 none]
def wsX5_ifDivided_r2 : List Cond := [Cond.fieldLink RX0 18 "CousinShares$Division" "harvest" "LCousinShares$Harvest;", Cond.fieldLink RX0 15 "CousinShares$Division" "byOrder" "[I", Cond.methodLink RX0 61 yX1_isAhead, Cond.instanceMethod yX1_isAhead, Cond.selects RX1 yX1_isAhead yX1_isAhead, Cond.initialized RX1, Cond.code yX1_isAhead cX1_isAhead 5 (some .boolean), Cond.fieldLink RX1 24 "CousinShares$Harvest" "settings" "[I", Cond.methodLink RX1 54 yX1_grudgesOf, Cond.instanceMethod yX1_grudgesOf, Cond.selects RX1 yX1_grudgesOf yX1_grudgesOf, Cond.code yX1_grudgesOf cX1_grudgesOf 4 (some .int), Cond.fieldLink RX1 18 "CousinShares$Harvest" "grudges" "[I", Cond.methodLink RX0 32 yJ6_bitCount_0f7a4, Cond.static yJ6_bitCount_0f7a4, Cond.initialized RJ6, Cond.code yJ6_bitCount_0f7a4 cJ6_bitCount_0f7a4 1 (some .int), Cond.constant RJ6 265 (1431655765), Cond.constant RJ6 266 (858993459), Cond.constant RJ6 267 (252645135), Cond.methodLink RX0 38 yX0_cutAndTrim, Cond.instanceMethod yX0_cutAndTrim, Cond.selects RX0 yX0_cutAndTrim yX0_cutAndTrim, Cond.code yX0_cutAndTrim cX0_cutAndTrim 7 none]
def wsX5_ifDivided_r3 : List Cond := [Cond.static yX5_contains, Cond.code yX5_contains cX5_contains 2 (some .boolean), Cond.methodLink RX0 70 yX0_fairPiece, Cond.instanceMethod yX0_fairPiece, Cond.selects RX0 yX0_fairPiece yX0_fairPiece, Cond.code yX0_fairPiece cX0_fairPiece 7 (some .int), Cond.methodLink RX0 87 yX1_worthFrom, Cond.instanceMethod yX1_worthFrom, Cond.selects RX1 yX1_worthFrom yX1_worthFrom, Cond.code yX1_worthFrom cX1_worthFrom 5 (some .int), Cond.fieldLink RX1 27 "CousinShares$Harvest" "worths" "[I", Cond.methodLink RX0 90 yX1_worthOf, Cond.instanceMethod yX1_worthOf, Cond.selects RX1 yX1_worthOf yX1_worthOf, Cond.code yX1_worthOf cX1_worthOf 3 (some .int), Cond.methodLink RX0 74 yX0_hold, Cond.instanceMethod yX0_hold, Cond.selects RX0 yX0_hold yX0_hold, Cond.code yX0_hold cX0_hold 3 none, Cond.methodLink RX0 78 yX0_mayTrim, Cond.instanceMethod yX0_mayTrim, Cond.selects RX0 yX0_mayTrim yX0_mayTrim, Cond.code yX0_mayTrim cX0_mayTrim 3 none, Cond.fieldLink RX0 84 "CousinShares$Harvest" "settings" "[I"]
def wsX5_ifDivided_r4 : List Cond := [Cond.methodLink RX0 81 yX1_grudgeOf, Cond.instanceMethod yX1_grudgeOf, Cond.selects RX1 yX1_grudgeOf yX1_grudgeOf, Cond.code yX1_grudgeOf cX1_grudgeOf 3 (some .int), Cond.methodLink RX0 48 yX0_handOut, Cond.instanceMethod yX0_handOut, Cond.selects RX0 yX0_handOut yX0_handOut, Cond.code yX0_handOut cX0_handOut 5 none, Cond.fieldLink RX0 9 "CousinShares$Division" "owners" "[I", Cond.static yX5_without, Cond.code yX5_without cX5_without 2 (some .int), Cond.methodLink RX0 55 yX0_firstOf, Cond.instanceMethod yX0_firstOf, Cond.selects RX0 yX0_firstOf yX0_firstOf, Cond.code yX0_firstOf cX0_firstOf 3 (some .int), Cond.methodLink RX5 111 yX4_measure, Cond.instanceMethod yX4_measure, Cond.selects RX4 yX4_measure yX4_measure, Cond.initialized RX4, Cond.code yX4_measure cX4_measure 5 none, Cond.fieldLink RX4 9 "CousinShares$Shares" "worths" "[I", Cond.fieldLink RX4 15 "CousinShares$Shares" "harvest" "LCousinShares$Harvest;", Cond.static yX5_isCousin, Cond.code yX5_isCousin cX5_isCousin 1 (some .boolean)]
def wsX5_ifDivided_r5 : List Cond := [Cond.methodLink RX4 23 yX1_worthOf, Cond.methodLink RX5 122 yX4_enviesAmong, Cond.instanceMethod yX4_enviesAmong, Cond.selects RX4 yX4_enviesAmong yX4_enviesAmong, Cond.code yX4_enviesAmong cX4_enviesAmong 4 (some .int), Cond.methodLink RX4 48 yX4_enviesOf, Cond.instanceMethod yX4_enviesOf, Cond.selects RX4 yX4_enviesOf yX4_enviesOf, Cond.code yX4_enviesOf cX4_enviesOf 5 (some .int), Cond.methodLink RX4 45 yX4_envy, Cond.instanceMethod yX4_envy, Cond.selects RX4 yX4_envy yX4_envy, Cond.code yX4_envy cX4_envy 3 (some .int), Cond.methodLink RX4 36 Lib.Math.max.name, Cond.static Lib.Math.max.name, Cond.initialized "java/lang/Math", Cond.code Lib.Math.max.name Lib.Math.max.code 2 (some .int), Cond.methodLink RX4 32 yX4_seeming, Cond.instanceMethod yX4_seeming, Cond.selects RX4 yX4_seeming yX4_seeming, Cond.code yX4_seeming cX4_seeming 4 (some .int), Cond.fieldLink RX4 29 "CousinShares$Harvest" "grudges" "[I", Cond.methodLink RX4 35 yX4_worthOf, Cond.instanceMethod yX4_worthOf]
def wsX5_ifDivided_r6 : List Cond := [Cond.selects RX4 yX4_worthOf yX4_worthOf, Cond.code yX4_worthOf cX4_worthOf 3 (some .int)]
def wsX5_ifDivided : List Cond := .code yX5_ifDivided cX5_ifDivided 3 (some .int) :: ((wsX5_ifDivided_r1 ++ (wsX5_ifDivided_r2 ++ (wsX5_ifDivided_r3 ++ (wsX5_ifDivided_r4 ++ (wsX5_ifDivided_r5 ++ wsX5_ifDivided_r6))))) ++ wsX50 ++ wsX00 ++ wsX10 ++ wsX40)
def wsX5_bestTrade_r1 : List Cond := [Cond.fieldLink RX5 28 "CousinShares" "shares" "LCousinShares$Shares;", Cond.fieldLink RX5 12 "CousinShares" "now" "LCousinShares$Harvest;", Cond.fieldLink RX5 108 "CousinShares$Harvest" "owners" "[I", Cond.fieldLink RX5 130 "CousinShares$Shares" "bestFirst" "I", Cond.fieldLink RX5 133 "CousinShares$Shares" "bestSecond" "I", Cond.fieldLink RX5 224 "CousinShares$Shares" "bestSum" "I", Cond.methodLink RX5 111 yX4_measure, Cond.instanceMethod yX4_measure, Cond.selects RX4 yX4_measure yX4_measure, Cond.initialized RX4, Cond.code yX4_measure cX4_measure 5 none, Cond.fieldLink RX4 9 "CousinShares$Shares" "worths" "[I", Cond.fieldLink RX4 15 "CousinShares$Shares" "harvest" "LCousinShares$Harvest;", Cond.static yX5_isCousin, Cond.initialized RX5, Cond.code yX5_isCousin cX5_isCousin 1 (some .boolean), Cond.methodLink RX4 23 yX1_worthOf, Cond.instanceMethod yX1_worthOf, Cond.selects RX1 yX1_worthOf yX1_worthOf, Cond.initialized RX1, Cond.code yX1_worthOf cX1_worthOf 3 (some .int), Cond.fieldLink RX1 27 "CousinShares$Harvest" "worths" "[I", Cond.methodLink RX5 126 yX4_findBestTrade, Cond.instanceMethod yX4_findBestTrade]
def wsX5_bestTrade_r2 : List Cond := [Cond.selects RX4 yX4_findBestTrade yX4_findBestTrade, Cond.code yX4_findBestTrade cX4_findBestTrade 5 (some .boolean), Cond.fieldLink RX4 67 "CousinShares$Shares" "bestSum" "I", Cond.fieldLink RX4 71 "CousinShares$Shares" "bestFirst" "I", Cond.fieldLink RX4 74 "CousinShares$Shares" "bestSecond" "I", Cond.methodLink RX4 61 yX4_whyNoTrade, Cond.instanceMethod yX4_whyNoTrade, Cond.selects RX4 yX4_whyNoTrade yX4_whyNoTrade, Cond.code yX4_whyNoTrade cX4_whyNoTrade 4 (some .int), Cond.fieldLink RX4 55 "CousinShares$Harvest" "settings" "[I", Cond.methodLink RX4 58 yX1_grudgeOf, Cond.instanceMethod yX1_grudgeOf, Cond.selects RX1 yX1_grudgeOf yX1_grudgeOf, Cond.code yX1_grudgeOf cX1_grudgeOf 3 (some .int), Cond.fieldLink RX1 18 "CousinShares$Harvest" "grudges" "[I", Cond.methodLink RX4 35 yX4_worthOf, Cond.instanceMethod yX4_worthOf, Cond.selects RX4 yX4_worthOf yX4_worthOf, Cond.code yX4_worthOf cX4_worthOf 3 (some .int), Cond.methodLink RX4 64 yX4_enviesAfterTrade, Cond.instanceMethod yX4_enviesAfterTrade, Cond.selects RX4 yX4_enviesAfterTrade yX4_enviesAfterTrade, Cond.code yX4_enviesAfterTrade cX4_enviesAfterTrade 4 (some .int), Cond.methodLink RX4 77 yX4_exchange]
def wsX5_bestTrade_r3 : List Cond := [Cond.instanceMethod yX4_exchange, Cond.selects RX4 yX4_exchange yX4_exchange, Cond.code yX4_exchange cX4_exchange 5 none, Cond.methodLink RX4 81 yX4_enviesAmong, Cond.instanceMethod yX4_enviesAmong, Cond.selects RX4 yX4_enviesAmong yX4_enviesAmong, Cond.code yX4_enviesAmong cX4_enviesAmong 4 (some .int), Cond.static yX5_contains, Cond.code yX5_contains cX5_contains 2 (some .boolean), Cond.methodLink RX4 48 yX4_enviesOf, Cond.instanceMethod yX4_enviesOf, Cond.selects RX4 yX4_enviesOf yX4_enviesOf, Cond.code yX4_enviesOf cX4_enviesOf 5 (some .int), Cond.methodLink RX4 45 yX4_envy, Cond.instanceMethod yX4_envy, Cond.selects RX4 yX4_envy yX4_envy, Cond.code yX4_envy cX4_envy 3 (some .int), Cond.methodLink RX4 36 Lib.Math.max.name, Cond.static Lib.Math.max.name, Cond.initialized "java/lang/Math", Cond.code Lib.Math.max.name Lib.Math.max.code 2 (some .int), Cond.methodLink RX4 32 yX4_seeming, Cond.instanceMethod yX4_seeming, Cond.selects RX4 yX4_seeming yX4_seeming]
def wsX5_bestTrade_r4 : List Cond := [Cond.code yX4_seeming cX4_seeming 4 (some .int), Cond.fieldLink RX4 29 "CousinShares$Harvest" "grudges" "[I"]
def wsX5_bestTrade : List Cond := .code yX5_bestTrade cX5_bestTrade 2 (some .int) :: ((wsX5_bestTrade_r1 ++ (wsX5_bestTrade_r2 ++ (wsX5_bestTrade_r3 ++ wsX5_bestTrade_r4))) ++ wsX50 ++ wsX10 ++ wsX40)
def wsX5_enviesWithout_r1 : List Cond := [Cond.fieldLink RX5 21 "CousinShares" "division" "LCousinShares$Division;", Cond.fieldLink RX5 28 "CousinShares" "shares" "LCousinShares$Shares;", Cond.fieldLink RX5 220 "CousinShares$Division" "owners" "[I", Cond.methodLink RX5 240 yX5_without, Cond.static yX5_without, Cond.initialized RX5, Cond.code yX5_without cX5_without 2 (some .int), Cond.methodLink RX5 216 yX0_run, Cond.instanceMethod yX0_run, Cond.selects RX0 yX0_run yX0_run, Cond.initialized RX0, Cond.code yX0_run cX0_run 5 none, Cond.fieldLink RX0 22 "CousinShares$Division" "trims" "I", Cond.fieldLink RX0 26 "CousinShares$Division" "grudgeTrims" "I", Cond.fieldLink RX0 42 "CousinShares$Division" "pieceSize" "I", Cond.fieldLink RX0 45 "CousinShares$Division" "holder" "I", Cond.fieldLink RX0 58 "CousinShares$Division" "lastCousin" "I", Cond.methodLink RX0 29 yX0_lineUp, Cond.instanceMethod yX0_lineUp, Cond.selects RX0 yX0_lineUp yX0_lineUp, Cond.code yX0_lineUp cX0_lineUp 3 none, Cond.fieldLink RX0 18 "CousinShares$Division" "harvest" "LCousinShares$Harvest;", Cond.fieldLink RX0 15 "CousinShares$Division" "byOrder" "[I", Cond.methodLink RX0 61 yX1_isAhead]
def wsX5_enviesWithout_r2 : List Cond := [Cond.instanceMethod yX1_isAhead, Cond.selects RX1 yX1_isAhead yX1_isAhead, Cond.initialized RX1, Cond.code yX1_isAhead cX1_isAhead 5 (some .boolean), Cond.fieldLink RX1 24 "CousinShares$Harvest" "settings" "[I", Cond.methodLink RX1 54 yX1_grudgesOf, Cond.instanceMethod yX1_grudgesOf, Cond.selects RX1 yX1_grudgesOf yX1_grudgesOf, Cond.code yX1_grudgesOf cX1_grudgesOf 4 (some .int), Cond.fieldLink RX1 18 "CousinShares$Harvest" "grudges" "[I", Cond.methodLink RX0 32 yJ6_bitCount_0f7a4, Cond.static yJ6_bitCount_0f7a4, Cond.initialized RJ6, Cond.code yJ6_bitCount_0f7a4 cJ6_bitCount_0f7a4 1 (some .int), Cond.constant RJ6 265 (1431655765), Cond.constant RJ6 266 (858993459), Cond.constant RJ6 267 (252645135), Cond.methodLink RX0 38 yX0_cutAndTrim, Cond.instanceMethod yX0_cutAndTrim, Cond.selects RX0 yX0_cutAndTrim yX0_cutAndTrim, Cond.code yX0_cutAndTrim cX0_cutAndTrim 7 none, Cond.static yX5_contains, Cond.code yX5_contains cX5_contains 2 (some .boolean), Cond.methodLink RX0 70 yX0_fairPiece]
def wsX5_enviesWithout_r3 : List Cond := [Cond.instanceMethod yX0_fairPiece, Cond.selects RX0 yX0_fairPiece yX0_fairPiece, Cond.code yX0_fairPiece cX0_fairPiece 7 (some .int), Cond.methodLink RX0 87 yX1_worthFrom, Cond.instanceMethod yX1_worthFrom, Cond.selects RX1 yX1_worthFrom yX1_worthFrom, Cond.code yX1_worthFrom cX1_worthFrom 5 (some .int), Cond.fieldLink RX1 27 "CousinShares$Harvest" "worths" "[I", Cond.methodLink RX0 90 yX1_worthOf, Cond.instanceMethod yX1_worthOf, Cond.selects RX1 yX1_worthOf yX1_worthOf, Cond.code yX1_worthOf cX1_worthOf 3 (some .int), Cond.methodLink RX0 74 yX0_hold, Cond.instanceMethod yX0_hold, Cond.selects RX0 yX0_hold yX0_hold, Cond.code yX0_hold cX0_hold 3 none, Cond.methodLink RX0 78 yX0_mayTrim, Cond.instanceMethod yX0_mayTrim, Cond.selects RX0 yX0_mayTrim yX0_mayTrim, Cond.code yX0_mayTrim cX0_mayTrim 3 none, Cond.fieldLink RX0 84 "CousinShares$Harvest" "settings" "[I", Cond.methodLink RX0 81 yX1_grudgeOf, Cond.instanceMethod yX1_grudgeOf, Cond.selects RX1 yX1_grudgeOf yX1_grudgeOf]
def wsX5_enviesWithout_r4 : List Cond := [Cond.code yX1_grudgeOf cX1_grudgeOf 3 (some .int), Cond.methodLink RX0 48 yX0_handOut, Cond.instanceMethod yX0_handOut, Cond.selects RX0 yX0_handOut yX0_handOut, Cond.code yX0_handOut cX0_handOut 5 none, Cond.fieldLink RX0 9 "CousinShares$Division" "owners" "[I", Cond.methodLink RX0 55 yX0_firstOf, Cond.instanceMethod yX0_firstOf, Cond.selects RX0 yX0_firstOf yX0_firstOf, Cond.code yX0_firstOf cX0_firstOf 3 (some .int), Cond.methodLink RX5 111 yX4_measure, Cond.instanceMethod yX4_measure, Cond.selects RX4 yX4_measure yX4_measure, Cond.initialized RX4, Cond.code yX4_measure cX4_measure 5 none, Cond.fieldLink RX4 9 "CousinShares$Shares" "worths" "[I", Cond.fieldLink RX4 15 "CousinShares$Shares" "harvest" "LCousinShares$Harvest;", Cond.static yX5_isCousin, Cond.code yX5_isCousin cX5_isCousin 1 (some .boolean), Cond.methodLink RX4 23 yX1_worthOf, Cond.methodLink RX5 122 yX4_enviesAmong, Cond.instanceMethod yX4_enviesAmong, Cond.selects RX4 yX4_enviesAmong yX4_enviesAmong, Cond.code yX4_enviesAmong cX4_enviesAmong 4 (some .int)]
def wsX5_enviesWithout_r5 : List Cond := [Cond.methodLink RX4 48 yX4_enviesOf, Cond.instanceMethod yX4_enviesOf, Cond.selects RX4 yX4_enviesOf yX4_enviesOf, Cond.code yX4_enviesOf cX4_enviesOf 5 (some .int), Cond.methodLink RX4 45 yX4_envy, Cond.instanceMethod yX4_envy, Cond.selects RX4 yX4_envy yX4_envy, Cond.code yX4_envy cX4_envy 3 (some .int), Cond.methodLink RX4 36 Lib.Math.max.name, Cond.static Lib.Math.max.name, Cond.initialized "java/lang/Math", Cond.code Lib.Math.max.name Lib.Math.max.code 2 (some .int), Cond.methodLink RX4 32 yX4_seeming, Cond.instanceMethod yX4_seeming, Cond.selects RX4 yX4_seeming yX4_seeming, Cond.code yX4_seeming cX4_seeming 4 (some .int), Cond.fieldLink RX4 29 "CousinShares$Harvest" "grudges" "[I", Cond.methodLink RX4 35 yX4_worthOf, Cond.instanceMethod yX4_worthOf, Cond.selects RX4 yX4_worthOf yX4_worthOf, Cond.code yX4_worthOf cX4_worthOf 3 (some .int)]
def wsX5_enviesWithout : List Cond := .code yX5_enviesWithout cX5_enviesWithout 3 (some .int) :: ((wsX5_enviesWithout_r1 ++ (wsX5_enviesWithout_r2 ++ (wsX5_enviesWithout_r3 ++ (wsX5_enviesWithout_r4 ++ wsX5_enviesWithout_r5)))) ++ wsX50 ++ wsX00 ++ wsX10 ++ wsX40)
def wsX5_bestWithout_r1 : List Cond := [Cond.methodLink RX5 227 yX5_enviesWithout, Cond.instanceMethod yX5_enviesWithout, Cond.selects RX5 yX5_enviesWithout yX5_enviesWithout, Cond.initialized RX5, Cond.code yX5_enviesWithout cX5_enviesWithout 3 (some .int), Cond.fieldLink RX5 21 "CousinShares" "division" "LCousinShares$Division;", Cond.fieldLink RX5 28 "CousinShares" "shares" "LCousinShares$Shares;", Cond.fieldLink RX5 220 "CousinShares$Division" "owners" "[I", Cond.methodLink RX5 240 yX5_without, Cond.static yX5_without, Cond.code yX5_without cX5_without 2 (some .int), Cond.methodLink RX5 216 yX0_run, Cond.instanceMethod yX0_run, Cond.selects RX0 yX0_run yX0_run, Cond.initialized RX0, Cond.code yX0_run cX0_run 5 none, Cond.fieldLink RX0 22 "CousinShares$Division" "trims" "I", Cond.fieldLink RX0 26 "CousinShares$Division" "grudgeTrims" "I", Cond.fieldLink RX0 42 "CousinShares$Division" "pieceSize" "I", Cond.fieldLink RX0 45 "CousinShares$Division" "holder" "I", Cond.fieldLink RX0 58 "CousinShares$Division" "lastCousin" "I", Cond.methodLink RX0 29 yX0_lineUp, Cond.instanceMethod yX0_lineUp, Cond.selects RX0 yX0_lineUp yX0_lineUp]
def wsX5_bestWithout_r2 : List Cond := [Cond.code yX0_lineUp cX0_lineUp 3 none, Cond.fieldLink RX0 18 "CousinShares$Division" "harvest" "LCousinShares$Harvest;", Cond.fieldLink RX0 15 "CousinShares$Division" "byOrder" "[I", Cond.methodLink RX0 61 yX1_isAhead, Cond.instanceMethod yX1_isAhead, Cond.selects RX1 yX1_isAhead yX1_isAhead, Cond.initialized RX1, Cond.code yX1_isAhead cX1_isAhead 5 (some .boolean), Cond.fieldLink RX1 24 "CousinShares$Harvest" "settings" "[I", Cond.methodLink RX1 54 yX1_grudgesOf, Cond.instanceMethod yX1_grudgesOf, Cond.selects RX1 yX1_grudgesOf yX1_grudgesOf, Cond.code yX1_grudgesOf cX1_grudgesOf 4 (some .int), Cond.fieldLink RX1 18 "CousinShares$Harvest" "grudges" "[I", Cond.methodLink RX0 32 yJ6_bitCount_0f7a4, Cond.static yJ6_bitCount_0f7a4, Cond.initialized RJ6, Cond.code yJ6_bitCount_0f7a4 cJ6_bitCount_0f7a4 1 (some .int), Cond.constant RJ6 265 (1431655765), Cond.constant RJ6 266 (858993459), Cond.constant RJ6 267 (252645135), Cond.methodLink RX0 38 yX0_cutAndTrim, Cond.instanceMethod yX0_cutAndTrim, Cond.selects RX0 yX0_cutAndTrim yX0_cutAndTrim]
def wsX5_bestWithout_r3 : List Cond := [Cond.code yX0_cutAndTrim cX0_cutAndTrim 7 none, Cond.static yX5_contains, Cond.code yX5_contains cX5_contains 2 (some .boolean), Cond.methodLink RX0 70 yX0_fairPiece, Cond.instanceMethod yX0_fairPiece, Cond.selects RX0 yX0_fairPiece yX0_fairPiece, Cond.code yX0_fairPiece cX0_fairPiece 7 (some .int), Cond.methodLink RX0 87 yX1_worthFrom, Cond.instanceMethod yX1_worthFrom, Cond.selects RX1 yX1_worthFrom yX1_worthFrom, Cond.code yX1_worthFrom cX1_worthFrom 5 (some .int), Cond.fieldLink RX1 27 "CousinShares$Harvest" "worths" "[I", Cond.methodLink RX0 90 yX1_worthOf, Cond.instanceMethod yX1_worthOf, Cond.selects RX1 yX1_worthOf yX1_worthOf, Cond.code yX1_worthOf cX1_worthOf 3 (some .int), Cond.methodLink RX0 74 yX0_hold, Cond.instanceMethod yX0_hold, Cond.selects RX0 yX0_hold yX0_hold, Cond.code yX0_hold cX0_hold 3 none, Cond.methodLink RX0 78 yX0_mayTrim, Cond.instanceMethod yX0_mayTrim, Cond.selects RX0 yX0_mayTrim yX0_mayTrim, Cond.code yX0_mayTrim cX0_mayTrim 3 none]
def wsX5_bestWithout_r4 : List Cond := [Cond.fieldLink RX0 84 "CousinShares$Harvest" "settings" "[I", Cond.methodLink RX0 81 yX1_grudgeOf, Cond.instanceMethod yX1_grudgeOf, Cond.selects RX1 yX1_grudgeOf yX1_grudgeOf, Cond.code yX1_grudgeOf cX1_grudgeOf 3 (some .int), Cond.methodLink RX0 48 yX0_handOut, Cond.instanceMethod yX0_handOut, Cond.selects RX0 yX0_handOut yX0_handOut, Cond.code yX0_handOut cX0_handOut 5 none, Cond.fieldLink RX0 9 "CousinShares$Division" "owners" "[I", Cond.methodLink RX0 55 yX0_firstOf, Cond.instanceMethod yX0_firstOf, Cond.selects RX0 yX0_firstOf yX0_firstOf, Cond.code yX0_firstOf cX0_firstOf 3 (some .int), Cond.methodLink RX5 111 yX4_measure, Cond.instanceMethod yX4_measure, Cond.selects RX4 yX4_measure yX4_measure, Cond.initialized RX4, Cond.code yX4_measure cX4_measure 5 none, Cond.fieldLink RX4 9 "CousinShares$Shares" "worths" "[I", Cond.fieldLink RX4 15 "CousinShares$Shares" "harvest" "LCousinShares$Harvest;", Cond.static yX5_isCousin, Cond.code yX5_isCousin cX5_isCousin 1 (some .boolean), Cond.methodLink RX4 23 yX1_worthOf]
def wsX5_bestWithout_r5 : List Cond := [Cond.methodLink RX5 122 yX4_enviesAmong, Cond.instanceMethod yX4_enviesAmong, Cond.selects RX4 yX4_enviesAmong yX4_enviesAmong, Cond.code yX4_enviesAmong cX4_enviesAmong 4 (some .int), Cond.methodLink RX4 48 yX4_enviesOf, Cond.instanceMethod yX4_enviesOf, Cond.selects RX4 yX4_enviesOf yX4_enviesOf, Cond.code yX4_enviesOf cX4_enviesOf 5 (some .int), Cond.methodLink RX4 45 yX4_envy, Cond.instanceMethod yX4_envy, Cond.selects RX4 yX4_envy yX4_envy, Cond.code yX4_envy cX4_envy 3 (some .int), Cond.methodLink RX4 36 Lib.Math.max.name, Cond.static Lib.Math.max.name, Cond.initialized "java/lang/Math", Cond.code Lib.Math.max.name Lib.Math.max.code 2 (some .int), Cond.methodLink RX4 32 yX4_seeming, Cond.instanceMethod yX4_seeming, Cond.selects RX4 yX4_seeming yX4_seeming, Cond.code yX4_seeming cX4_seeming 4 (some .int), Cond.fieldLink RX4 29 "CousinShares$Harvest" "grudges" "[I", Cond.methodLink RX4 35 yX4_worthOf, Cond.instanceMethod yX4_worthOf, Cond.selects RX4 yX4_worthOf yX4_worthOf]
def wsX5_bestWithout_r6 : List Cond := [Cond.code yX4_worthOf cX4_worthOf 3 (some .int)]
def wsX5_bestWithout : List Cond := .code yX5_bestWithout cX5_bestWithout 6 (some .int) :: ((wsX5_bestWithout_r1 ++ (wsX5_bestWithout_r2 ++ (wsX5_bestWithout_r3 ++ (wsX5_bestWithout_r4 ++ (wsX5_bestWithout_r5 ++ wsX5_bestWithout_r6))))) ++ wsX50 ++ wsX00 ++ wsX10 ++ wsX40)
def wsX6_init : List Cond := .code yX6_init cX6_init 2 none :: ([.methodLink RX6 1 objectInit, .instanceMethod objectInit, .code objectInit ⟨#[0xb1]⟩ 1 none, .arrayClass .int, .fieldLink RX6 7 "CousinSharesModel" "s" "[I", .fieldLink RX6 13 "CousinSharesModel" "past" "[I", .fieldLink RX6 16 "CousinSharesModel" "snap" "[I", .fieldLink RX6 19 "CousinSharesModel" "text" "[I", .fieldLink RX6 22 "CousinSharesModel" "order" "[I"] ++ wsX60)
def wsX6_in : List Cond := .code yX6_in cX6_in 3 (some .boolean) :: ([])
def wsX6_isPlot : List Cond := .code yX6_isPlot cX6_isPlot 1 (some .boolean) :: ([.methodLink RX6 25 yX6_in, .static yX6_in, .initialized RX6, .code yX6_in cX6_in 3 (some .boolean)])
def wsX6_isCrop : List Cond := .code yX6_isCrop cX6_isCrop 1 (some .boolean) :: ([.methodLink RX6 25 yX6_in, .static yX6_in, .initialized RX6, .code yX6_in cX6_in 3 (some .boolean)])
def wsX6_isCousin : List Cond := .code yX6_isCousin cX6_isCousin 1 (some .boolean) :: ([.methodLink RX6 25 yX6_in, .static yX6_in, .initialized RX6, .code yX6_in cX6_in 3 (some .boolean)])
def wsX6_remembers : List Cond := .code yX6_remembers cX6_remembers 2 none :: ([.fieldLink RX6 29 "CousinSharesModel" "known" "I", .fieldLink RX6 13 "CousinSharesModel" "past" "[I", .fieldLink RX6 7 "CousinSharesModel" "s" "[I"] ++ wsX60)
def wsX6_copies : List Cond := .code yX6_copies cX6_copies 2 none :: ([.fieldLink RX6 7 "CousinSharesModel" "s" "[I"] ++ wsX60)
def wsX6_worth : List Cond := .code yX6_worth cX6_worth 5 (some .int) :: ([.fieldLink RX6 7 "CousinSharesModel" "s" "[I"] ++ wsX60)
def wsX6_worthFrom : List Cond := .code yX6_worthFrom cX6_worthFrom 5 (some .int) :: ([.methodLink RX6 33 yX6_worth, .instanceMethod yX6_worth, .selects RX6 yX6_worth yX6_worth, .initialized RX6, .code yX6_worth cX6_worth 5 (some .int), .fieldLink RX6 7 "CousinSharesModel" "s" "[I"] ++ wsX60)
def wsX6_share : List Cond := .code yX6_share cX6_share 6 (some .int) :: ([.fieldLink RX6 7 "CousinSharesModel" "s" "[I", .methodLink RX6 33 yX6_worth, .instanceMethod yX6_worth, .selects RX6 yX6_worth yX6_worth, .initialized RX6, .code yX6_worth cX6_worth 5 (some .int)] ++ wsX60)
def wsX6_grudgeOf : List Cond := .code yX6_grudgeOf cX6_grudgeOf 3 (some .int) :: ([.fieldLink RX6 7 "CousinSharesModel" "s" "[I"] ++ wsX60)
def wsX6_seems : List Cond := .code yX6_seems cX6_seems 4 (some .int) :: ([.methodLink RX6 37 yX6_share, .instanceMethod yX6_share, .selects RX6 yX6_share yX6_share, .initialized RX6, .code yX6_share cX6_share 6 (some .int), .fieldLink RX6 7 "CousinSharesModel" "s" "[I", .methodLink RX6 33 yX6_worth, .instanceMethod yX6_worth, .selects RX6 yX6_worth yX6_worth, .code yX6_worth cX6_worth 5 (some .int), .methodLink RX6 41 yX6_grudgeOf, .instanceMethod yX6_grudgeOf, .selects RX6 yX6_grudgeOf yX6_grudgeOf, .code yX6_grudgeOf cX6_grudgeOf 3 (some .int)] ++ wsX60)
def wsX6_envy : List Cond := .code yX6_envy cX6_envy 5 (some .int) :: ([.methodLink RX6 44 yX6_seems, .instanceMethod yX6_seems, .selects RX6 yX6_seems yX6_seems, .initialized RX6, .code yX6_seems cX6_seems 4 (some .int), .methodLink RX6 37 yX6_share, .instanceMethod yX6_share, .selects RX6 yX6_share yX6_share, .code yX6_share cX6_share 6 (some .int), .fieldLink RX6 7 "CousinSharesModel" "s" "[I", .methodLink RX6 33 yX6_worth, .instanceMethod yX6_worth, .selects RX6 yX6_worth yX6_worth, .code yX6_worth cX6_worth 5 (some .int), .methodLink RX6 41 yX6_grudgeOf, .instanceMethod yX6_grudgeOf, .selects RX6 yX6_grudgeOf yX6_grudgeOf, .code yX6_grudgeOf cX6_grudgeOf 3 (some .int)] ++ wsX60)
def wsX6_envies : List Cond := .code yX6_envies cX6_envies 7 (some .int) :: ([.methodLink RX6 47 yX6_envy, .instanceMethod yX6_envy, .selects RX6 yX6_envy yX6_envy, .initialized RX6, .code yX6_envy cX6_envy 5 (some .int), .methodLink RX6 44 yX6_seems, .instanceMethod yX6_seems, .selects RX6 yX6_seems yX6_seems, .code yX6_seems cX6_seems 4 (some .int), .methodLink RX6 37 yX6_share, .instanceMethod yX6_share, .selects RX6 yX6_share yX6_share, .code yX6_share cX6_share 6 (some .int), .fieldLink RX6 7 "CousinSharesModel" "s" "[I", .methodLink RX6 33 yX6_worth, .instanceMethod yX6_worth, .selects RX6 yX6_worth yX6_worth, .code yX6_worth cX6_worth 5 (some .int), .methodLink RX6 41 yX6_grudgeOf, .instanceMethod yX6_grudgeOf, .selects RX6 yX6_grudgeOf yX6_grudgeOf, .code yX6_grudgeOf cX6_grudgeOf 3 (some .int)] ++ wsX60)
def wsX6_allEnvies_r1 : List Cond := [Cond.methodLink RX6 50 yX6_envies, Cond.instanceMethod yX6_envies, Cond.selects RX6 yX6_envies yX6_envies, Cond.initialized RX6, Cond.code yX6_envies cX6_envies 7 (some .int), Cond.methodLink RX6 47 yX6_envy, Cond.instanceMethod yX6_envy, Cond.selects RX6 yX6_envy yX6_envy, Cond.code yX6_envy cX6_envy 5 (some .int), Cond.methodLink RX6 44 yX6_seems, Cond.instanceMethod yX6_seems, Cond.selects RX6 yX6_seems yX6_seems, Cond.code yX6_seems cX6_seems 4 (some .int), Cond.methodLink RX6 37 yX6_share, Cond.instanceMethod yX6_share, Cond.selects RX6 yX6_share yX6_share, Cond.code yX6_share cX6_share 6 (some .int), Cond.fieldLink RX6 7 "CousinSharesModel" "s" "[I", Cond.methodLink RX6 33 yX6_worth, Cond.instanceMethod yX6_worth, Cond.selects RX6 yX6_worth yX6_worth, Cond.code yX6_worth cX6_worth 5 (some .int), Cond.methodLink RX6 41 yX6_grudgeOf, Cond.instanceMethod yX6_grudgeOf]
def wsX6_allEnvies_r2 : List Cond := [Cond.selects RX6 yX6_grudgeOf yX6_grudgeOf, Cond.code yX6_grudgeOf cX6_grudgeOf 3 (some .int)]
def wsX6_allEnvies : List Cond := .code yX6_allEnvies cX6_allEnvies 2 (some .int) :: ((wsX6_allEnvies_r1 ++ wsX6_allEnvies_r2) ++ wsX60)
def wsX6_grudges : List Cond := .code yX6_grudges cX6_grudges 4 (some .int) :: ([.methodLink RX6 41 yX6_grudgeOf, .instanceMethod yX6_grudgeOf, .selects RX6 yX6_grudgeOf yX6_grudgeOf, .initialized RX6, .code yX6_grudgeOf cX6_grudgeOf 3 (some .int), .fieldLink RX6 7 "CousinSharesModel" "s" "[I"] ++ wsX60)
def wsX6_isAhead : List Cond := .code yX6_isAhead cX6_isAhead 4 (some .boolean) :: ([.fieldLink RX6 7 "CousinSharesModel" "s" "[I", .methodLink RX6 53 yX6_grudges, .instanceMethod yX6_grudges, .selects RX6 yX6_grudges yX6_grudges, .initialized RX6, .code yX6_grudges cX6_grudges 4 (some .int), .methodLink RX6 41 yX6_grudgeOf, .instanceMethod yX6_grudgeOf, .selects RX6 yX6_grudgeOf yX6_grudgeOf, .code yX6_grudgeOf cX6_grudgeOf 3 (some .int)] ++ wsX60)
def wsX6_placeOf : List Cond := .code yX6_placeOf cX6_placeOf 4 (some .int) :: ([.methodLink RX6 57 yX6_isAhead, .instanceMethod yX6_isAhead, .selects RX6 yX6_isAhead yX6_isAhead, .initialized RX6, .code yX6_isAhead cX6_isAhead 4 (some .boolean), .fieldLink RX6 7 "CousinSharesModel" "s" "[I", .methodLink RX6 53 yX6_grudges, .instanceMethod yX6_grudges, .selects RX6 yX6_grudges yX6_grudges, .code yX6_grudges cX6_grudges 4 (some .int), .methodLink RX6 41 yX6_grudgeOf, .instanceMethod yX6_grudgeOf, .selects RX6 yX6_grudgeOf yX6_grudgeOf, .code yX6_grudgeOf cX6_grudgeOf 3 (some .int)] ++ wsX60)
def wsX6_orders : List Cond := .code yX6_orders cX6_orders 2 none :: ([.fieldLink RX6 22 "CousinSharesModel" "order" "[I", .methodLink RX6 61 yX6_placeOf, .instanceMethod yX6_placeOf, .selects RX6 yX6_placeOf yX6_placeOf, .initialized RX6, .code yX6_placeOf cX6_placeOf 4 (some .int), .methodLink RX6 57 yX6_isAhead, .instanceMethod yX6_isAhead, .selects RX6 yX6_isAhead yX6_isAhead, .code yX6_isAhead cX6_isAhead 4 (some .boolean), .fieldLink RX6 7 "CousinSharesModel" "s" "[I", .methodLink RX6 53 yX6_grudges, .instanceMethod yX6_grudges, .selects RX6 yX6_grudges yX6_grudges, .code yX6_grudges cX6_grudges 4 (some .int), .methodLink RX6 41 yX6_grudgeOf, .instanceMethod yX6_grudgeOf, .selects RX6 yX6_grudgeOf yX6_grudgeOf, .code yX6_grudgeOf cX6_grudgeOf 3 (some .int)] ++ wsX60)
def wsX6_ones : List Cond := .code yX6_ones cX6_ones 3 (some .int) :: ([])
def wsX6_fair : List Cond := .code yX6_fair cX6_fair 7 (some .int) :: ([.methodLink RX6 64 yX6_worthFrom, .instanceMethod yX6_worthFrom, .selects RX6 yX6_worthFrom yX6_worthFrom, .initialized RX6, .code yX6_worthFrom cX6_worthFrom 5 (some .int), .methodLink RX6 33 yX6_worth, .instanceMethod yX6_worth, .selects RX6 yX6_worth yX6_worth, .code yX6_worth cX6_worth 5 (some .int), .fieldLink RX6 7 "CousinSharesModel" "s" "[I"] ++ wsX60)
def wsX6_round : List Cond := .code yX6_round cX6_round 13 (some .int) :: ([.fieldLink RX6 22 "CousinSharesModel" "order" "[I", .fieldLink RX6 7 "CousinSharesModel" "s" "[I", .methodLink RX6 67 yX6_ones, .static yX6_ones, .initialized RX6, .code yX6_ones cX6_ones 3 (some .int), .methodLink RX6 70 yX6_fair, .instanceMethod yX6_fair, .selects RX6 yX6_fair yX6_fair, .code yX6_fair cX6_fair 7 (some .int), .methodLink RX6 64 yX6_worthFrom, .instanceMethod yX6_worthFrom, .selects RX6 yX6_worthFrom yX6_worthFrom, .code yX6_worthFrom cX6_worthFrom 5 (some .int), .methodLink RX6 33 yX6_worth, .instanceMethod yX6_worth, .selects RX6 yX6_worth yX6_worth, .code yX6_worth cX6_worth 5 (some .int), .methodLink RX6 41 yX6_grudgeOf, .instanceMethod yX6_grudgeOf, .selects RX6 yX6_grudgeOf yX6_grudgeOf, .code yX6_grudgeOf cX6_grudgeOf 3 (some .int)] ++ wsX60)
def wsX6_gets : List Cond := .code yX6_gets cX6_gets 6 none :: ([.fieldLink RX6 7 "CousinSharesModel" "s" "[I"] ++ wsX60)
def wsX6_divides_r1 : List Cond := [Cond.fieldLink RX6 7 "CousinSharesModel" "s" "[I", Cond.fieldLink RX6 83 "CousinSharesModel" "lastOne" "I", Cond.methodLink RX6 73 yX6_orders, Cond.instanceMethod yX6_orders, Cond.selects RX6 yX6_orders yX6_orders, Cond.initialized RX6, Cond.code yX6_orders cX6_orders 2 none, Cond.fieldLink RX6 22 "CousinSharesModel" "order" "[I", Cond.methodLink RX6 61 yX6_placeOf, Cond.instanceMethod yX6_placeOf, Cond.selects RX6 yX6_placeOf yX6_placeOf, Cond.code yX6_placeOf cX6_placeOf 4 (some .int), Cond.methodLink RX6 57 yX6_isAhead, Cond.instanceMethod yX6_isAhead, Cond.selects RX6 yX6_isAhead yX6_isAhead, Cond.code yX6_isAhead cX6_isAhead 4 (some .boolean), Cond.methodLink RX6 53 yX6_grudges, Cond.instanceMethod yX6_grudges, Cond.selects RX6 yX6_grudges yX6_grudges, Cond.code yX6_grudges cX6_grudges 4 (some .int), Cond.methodLink RX6 41 yX6_grudgeOf, Cond.instanceMethod yX6_grudgeOf, Cond.selects RX6 yX6_grudgeOf yX6_grudgeOf, Cond.code yX6_grudgeOf cX6_grudgeOf 3 (some .int)]
def wsX6_divides_r2 : List Cond := [Cond.methodLink RX6 67 yX6_ones, Cond.static yX6_ones, Cond.code yX6_ones cX6_ones 3 (some .int), Cond.methodLink RX6 76 yX6_round, Cond.instanceMethod yX6_round, Cond.selects RX6 yX6_round yX6_round, Cond.code yX6_round cX6_round 13 (some .int), Cond.methodLink RX6 70 yX6_fair, Cond.instanceMethod yX6_fair, Cond.selects RX6 yX6_fair yX6_fair, Cond.code yX6_fair cX6_fair 7 (some .int), Cond.methodLink RX6 64 yX6_worthFrom, Cond.instanceMethod yX6_worthFrom, Cond.selects RX6 yX6_worthFrom yX6_worthFrom, Cond.code yX6_worthFrom cX6_worthFrom 5 (some .int), Cond.methodLink RX6 33 yX6_worth, Cond.instanceMethod yX6_worth, Cond.selects RX6 yX6_worth yX6_worth, Cond.code yX6_worth cX6_worth 5 (some .int), Cond.methodLink RX6 79 yX6_gets, Cond.instanceMethod yX6_gets, Cond.selects RX6 yX6_gets yX6_gets, Cond.code yX6_gets cX6_gets 6 none]
def wsX6_divides : List Cond := .code yX6_divides cX6_divides 7 (some .int) :: ((wsX6_divides_r1 ++ wsX6_divides_r2) ++ wsX60)
def wsX6_reason : List Cond := .code yX6_reason cX6_reason 7 (some .int) :: ([.fieldLink RX6 7 "CousinSharesModel" "s" "[I", .methodLink RX6 41 yX6_grudgeOf, .instanceMethod yX6_grudgeOf, .selects RX6 yX6_grudgeOf yX6_grudgeOf, .initialized RX6, .code yX6_grudgeOf cX6_grudgeOf 3 (some .int), .methodLink RX6 37 yX6_share, .instanceMethod yX6_share, .selects RX6 yX6_share yX6_share, .code yX6_share cX6_share 6 (some .int), .methodLink RX6 33 yX6_worth, .instanceMethod yX6_worth, .selects RX6 yX6_worth yX6_worth, .code yX6_worth cX6_worth 5 (some .int)] ++ wsX60)
def wsX6_trades : List Cond := .code yX6_trades cX6_trades 6 none :: ([.fieldLink RX6 7 "CousinSharesModel" "s" "[I"] ++ wsX60)
def wsX6_best_r1 : List Cond := [Cond.methodLink RX6 86 yX6_reason, Cond.instanceMethod yX6_reason, Cond.selects RX6 yX6_reason yX6_reason, Cond.initialized RX6, Cond.code yX6_reason cX6_reason 7 (some .int), Cond.fieldLink RX6 7 "CousinSharesModel" "s" "[I", Cond.methodLink RX6 41 yX6_grudgeOf, Cond.instanceMethod yX6_grudgeOf, Cond.selects RX6 yX6_grudgeOf yX6_grudgeOf, Cond.code yX6_grudgeOf cX6_grudgeOf 3 (some .int), Cond.methodLink RX6 37 yX6_share, Cond.instanceMethod yX6_share, Cond.selects RX6 yX6_share yX6_share, Cond.code yX6_share cX6_share 6 (some .int), Cond.methodLink RX6 33 yX6_worth, Cond.instanceMethod yX6_worth, Cond.selects RX6 yX6_worth yX6_worth, Cond.code yX6_worth cX6_worth 5 (some .int), Cond.methodLink RX6 89 yX6_trades, Cond.instanceMethod yX6_trades, Cond.selects RX6 yX6_trades yX6_trades, Cond.code yX6_trades cX6_trades 6 none, Cond.methodLink RX6 93 yX6_allEnvies, Cond.instanceMethod yX6_allEnvies]
def wsX6_best_r2 : List Cond := [Cond.selects RX6 yX6_allEnvies yX6_allEnvies, Cond.code yX6_allEnvies cX6_allEnvies 2 (some .int), Cond.methodLink RX6 50 yX6_envies, Cond.instanceMethod yX6_envies, Cond.selects RX6 yX6_envies yX6_envies, Cond.code yX6_envies cX6_envies 7 (some .int), Cond.methodLink RX6 47 yX6_envy, Cond.instanceMethod yX6_envy, Cond.selects RX6 yX6_envy yX6_envy, Cond.code yX6_envy cX6_envy 5 (some .int), Cond.methodLink RX6 44 yX6_seems, Cond.instanceMethod yX6_seems, Cond.selects RX6 yX6_seems yX6_seems, Cond.code yX6_seems cX6_seems 4 (some .int)]
def wsX6_best : List Cond := .code yX6_best cX6_best 8 (some .int) :: ((wsX6_best_r1 ++ wsX6_best_r2) ++ wsX60)
def wsX6_settles_r1 : List Cond := [Cond.fieldLink RX6 7 "CousinSharesModel" "s" "[I", Cond.methodLink RX6 96 yX6_best, Cond.instanceMethod yX6_best, Cond.selects RX6 yX6_best yX6_best, Cond.initialized RX6, Cond.code yX6_best cX6_best 8 (some .int), Cond.methodLink RX6 86 yX6_reason, Cond.instanceMethod yX6_reason, Cond.selects RX6 yX6_reason yX6_reason, Cond.code yX6_reason cX6_reason 7 (some .int), Cond.methodLink RX6 41 yX6_grudgeOf, Cond.instanceMethod yX6_grudgeOf, Cond.selects RX6 yX6_grudgeOf yX6_grudgeOf, Cond.code yX6_grudgeOf cX6_grudgeOf 3 (some .int), Cond.methodLink RX6 37 yX6_share, Cond.instanceMethod yX6_share, Cond.selects RX6 yX6_share yX6_share, Cond.code yX6_share cX6_share 6 (some .int), Cond.methodLink RX6 33 yX6_worth, Cond.instanceMethod yX6_worth, Cond.selects RX6 yX6_worth yX6_worth, Cond.code yX6_worth cX6_worth 5 (some .int), Cond.methodLink RX6 89 yX6_trades, Cond.instanceMethod yX6_trades]
def wsX6_settles_r2 : List Cond := [Cond.selects RX6 yX6_trades yX6_trades, Cond.code yX6_trades cX6_trades 6 none, Cond.methodLink RX6 93 yX6_allEnvies, Cond.instanceMethod yX6_allEnvies, Cond.selects RX6 yX6_allEnvies yX6_allEnvies, Cond.code yX6_allEnvies cX6_allEnvies 2 (some .int), Cond.methodLink RX6 50 yX6_envies, Cond.instanceMethod yX6_envies, Cond.selects RX6 yX6_envies yX6_envies, Cond.code yX6_envies cX6_envies 7 (some .int), Cond.methodLink RX6 47 yX6_envy, Cond.instanceMethod yX6_envy, Cond.selects RX6 yX6_envy yX6_envy, Cond.code yX6_envy cX6_envy 5 (some .int), Cond.methodLink RX6 44 yX6_seems, Cond.instanceMethod yX6_seems, Cond.selects RX6 yX6_seems yX6_seems, Cond.code yX6_seems cX6_seems 4 (some .int)]
def wsX6_settles : List Cond := .code yX6_settles cX6_settles 4 (some .int) :: ((wsX6_settles_r1 ++ wsX6_settles_r2) ++ wsX60)
def wsX6_changes : List Cond := .code yX6_changes cX6_changes 4 (some .int) :: ([.fieldLink RX6 7 "CousinSharesModel" "s" "[I", .methodLink RX6 99 yX6_remembers, .instanceMethod yX6_remembers, .selects RX6 yX6_remembers yX6_remembers, .initialized RX6, .code yX6_remembers cX6_remembers 2 none, .fieldLink RX6 29 "CousinSharesModel" "known" "I", .fieldLink RX6 13 "CousinSharesModel" "past" "[I"] ++ wsX60)
def wsX6_plant : List Cond := .code yX6_plant cX6_plant 4 (some .int) :: ([.methodLink RX6 102 yX6_isPlot, .static yX6_isPlot, .initialized RX6, .code yX6_isPlot cX6_isPlot 1 (some .boolean), .methodLink RX6 25 yX6_in, .static yX6_in, .code yX6_in cX6_in 3 (some .boolean), .methodLink RX6 106 yX6_isCrop, .static yX6_isCrop, .code yX6_isCrop cX6_isCrop 1 (some .boolean), .methodLink RX6 109 yX6_changes, .instanceMethod yX6_changes, .selects RX6 yX6_changes yX6_changes, .code yX6_changes cX6_changes 4 (some .int), .fieldLink RX6 7 "CousinSharesModel" "s" "[I", .methodLink RX6 99 yX6_remembers, .instanceMethod yX6_remembers, .selects RX6 yX6_remembers yX6_remembers, .code yX6_remembers cX6_remembers 2 none, .fieldLink RX6 29 "CousinSharesModel" "known" "I", .fieldLink RX6 13 "CousinSharesModel" "past" "[I"] ++ wsX60)
def wsX6_weigh : List Cond := .code yX6_weigh cX6_weigh 4 (some .int) :: ([.methodLink RX6 112 yX6_isCousin, .static yX6_isCousin, .initialized RX6, .code yX6_isCousin cX6_isCousin 1 (some .boolean), .methodLink RX6 25 yX6_in, .static yX6_in, .code yX6_in cX6_in 3 (some .boolean), .methodLink RX6 106 yX6_isCrop, .static yX6_isCrop, .code yX6_isCrop cX6_isCrop 1 (some .boolean), .methodLink RX6 109 yX6_changes, .instanceMethod yX6_changes, .selects RX6 yX6_changes yX6_changes, .code yX6_changes cX6_changes 4 (some .int), .fieldLink RX6 7 "CousinSharesModel" "s" "[I", .methodLink RX6 99 yX6_remembers, .instanceMethod yX6_remembers, .selects RX6 yX6_remembers yX6_remembers, .code yX6_remembers cX6_remembers 2 none, .fieldLink RX6 29 "CousinSharesModel" "known" "I", .fieldLink RX6 13 "CousinSharesModel" "past" "[I"] ++ wsX60)
def wsX6_grudge : List Cond := .code yX6_grudge cX6_grudge 4 (some .int) :: ([.methodLink RX6 112 yX6_isCousin, .static yX6_isCousin, .initialized RX6, .code yX6_isCousin cX6_isCousin 1 (some .boolean), .methodLink RX6 25 yX6_in, .static yX6_in, .code yX6_in cX6_in 3 (some .boolean), .methodLink RX6 109 yX6_changes, .instanceMethod yX6_changes, .selects RX6 yX6_changes yX6_changes, .code yX6_changes cX6_changes 4 (some .int), .fieldLink RX6 7 "CousinSharesModel" "s" "[I", .methodLink RX6 99 yX6_remembers, .instanceMethod yX6_remembers, .selects RX6 yX6_remembers yX6_remembers, .code yX6_remembers cX6_remembers 2 none, .fieldLink RX6 29 "CousinSharesModel" "known" "I", .fieldLink RX6 13 "CousinSharesModel" "past" "[I"] ++ wsX60)
def wsX6_set : List Cond := .code yX6_set cX6_set 4 (some .int) :: ([.methodLink RX6 25 yX6_in, .static yX6_in, .initialized RX6, .code yX6_in cX6_in 3 (some .boolean), .methodLink RX6 109 yX6_changes, .instanceMethod yX6_changes, .selects RX6 yX6_changes yX6_changes, .code yX6_changes cX6_changes 4 (some .int), .fieldLink RX6 7 "CousinSharesModel" "s" "[I", .methodLink RX6 99 yX6_remembers, .instanceMethod yX6_remembers, .selects RX6 yX6_remembers yX6_remembers, .code yX6_remembers cX6_remembers 2 none, .fieldLink RX6 29 "CousinSharesModel" "known" "I", .fieldLink RX6 13 "CousinSharesModel" "past" "[I"] ++ wsX60)
def wsX6_divide_r1 : List Cond := [Cond.methodLink RX6 25 yX6_in, Cond.static yX6_in, Cond.initialized RX6, Cond.code yX6_in cX6_in 3 (some .boolean), Cond.methodLink RX6 99 yX6_remembers, Cond.instanceMethod yX6_remembers, Cond.selects RX6 yX6_remembers yX6_remembers, Cond.code yX6_remembers cX6_remembers 2 none, Cond.fieldLink RX6 29 "CousinSharesModel" "known" "I", Cond.fieldLink RX6 13 "CousinSharesModel" "past" "[I", Cond.fieldLink RX6 7 "CousinSharesModel" "s" "[I", Cond.methodLink RX6 115 yX6_divides, Cond.instanceMethod yX6_divides, Cond.selects RX6 yX6_divides yX6_divides, Cond.code yX6_divides cX6_divides 7 (some .int), Cond.fieldLink RX6 83 "CousinSharesModel" "lastOne" "I", Cond.methodLink RX6 73 yX6_orders, Cond.instanceMethod yX6_orders, Cond.selects RX6 yX6_orders yX6_orders, Cond.code yX6_orders cX6_orders 2 none, Cond.fieldLink RX6 22 "CousinSharesModel" "order" "[I", Cond.methodLink RX6 61 yX6_placeOf, Cond.instanceMethod yX6_placeOf, Cond.selects RX6 yX6_placeOf yX6_placeOf]
def wsX6_divide_r2 : List Cond := [Cond.code yX6_placeOf cX6_placeOf 4 (some .int), Cond.methodLink RX6 57 yX6_isAhead, Cond.instanceMethod yX6_isAhead, Cond.selects RX6 yX6_isAhead yX6_isAhead, Cond.code yX6_isAhead cX6_isAhead 4 (some .boolean), Cond.methodLink RX6 53 yX6_grudges, Cond.instanceMethod yX6_grudges, Cond.selects RX6 yX6_grudges yX6_grudges, Cond.code yX6_grudges cX6_grudges 4 (some .int), Cond.methodLink RX6 41 yX6_grudgeOf, Cond.instanceMethod yX6_grudgeOf, Cond.selects RX6 yX6_grudgeOf yX6_grudgeOf, Cond.code yX6_grudgeOf cX6_grudgeOf 3 (some .int), Cond.methodLink RX6 67 yX6_ones, Cond.static yX6_ones, Cond.code yX6_ones cX6_ones 3 (some .int), Cond.methodLink RX6 76 yX6_round, Cond.instanceMethod yX6_round, Cond.selects RX6 yX6_round yX6_round, Cond.code yX6_round cX6_round 13 (some .int), Cond.methodLink RX6 70 yX6_fair, Cond.instanceMethod yX6_fair, Cond.selects RX6 yX6_fair yX6_fair, Cond.code yX6_fair cX6_fair 7 (some .int)]
def wsX6_divide_r3 : List Cond := [Cond.methodLink RX6 64 yX6_worthFrom, Cond.instanceMethod yX6_worthFrom, Cond.selects RX6 yX6_worthFrom yX6_worthFrom, Cond.code yX6_worthFrom cX6_worthFrom 5 (some .int), Cond.methodLink RX6 33 yX6_worth, Cond.instanceMethod yX6_worth, Cond.selects RX6 yX6_worth yX6_worth, Cond.code yX6_worth cX6_worth 5 (some .int), Cond.methodLink RX6 79 yX6_gets, Cond.instanceMethod yX6_gets, Cond.selects RX6 yX6_gets yX6_gets, Cond.code yX6_gets cX6_gets 6 none]
def wsX6_divide : List Cond := .code yX6_divide cX6_divide 2 (some .int) :: ((wsX6_divide_r1 ++ (wsX6_divide_r2 ++ wsX6_divide_r3)) ++ wsX60)
def wsX6_give : List Cond := .code yX6_give cX6_give 3 (some .int) :: ([.methodLink RX6 102 yX6_isPlot, .static yX6_isPlot, .initialized RX6, .code yX6_isPlot cX6_isPlot 1 (some .boolean), .methodLink RX6 25 yX6_in, .static yX6_in, .code yX6_in cX6_in 3 (some .boolean), .methodLink RX6 109 yX6_changes, .instanceMethod yX6_changes, .selects RX6 yX6_changes yX6_changes, .code yX6_changes cX6_changes 4 (some .int), .fieldLink RX6 7 "CousinSharesModel" "s" "[I", .methodLink RX6 99 yX6_remembers, .instanceMethod yX6_remembers, .selects RX6 yX6_remembers yX6_remembers, .code yX6_remembers cX6_remembers 2 none, .fieldLink RX6 29 "CousinSharesModel" "known" "I", .fieldLink RX6 13 "CousinSharesModel" "past" "[I"] ++ wsX60)
def wsX6_trade_r1 : List Cond := [Cond.fieldLink RX6 7 "CousinSharesModel" "s" "[I", Cond.methodLink RX6 112 yX6_isCousin, Cond.static yX6_isCousin, Cond.initialized RX6, Cond.code yX6_isCousin cX6_isCousin 1 (some .boolean), Cond.methodLink RX6 25 yX6_in, Cond.static yX6_in, Cond.code yX6_in cX6_in 3 (some .boolean), Cond.methodLink RX6 86 yX6_reason, Cond.instanceMethod yX6_reason, Cond.selects RX6 yX6_reason yX6_reason, Cond.code yX6_reason cX6_reason 7 (some .int), Cond.methodLink RX6 41 yX6_grudgeOf, Cond.instanceMethod yX6_grudgeOf, Cond.selects RX6 yX6_grudgeOf yX6_grudgeOf, Cond.code yX6_grudgeOf cX6_grudgeOf 3 (some .int), Cond.methodLink RX6 37 yX6_share, Cond.instanceMethod yX6_share, Cond.selects RX6 yX6_share yX6_share, Cond.code yX6_share cX6_share 6 (some .int), Cond.methodLink RX6 33 yX6_worth, Cond.instanceMethod yX6_worth, Cond.selects RX6 yX6_worth yX6_worth, Cond.code yX6_worth cX6_worth 5 (some .int)]
def wsX6_trade_r2 : List Cond := [Cond.methodLink RX6 99 yX6_remembers, Cond.instanceMethod yX6_remembers, Cond.selects RX6 yX6_remembers yX6_remembers, Cond.code yX6_remembers cX6_remembers 2 none, Cond.fieldLink RX6 29 "CousinSharesModel" "known" "I", Cond.fieldLink RX6 13 "CousinSharesModel" "past" "[I", Cond.methodLink RX6 89 yX6_trades, Cond.instanceMethod yX6_trades, Cond.selects RX6 yX6_trades yX6_trades, Cond.code yX6_trades cX6_trades 6 none, Cond.methodLink RX6 93 yX6_allEnvies, Cond.instanceMethod yX6_allEnvies, Cond.selects RX6 yX6_allEnvies yX6_allEnvies, Cond.code yX6_allEnvies cX6_allEnvies 2 (some .int), Cond.methodLink RX6 50 yX6_envies, Cond.instanceMethod yX6_envies, Cond.selects RX6 yX6_envies yX6_envies, Cond.code yX6_envies cX6_envies 7 (some .int), Cond.methodLink RX6 47 yX6_envy, Cond.instanceMethod yX6_envy, Cond.selects RX6 yX6_envy yX6_envy, Cond.code yX6_envy cX6_envy 5 (some .int), Cond.methodLink RX6 44 yX6_seems, Cond.instanceMethod yX6_seems]
def wsX6_trade_r3 : List Cond := [Cond.selects RX6 yX6_seems yX6_seems, Cond.code yX6_seems cX6_seems 4 (some .int)]
def wsX6_trade : List Cond := .code yX6_trade cX6_trade 4 (some .int) :: ((wsX6_trade_r1 ++ (wsX6_trade_r2 ++ wsX6_trade_r3)) ++ wsX60)
def wsX6_settle_r1 : List Cond := [Cond.methodLink RX6 96 yX6_best, Cond.instanceMethod yX6_best, Cond.selects RX6 yX6_best yX6_best, Cond.initialized RX6, Cond.code yX6_best cX6_best 8 (some .int), Cond.methodLink RX6 86 yX6_reason, Cond.instanceMethod yX6_reason, Cond.selects RX6 yX6_reason yX6_reason, Cond.code yX6_reason cX6_reason 7 (some .int), Cond.fieldLink RX6 7 "CousinSharesModel" "s" "[I", Cond.methodLink RX6 41 yX6_grudgeOf, Cond.instanceMethod yX6_grudgeOf, Cond.selects RX6 yX6_grudgeOf yX6_grudgeOf, Cond.code yX6_grudgeOf cX6_grudgeOf 3 (some .int), Cond.methodLink RX6 37 yX6_share, Cond.instanceMethod yX6_share, Cond.selects RX6 yX6_share yX6_share, Cond.code yX6_share cX6_share 6 (some .int), Cond.methodLink RX6 33 yX6_worth, Cond.instanceMethod yX6_worth, Cond.selects RX6 yX6_worth yX6_worth, Cond.code yX6_worth cX6_worth 5 (some .int), Cond.methodLink RX6 89 yX6_trades, Cond.instanceMethod yX6_trades]
def wsX6_settle_r2 : List Cond := [Cond.selects RX6 yX6_trades yX6_trades, Cond.code yX6_trades cX6_trades 6 none, Cond.methodLink RX6 93 yX6_allEnvies, Cond.instanceMethod yX6_allEnvies, Cond.selects RX6 yX6_allEnvies yX6_allEnvies, Cond.code yX6_allEnvies cX6_allEnvies 2 (some .int), Cond.methodLink RX6 50 yX6_envies, Cond.instanceMethod yX6_envies, Cond.selects RX6 yX6_envies yX6_envies, Cond.code yX6_envies cX6_envies 7 (some .int), Cond.methodLink RX6 47 yX6_envy, Cond.instanceMethod yX6_envy, Cond.selects RX6 yX6_envy yX6_envy, Cond.code yX6_envy cX6_envy 5 (some .int), Cond.methodLink RX6 44 yX6_seems, Cond.instanceMethod yX6_seems, Cond.selects RX6 yX6_seems yX6_seems, Cond.code yX6_seems cX6_seems 4 (some .int), Cond.methodLink RX6 99 yX6_remembers, Cond.instanceMethod yX6_remembers, Cond.selects RX6 yX6_remembers yX6_remembers, Cond.code yX6_remembers cX6_remembers 2 none, Cond.fieldLink RX6 29 "CousinSharesModel" "known" "I", Cond.fieldLink RX6 13 "CousinSharesModel" "past" "[I"]
def wsX6_settle_r3 : List Cond := [Cond.methodLink RX6 118 yX6_settles, Cond.instanceMethod yX6_settles, Cond.selects RX6 yX6_settles yX6_settles, Cond.code yX6_settles cX6_settles 4 (some .int)]
def wsX6_settle : List Cond := .code yX6_settle cX6_settle 1 (some .int) :: ((wsX6_settle_r1 ++ (wsX6_settle_r2 ++ wsX6_settle_r3)) ++ wsX60)
def wsX6_type : List Cond := .code yX6_type cX6_type 2 (some .int) :: ([.fieldLink RX6 121 "CousinSharesModel" "length" "I", .fieldLink RX6 19 "CousinSharesModel" "text" "[I"] ++ wsX60)
def wsX6_clearText : List Cond := .code yX6_clearText cX6_clearText 2 (some .int) :: ([.fieldLink RX6 121 "CousinSharesModel" "length" "I"] ++ wsX60)
def wsX6_sign : List Cond := .code yX6_sign cX6_sign 2 (some .int) :: ([.fieldLink RX6 121 "CousinSharesModel" "length" "I", .fieldLink RX6 19 "CousinSharesModel" "text" "[I"] ++ wsX60)
def wsX6_digit : List Cond := .code yX6_digit cX6_digit 2 (some .int) :: ([.methodLink RX6 124 yX6_sign, .instanceMethod yX6_sign, .selects RX6 yX6_sign yX6_sign, .initialized RX6, .code yX6_sign cX6_sign 2 (some .int), .fieldLink RX6 121 "CousinSharesModel" "length" "I", .fieldLink RX6 19 "CousinSharesModel" "text" "[I", .methodLink RX6 25 yX6_in, .static yX6_in, .code yX6_in cX6_in 3 (some .boolean)] ++ wsX60)
def wsX6_digitsEnd : List Cond := .code yX6_digitsEnd cX6_digitsEnd 4 (some .int) :: ([.methodLink RX6 124 yX6_sign, .instanceMethod yX6_sign, .selects RX6 yX6_sign yX6_sign, .initialized RX6, .code yX6_sign cX6_sign 2 (some .int), .fieldLink RX6 121 "CousinSharesModel" "length" "I", .fieldLink RX6 19 "CousinSharesModel" "text" "[I", .methodLink RX6 127 yX6_digit, .instanceMethod yX6_digit, .selects RX6 yX6_digit yX6_digit, .code yX6_digit cX6_digit 2 (some .int), .methodLink RX6 25 yX6_in, .static yX6_in, .code yX6_in cX6_in 3 (some .boolean)] ++ wsX60)
def wsX6_plotEnd : List Cond := .code yX6_plotEnd cX6_plotEnd 4 (some .int) :: ([.methodLink RX6 127 yX6_digit, .instanceMethod yX6_digit, .selects RX6 yX6_digit yX6_digit, .initialized RX6, .code yX6_digit cX6_digit 2 (some .int), .methodLink RX6 124 yX6_sign, .instanceMethod yX6_sign, .selects RX6 yX6_sign yX6_sign, .code yX6_sign cX6_sign 2 (some .int), .fieldLink RX6 121 "CousinSharesModel" "length" "I", .fieldLink RX6 19 "CousinSharesModel" "text" "[I", .methodLink RX6 25 yX6_in, .static yX6_in, .code yX6_in cX6_in 3 (some .boolean)] ++ wsX60)
def wsX6_cousinsEnd : List Cond := .code yX6_cousinsEnd cX6_cousinsEnd 4 (some .int) :: ([.methodLink RX6 127 yX6_digit, .instanceMethod yX6_digit, .selects RX6 yX6_digit yX6_digit, .initialized RX6, .code yX6_digit cX6_digit 2 (some .int), .methodLink RX6 124 yX6_sign, .instanceMethod yX6_sign, .selects RX6 yX6_sign yX6_sign, .code yX6_sign cX6_sign 2 (some .int), .fieldLink RX6 121 "CousinSharesModel" "length" "I", .fieldLink RX6 19 "CousinSharesModel" "text" "[I", .methodLink RX6 25 yX6_in, .static yX6_in, .code yX6_in cX6_in 3 (some .boolean), .methodLink RX6 112 yX6_isCousin, .static yX6_isCousin, .code yX6_isCousin cX6_isCousin 1 (some .boolean)] ++ wsX60)
def wsX6_orderEnd_r1 : List Cond := [Cond.methodLink RX6 127 yX6_digit, Cond.instanceMethod yX6_digit, Cond.selects RX6 yX6_digit yX6_digit, Cond.initialized RX6, Cond.code yX6_digit cX6_digit 2 (some .int), Cond.methodLink RX6 124 yX6_sign, Cond.instanceMethod yX6_sign, Cond.selects RX6 yX6_sign yX6_sign, Cond.code yX6_sign cX6_sign 2 (some .int), Cond.fieldLink RX6 121 "CousinSharesModel" "length" "I", Cond.fieldLink RX6 19 "CousinSharesModel" "text" "[I", Cond.methodLink RX6 25 yX6_in, Cond.static yX6_in, Cond.code yX6_in cX6_in 3 (some .boolean), Cond.methodLink RX6 130 yX6_plotEnd, Cond.instanceMethod yX6_plotEnd, Cond.selects RX6 yX6_plotEnd yX6_plotEnd, Cond.code yX6_plotEnd cX6_plotEnd 4 (some .int), Cond.methodLink RX6 133 yX6_digitsEnd, Cond.instanceMethod yX6_digitsEnd, Cond.selects RX6 yX6_digitsEnd yX6_digitsEnd, Cond.code yX6_digitsEnd cX6_digitsEnd 4 (some .int), Cond.methodLink RX6 112 yX6_isCousin, Cond.static yX6_isCousin]
def wsX6_orderEnd_r2 : List Cond := [Cond.code yX6_isCousin cX6_isCousin 1 (some .boolean), Cond.methodLink RX6 136 yX6_cousinsEnd, Cond.instanceMethod yX6_cousinsEnd, Cond.selects RX6 yX6_cousinsEnd yX6_cousinsEnd, Cond.code yX6_cousinsEnd cX6_cousinsEnd 4 (some .int)]
def wsX6_orderEnd : List Cond := .code yX6_orderEnd cX6_orderEnd 4 (some .int) :: ((wsX6_orderEnd_r1 ++ wsX6_orderEnd_r2) ++ wsX60)
def wsX6_fault_r1 : List Cond := [Cond.fieldLink RX6 121 "CousinSharesModel" "length" "I", Cond.methodLink RX6 139 yX6_orderEnd, Cond.instanceMethod yX6_orderEnd, Cond.selects RX6 yX6_orderEnd yX6_orderEnd, Cond.initialized RX6, Cond.code yX6_orderEnd cX6_orderEnd 4 (some .int), Cond.methodLink RX6 127 yX6_digit, Cond.instanceMethod yX6_digit, Cond.selects RX6 yX6_digit yX6_digit, Cond.code yX6_digit cX6_digit 2 (some .int), Cond.methodLink RX6 124 yX6_sign, Cond.instanceMethod yX6_sign, Cond.selects RX6 yX6_sign yX6_sign, Cond.code yX6_sign cX6_sign 2 (some .int), Cond.fieldLink RX6 19 "CousinSharesModel" "text" "[I", Cond.methodLink RX6 25 yX6_in, Cond.static yX6_in, Cond.code yX6_in cX6_in 3 (some .boolean), Cond.methodLink RX6 130 yX6_plotEnd, Cond.instanceMethod yX6_plotEnd, Cond.selects RX6 yX6_plotEnd yX6_plotEnd, Cond.code yX6_plotEnd cX6_plotEnd 4 (some .int), Cond.methodLink RX6 133 yX6_digitsEnd, Cond.instanceMethod yX6_digitsEnd]
def wsX6_fault_r2 : List Cond := [Cond.selects RX6 yX6_digitsEnd yX6_digitsEnd, Cond.code yX6_digitsEnd cX6_digitsEnd 4 (some .int), Cond.methodLink RX6 112 yX6_isCousin, Cond.static yX6_isCousin, Cond.code yX6_isCousin cX6_isCousin 1 (some .boolean), Cond.methodLink RX6 136 yX6_cousinsEnd, Cond.instanceMethod yX6_cousinsEnd, Cond.selects RX6 yX6_cousinsEnd yX6_cousinsEnd, Cond.code yX6_cousinsEnd cX6_cousinsEnd 4 (some .int)]
def wsX6_fault : List Cond := .code yX6_fault cX6_fault 4 (some .int) :: ((wsX6_fault_r1 ++ wsX6_fault_r2) ++ wsX60)
def wsX6_setsFour : List Cond := .code yX6_setsFour cX6_setsFour 4 none :: ([.fieldLink RX6 7 "CousinSharesModel" "s" "[I", .methodLink RX6 127 yX6_digit, .instanceMethod yX6_digit, .selects RX6 yX6_digit yX6_digit, .initialized RX6, .code yX6_digit cX6_digit 2 (some .int), .methodLink RX6 124 yX6_sign, .instanceMethod yX6_sign, .selects RX6 yX6_sign yX6_sign, .code yX6_sign cX6_sign 2 (some .int), .fieldLink RX6 121 "CousinSharesModel" "length" "I", .fieldLink RX6 19 "CousinSharesModel" "text" "[I", .methodLink RX6 25 yX6_in, .static yX6_in, .code yX6_in cX6_in 3 (some .boolean)] ++ wsX60)
def wsX6_does_r1 : List Cond := [Cond.fieldLink RX6 7 "CousinSharesModel" "s" "[I", Cond.methodLink RX6 139 yX6_orderEnd, Cond.instanceMethod yX6_orderEnd, Cond.selects RX6 yX6_orderEnd yX6_orderEnd, Cond.initialized RX6, Cond.code yX6_orderEnd cX6_orderEnd 4 (some .int), Cond.methodLink RX6 127 yX6_digit, Cond.instanceMethod yX6_digit, Cond.selects RX6 yX6_digit yX6_digit, Cond.code yX6_digit cX6_digit 2 (some .int), Cond.methodLink RX6 124 yX6_sign, Cond.instanceMethod yX6_sign, Cond.selects RX6 yX6_sign yX6_sign, Cond.code yX6_sign cX6_sign 2 (some .int), Cond.fieldLink RX6 121 "CousinSharesModel" "length" "I", Cond.fieldLink RX6 19 "CousinSharesModel" "text" "[I", Cond.methodLink RX6 25 yX6_in, Cond.static yX6_in, Cond.code yX6_in cX6_in 3 (some .boolean), Cond.methodLink RX6 130 yX6_plotEnd, Cond.instanceMethod yX6_plotEnd, Cond.selects RX6 yX6_plotEnd yX6_plotEnd, Cond.code yX6_plotEnd cX6_plotEnd 4 (some .int), Cond.methodLink RX6 133 yX6_digitsEnd]
def wsX6_does_r2 : List Cond := [Cond.instanceMethod yX6_digitsEnd, Cond.selects RX6 yX6_digitsEnd yX6_digitsEnd, Cond.code yX6_digitsEnd cX6_digitsEnd 4 (some .int), Cond.methodLink RX6 112 yX6_isCousin, Cond.static yX6_isCousin, Cond.code yX6_isCousin cX6_isCousin 1 (some .boolean), Cond.methodLink RX6 136 yX6_cousinsEnd, Cond.instanceMethod yX6_cousinsEnd, Cond.selects RX6 yX6_cousinsEnd yX6_cousinsEnd, Cond.code yX6_cousinsEnd cX6_cousinsEnd 4 (some .int), Cond.methodLink RX6 142 yX6_setsFour, Cond.instanceMethod yX6_setsFour, Cond.selects RX6 yX6_setsFour yX6_setsFour, Cond.code yX6_setsFour cX6_setsFour 4 none, Cond.methodLink RX6 115 yX6_divides, Cond.instanceMethod yX6_divides, Cond.selects RX6 yX6_divides yX6_divides, Cond.code yX6_divides cX6_divides 7 (some .int), Cond.fieldLink RX6 83 "CousinSharesModel" "lastOne" "I", Cond.methodLink RX6 73 yX6_orders, Cond.instanceMethod yX6_orders, Cond.selects RX6 yX6_orders yX6_orders, Cond.code yX6_orders cX6_orders 2 none, Cond.fieldLink RX6 22 "CousinSharesModel" "order" "[I"]
def wsX6_does_r3 : List Cond := [Cond.methodLink RX6 61 yX6_placeOf, Cond.instanceMethod yX6_placeOf, Cond.selects RX6 yX6_placeOf yX6_placeOf, Cond.code yX6_placeOf cX6_placeOf 4 (some .int), Cond.methodLink RX6 57 yX6_isAhead, Cond.instanceMethod yX6_isAhead, Cond.selects RX6 yX6_isAhead yX6_isAhead, Cond.code yX6_isAhead cX6_isAhead 4 (some .boolean), Cond.methodLink RX6 53 yX6_grudges, Cond.instanceMethod yX6_grudges, Cond.selects RX6 yX6_grudges yX6_grudges, Cond.code yX6_grudges cX6_grudges 4 (some .int), Cond.methodLink RX6 41 yX6_grudgeOf, Cond.instanceMethod yX6_grudgeOf, Cond.selects RX6 yX6_grudgeOf yX6_grudgeOf, Cond.code yX6_grudgeOf cX6_grudgeOf 3 (some .int), Cond.methodLink RX6 67 yX6_ones, Cond.static yX6_ones, Cond.code yX6_ones cX6_ones 3 (some .int), Cond.methodLink RX6 76 yX6_round, Cond.instanceMethod yX6_round, Cond.selects RX6 yX6_round yX6_round, Cond.code yX6_round cX6_round 13 (some .int), Cond.methodLink RX6 70 yX6_fair]
def wsX6_does_r4 : List Cond := [Cond.instanceMethod yX6_fair, Cond.selects RX6 yX6_fair yX6_fair, Cond.code yX6_fair cX6_fair 7 (some .int), Cond.methodLink RX6 64 yX6_worthFrom, Cond.instanceMethod yX6_worthFrom, Cond.selects RX6 yX6_worthFrom yX6_worthFrom, Cond.code yX6_worthFrom cX6_worthFrom 5 (some .int), Cond.methodLink RX6 33 yX6_worth, Cond.instanceMethod yX6_worth, Cond.selects RX6 yX6_worth yX6_worth, Cond.code yX6_worth cX6_worth 5 (some .int), Cond.methodLink RX6 79 yX6_gets, Cond.instanceMethod yX6_gets, Cond.selects RX6 yX6_gets yX6_gets, Cond.code yX6_gets cX6_gets 6 none]
def wsX6_does : List Cond := .code yX6_does cX6_does 7 none :: ((wsX6_does_r1 ++ (wsX6_does_r2 ++ (wsX6_does_r3 ++ wsX6_does_r4))) ++ wsX60)
def wsX6_perform_r1 : List Cond := [Cond.fieldLink RX6 121 "CousinSharesModel" "length" "I", Cond.methodLink RX6 146 yX6_fault, Cond.instanceMethod yX6_fault, Cond.selects RX6 yX6_fault yX6_fault, Cond.initialized RX6, Cond.code yX6_fault cX6_fault 4 (some .int), Cond.methodLink RX6 139 yX6_orderEnd, Cond.instanceMethod yX6_orderEnd, Cond.selects RX6 yX6_orderEnd yX6_orderEnd, Cond.code yX6_orderEnd cX6_orderEnd 4 (some .int), Cond.methodLink RX6 127 yX6_digit, Cond.instanceMethod yX6_digit, Cond.selects RX6 yX6_digit yX6_digit, Cond.code yX6_digit cX6_digit 2 (some .int), Cond.methodLink RX6 124 yX6_sign, Cond.instanceMethod yX6_sign, Cond.selects RX6 yX6_sign yX6_sign, Cond.code yX6_sign cX6_sign 2 (some .int), Cond.fieldLink RX6 19 "CousinSharesModel" "text" "[I", Cond.methodLink RX6 25 yX6_in, Cond.static yX6_in, Cond.code yX6_in cX6_in 3 (some .boolean), Cond.methodLink RX6 130 yX6_plotEnd, Cond.instanceMethod yX6_plotEnd]
def wsX6_perform_r2 : List Cond := [Cond.selects RX6 yX6_plotEnd yX6_plotEnd, Cond.code yX6_plotEnd cX6_plotEnd 4 (some .int), Cond.methodLink RX6 133 yX6_digitsEnd, Cond.instanceMethod yX6_digitsEnd, Cond.selects RX6 yX6_digitsEnd yX6_digitsEnd, Cond.code yX6_digitsEnd cX6_digitsEnd 4 (some .int), Cond.methodLink RX6 112 yX6_isCousin, Cond.static yX6_isCousin, Cond.code yX6_isCousin cX6_isCousin 1 (some .boolean), Cond.methodLink RX6 136 yX6_cousinsEnd, Cond.instanceMethod yX6_cousinsEnd, Cond.selects RX6 yX6_cousinsEnd yX6_cousinsEnd, Cond.code yX6_cousinsEnd cX6_cousinsEnd 4 (some .int), Cond.methodLink RX6 99 yX6_remembers, Cond.instanceMethod yX6_remembers, Cond.selects RX6 yX6_remembers yX6_remembers, Cond.code yX6_remembers cX6_remembers 2 none, Cond.fieldLink RX6 29 "CousinSharesModel" "known" "I", Cond.fieldLink RX6 13 "CousinSharesModel" "past" "[I", Cond.fieldLink RX6 7 "CousinSharesModel" "s" "[I", Cond.methodLink RX6 150 yX6_does, Cond.instanceMethod yX6_does, Cond.selects RX6 yX6_does yX6_does, Cond.code yX6_does cX6_does 7 none]
def wsX6_perform_r3 : List Cond := [Cond.methodLink RX6 142 yX6_setsFour, Cond.instanceMethod yX6_setsFour, Cond.selects RX6 yX6_setsFour yX6_setsFour, Cond.code yX6_setsFour cX6_setsFour 4 none, Cond.methodLink RX6 115 yX6_divides, Cond.instanceMethod yX6_divides, Cond.selects RX6 yX6_divides yX6_divides, Cond.code yX6_divides cX6_divides 7 (some .int), Cond.fieldLink RX6 83 "CousinSharesModel" "lastOne" "I", Cond.methodLink RX6 73 yX6_orders, Cond.instanceMethod yX6_orders, Cond.selects RX6 yX6_orders yX6_orders, Cond.code yX6_orders cX6_orders 2 none, Cond.fieldLink RX6 22 "CousinSharesModel" "order" "[I", Cond.methodLink RX6 61 yX6_placeOf, Cond.instanceMethod yX6_placeOf, Cond.selects RX6 yX6_placeOf yX6_placeOf, Cond.code yX6_placeOf cX6_placeOf 4 (some .int), Cond.methodLink RX6 57 yX6_isAhead, Cond.instanceMethod yX6_isAhead, Cond.selects RX6 yX6_isAhead yX6_isAhead, Cond.code yX6_isAhead cX6_isAhead 4 (some .boolean), Cond.methodLink RX6 53 yX6_grudges, Cond.instanceMethod yX6_grudges]
def wsX6_perform_r4 : List Cond := [Cond.selects RX6 yX6_grudges yX6_grudges, Cond.code yX6_grudges cX6_grudges 4 (some .int), Cond.methodLink RX6 41 yX6_grudgeOf, Cond.instanceMethod yX6_grudgeOf, Cond.selects RX6 yX6_grudgeOf yX6_grudgeOf, Cond.code yX6_grudgeOf cX6_grudgeOf 3 (some .int), Cond.methodLink RX6 67 yX6_ones, Cond.static yX6_ones, Cond.code yX6_ones cX6_ones 3 (some .int), Cond.methodLink RX6 76 yX6_round, Cond.instanceMethod yX6_round, Cond.selects RX6 yX6_round yX6_round, Cond.code yX6_round cX6_round 13 (some .int), Cond.methodLink RX6 70 yX6_fair, Cond.instanceMethod yX6_fair, Cond.selects RX6 yX6_fair yX6_fair, Cond.code yX6_fair cX6_fair 7 (some .int), Cond.methodLink RX6 64 yX6_worthFrom, Cond.instanceMethod yX6_worthFrom, Cond.selects RX6 yX6_worthFrom yX6_worthFrom, Cond.code yX6_worthFrom cX6_worthFrom 5 (some .int), Cond.methodLink RX6 33 yX6_worth, Cond.instanceMethod yX6_worth, Cond.selects RX6 yX6_worth yX6_worth]
def wsX6_perform_r5 : List Cond := [Cond.code yX6_worth cX6_worth 5 (some .int), Cond.methodLink RX6 79 yX6_gets, Cond.instanceMethod yX6_gets, Cond.selects RX6 yX6_gets yX6_gets, Cond.code yX6_gets cX6_gets 6 none]
def wsX6_perform : List Cond := .code yX6_perform cX6_perform 4 (some .int) :: ((wsX6_perform_r1 ++ (wsX6_perform_r2 ++ (wsX6_perform_r3 ++ (wsX6_perform_r4 ++ wsX6_perform_r5)))) ++ wsX60)
def wsX6_undo : List Cond := .code yX6_undo cX6_undo 2 (some .int) :: ([.fieldLink RX6 29 "CousinSharesModel" "known" "I", .fieldLink RX6 7 "CousinSharesModel" "s" "[I", .fieldLink RX6 13 "CousinSharesModel" "past" "[I"] ++ wsX60)
def wsX6_plotsOf : List Cond := .code yX6_plotsOf cX6_plotsOf 5 (some .int) :: ([.fieldLink RX6 7 "CousinSharesModel" "s" "[I"] ++ wsX60)
def wsX6_keep : List Cond := .code yX6_keep cX6_keep 2 (some .int) :: ([.fieldLink RX6 16 "CousinSharesModel" "snap" "[I", .fieldLink RX6 7 "CousinSharesModel" "s" "[I", .fieldLink RX6 154 "CousinSharesModel" "isKept" "Z", .methodLink RX6 158 yX6_plotsOf, .instanceMethod yX6_plotsOf, .selects RX6 yX6_plotsOf yX6_plotsOf, .initialized RX6, .code yX6_plotsOf cX6_plotsOf 5 (some .int)] ++ wsX60)
def wsX6_restore : List Cond := .code yX6_restore cX6_restore 2 (some .int) :: ([.fieldLink RX6 154 "CousinSharesModel" "isKept" "Z", .fieldLink RX6 7 "CousinSharesModel" "s" "[I", .fieldLink RX6 16 "CousinSharesModel" "snap" "[I", .methodLink RX6 99 yX6_remembers, .instanceMethod yX6_remembers, .selects RX6 yX6_remembers yX6_remembers, .initialized RX6, .code yX6_remembers cX6_remembers 2 none, .fieldLink RX6 29 "CousinSharesModel" "known" "I", .fieldLink RX6 13 "CousinSharesModel" "past" "[I", .methodLink RX6 158 yX6_plotsOf, .instanceMethod yX6_plotsOf, .selects RX6 yX6_plotsOf yX6_plotsOf, .code yX6_plotsOf cX6_plotsOf 5 (some .int)] ++ wsX60)
def wsX6_plot : List Cond := .code yX6_plot cX6_plot 3 (some .int) :: ([.fieldLink RX6 7 "CousinSharesModel" "s" "[I", .methodLink RX6 102 yX6_isPlot, .static yX6_isPlot, .initialized RX6, .code yX6_isPlot cX6_isPlot 1 (some .boolean), .methodLink RX6 25 yX6_in, .static yX6_in, .code yX6_in cX6_in 3 (some .boolean), .methodLink RX6 33 yX6_worth, .instanceMethod yX6_worth, .selects RX6 yX6_worth yX6_worth, .code yX6_worth cX6_worth 5 (some .int)] ++ wsX60)
def wsX6_hundredths : List Cond := .code yX6_hundredths cX6_hundredths 3 (some .int) :: ([.methodLink RX6 64 yX6_worthFrom, .instanceMethod yX6_worthFrom, .selects RX6 yX6_worthFrom yX6_worthFrom, .initialized RX6, .code yX6_worthFrom cX6_worthFrom 5 (some .int), .methodLink RX6 33 yX6_worth, .instanceMethod yX6_worth, .selects RX6 yX6_worth yX6_worth, .code yX6_worth cX6_worth 5 (some .int), .fieldLink RX6 7 "CousinSharesModel" "s" "[I", .methodLink RX6 37 yX6_share, .instanceMethod yX6_share, .selects RX6 yX6_share yX6_share, .code yX6_share cX6_share 6 (some .int)] ++ wsX60)
def wsX6_greatestEnvy : List Cond := .code yX6_greatestEnvy cX6_greatestEnvy 5 (some .int) :: ([.methodLink RX6 47 yX6_envy, .instanceMethod yX6_envy, .selects RX6 yX6_envy yX6_envy, .initialized RX6, .code yX6_envy cX6_envy 5 (some .int), .methodLink RX6 44 yX6_seems, .instanceMethod yX6_seems, .selects RX6 yX6_seems yX6_seems, .code yX6_seems cX6_seems 4 (some .int), .methodLink RX6 37 yX6_share, .instanceMethod yX6_share, .selects RX6 yX6_share yX6_share, .code yX6_share cX6_share 6 (some .int), .fieldLink RX6 7 "CousinSharesModel" "s" "[I", .methodLink RX6 33 yX6_worth, .instanceMethod yX6_worth, .selects RX6 yX6_worth yX6_worth, .code yX6_worth cX6_worth 5 (some .int), .methodLink RX6 41 yX6_grudgeOf, .instanceMethod yX6_grudgeOf, .selects RX6 yX6_grudgeOf yX6_grudgeOf, .code yX6_grudgeOf cX6_grudgeOf 3 (some .int)] ++ wsX60)
def wsX6_cousin_r1 : List Cond := [Cond.fieldLink RX6 7 "CousinSharesModel" "s" "[I", Cond.methodLink RX6 112 yX6_isCousin, Cond.static yX6_isCousin, Cond.initialized RX6, Cond.code yX6_isCousin cX6_isCousin 1 (some .boolean), Cond.methodLink RX6 25 yX6_in, Cond.static yX6_in, Cond.code yX6_in cX6_in 3 (some .boolean), Cond.methodLink RX6 158 yX6_plotsOf, Cond.instanceMethod yX6_plotsOf, Cond.selects RX6 yX6_plotsOf yX6_plotsOf, Cond.code yX6_plotsOf cX6_plotsOf 5 (some .int), Cond.methodLink RX6 37 yX6_share, Cond.instanceMethod yX6_share, Cond.selects RX6 yX6_share yX6_share, Cond.code yX6_share cX6_share 6 (some .int), Cond.methodLink RX6 33 yX6_worth, Cond.instanceMethod yX6_worth, Cond.selects RX6 yX6_worth yX6_worth, Cond.code yX6_worth cX6_worth 5 (some .int), Cond.methodLink RX6 64 yX6_worthFrom, Cond.instanceMethod yX6_worthFrom, Cond.selects RX6 yX6_worthFrom yX6_worthFrom, Cond.code yX6_worthFrom cX6_worthFrom 5 (some .int)]
def wsX6_cousin_r2 : List Cond := [Cond.methodLink RX6 161 yX6_hundredths, Cond.instanceMethod yX6_hundredths, Cond.selects RX6 yX6_hundredths yX6_hundredths, Cond.code yX6_hundredths cX6_hundredths 3 (some .int), Cond.methodLink RX6 53 yX6_grudges, Cond.instanceMethod yX6_grudges, Cond.selects RX6 yX6_grudges yX6_grudges, Cond.code yX6_grudges cX6_grudges 4 (some .int), Cond.methodLink RX6 41 yX6_grudgeOf, Cond.instanceMethod yX6_grudgeOf, Cond.selects RX6 yX6_grudgeOf yX6_grudgeOf, Cond.code yX6_grudgeOf cX6_grudgeOf 3 (some .int), Cond.methodLink RX6 50 yX6_envies, Cond.instanceMethod yX6_envies, Cond.selects RX6 yX6_envies yX6_envies, Cond.code yX6_envies cX6_envies 7 (some .int), Cond.methodLink RX6 47 yX6_envy, Cond.instanceMethod yX6_envy, Cond.selects RX6 yX6_envy yX6_envy, Cond.code yX6_envy cX6_envy 5 (some .int), Cond.methodLink RX6 44 yX6_seems, Cond.instanceMethod yX6_seems, Cond.selects RX6 yX6_seems yX6_seems, Cond.code yX6_seems cX6_seems 4 (some .int)]
def wsX6_cousin_r3 : List Cond := [Cond.methodLink RX6 164 yX6_greatestEnvy, Cond.instanceMethod yX6_greatestEnvy, Cond.selects RX6 yX6_greatestEnvy yX6_greatestEnvy, Cond.code yX6_greatestEnvy cX6_greatestEnvy 5 (some .int), Cond.methodLink RX6 61 yX6_placeOf, Cond.instanceMethod yX6_placeOf, Cond.selects RX6 yX6_placeOf yX6_placeOf, Cond.code yX6_placeOf cX6_placeOf 4 (some .int), Cond.methodLink RX6 57 yX6_isAhead, Cond.instanceMethod yX6_isAhead, Cond.selects RX6 yX6_isAhead yX6_isAhead, Cond.code yX6_isAhead cX6_isAhead 4 (some .boolean)]
def wsX6_cousin : List Cond := .code yX6_cousin cX6_cousin 3 (some .int) :: ((wsX6_cousin_r1 ++ (wsX6_cousin_r2 ++ wsX6_cousin_r3)) ++ wsX60)
def wsX6_pair_r1 : List Cond := [Cond.methodLink RX6 112 yX6_isCousin, Cond.static yX6_isCousin, Cond.initialized RX6, Cond.code yX6_isCousin cX6_isCousin 1 (some .boolean), Cond.methodLink RX6 25 yX6_in, Cond.static yX6_in, Cond.code yX6_in cX6_in 3 (some .boolean), Cond.methodLink RX6 41 yX6_grudgeOf, Cond.instanceMethod yX6_grudgeOf, Cond.selects RX6 yX6_grudgeOf yX6_grudgeOf, Cond.code yX6_grudgeOf cX6_grudgeOf 3 (some .int), Cond.fieldLink RX6 7 "CousinSharesModel" "s" "[I", Cond.methodLink RX6 37 yX6_share, Cond.instanceMethod yX6_share, Cond.selects RX6 yX6_share yX6_share, Cond.code yX6_share cX6_share 6 (some .int), Cond.methodLink RX6 33 yX6_worth, Cond.instanceMethod yX6_worth, Cond.selects RX6 yX6_worth yX6_worth, Cond.code yX6_worth cX6_worth 5 (some .int), Cond.methodLink RX6 44 yX6_seems, Cond.instanceMethod yX6_seems, Cond.selects RX6 yX6_seems yX6_seems, Cond.code yX6_seems cX6_seems 4 (some .int)]
def wsX6_pair_r2 : List Cond := [Cond.methodLink RX6 47 yX6_envy, Cond.instanceMethod yX6_envy, Cond.selects RX6 yX6_envy yX6_envy, Cond.code yX6_envy cX6_envy 5 (some .int), Cond.methodLink RX6 86 yX6_reason, Cond.instanceMethod yX6_reason, Cond.selects RX6 yX6_reason yX6_reason, Cond.code yX6_reason cX6_reason 7 (some .int)]
def wsX6_pair : List Cond := .code yX6_pair cX6_pair 4 (some .int) :: ((wsX6_pair_r1 ++ wsX6_pair_r2) ++ wsX60)
def wsX6_content_r1 : List Cond := [Cond.methodLink RX6 164 yX6_greatestEnvy, Cond.instanceMethod yX6_greatestEnvy, Cond.selects RX6 yX6_greatestEnvy yX6_greatestEnvy, Cond.initialized RX6, Cond.code yX6_greatestEnvy cX6_greatestEnvy 5 (some .int), Cond.methodLink RX6 47 yX6_envy, Cond.instanceMethod yX6_envy, Cond.selects RX6 yX6_envy yX6_envy, Cond.code yX6_envy cX6_envy 5 (some .int), Cond.methodLink RX6 44 yX6_seems, Cond.instanceMethod yX6_seems, Cond.selects RX6 yX6_seems yX6_seems, Cond.code yX6_seems cX6_seems 4 (some .int), Cond.methodLink RX6 37 yX6_share, Cond.instanceMethod yX6_share, Cond.selects RX6 yX6_share yX6_share, Cond.code yX6_share cX6_share 6 (some .int), Cond.fieldLink RX6 7 "CousinSharesModel" "s" "[I", Cond.methodLink RX6 33 yX6_worth, Cond.instanceMethod yX6_worth, Cond.selects RX6 yX6_worth yX6_worth, Cond.code yX6_worth cX6_worth 5 (some .int), Cond.methodLink RX6 41 yX6_grudgeOf, Cond.instanceMethod yX6_grudgeOf]
def wsX6_content_r2 : List Cond := [Cond.selects RX6 yX6_grudgeOf yX6_grudgeOf, Cond.code yX6_grudgeOf cX6_grudgeOf 3 (some .int)]
def wsX6_content : List Cond := .code yX6_content cX6_content 3 (some .int) :: ((wsX6_content_r1 ++ wsX6_content_r2) ++ wsX60)
def wsX6_traders : List Cond := .code yX6_traders cX6_traders 3 (some .int) :: ([.methodLink RX6 86 yX6_reason, .instanceMethod yX6_reason, .selects RX6 yX6_reason yX6_reason, .initialized RX6, .code yX6_reason cX6_reason 7 (some .int), .fieldLink RX6 7 "CousinSharesModel" "s" "[I", .methodLink RX6 41 yX6_grudgeOf, .instanceMethod yX6_grudgeOf, .selects RX6 yX6_grudgeOf yX6_grudgeOf, .code yX6_grudgeOf cX6_grudgeOf 3 (some .int), .methodLink RX6 37 yX6_share, .instanceMethod yX6_share, .selects RX6 yX6_share yX6_share, .code yX6_share cX6_share 6 (some .int), .methodLink RX6 33 yX6_worth, .instanceMethod yX6_worth, .selects RX6 yX6_worth yX6_worth, .code yX6_worth cX6_worth 5 (some .int)] ++ wsX60)
def wsX6_total_r1 : List Cond := [Cond.fieldLink RX6 7 "CousinSharesModel" "s" "[I", Cond.fieldLink RX6 29 "CousinSharesModel" "known" "I", Cond.fieldLink RX6 121 "CousinSharesModel" "length" "I", Cond.methodLink RX6 158 yX6_plotsOf, Cond.instanceMethod yX6_plotsOf, Cond.selects RX6 yX6_plotsOf yX6_plotsOf, Cond.initialized RX6, Cond.code yX6_plotsOf cX6_plotsOf 5 (some .int), Cond.methodLink RX6 93 yX6_allEnvies, Cond.instanceMethod yX6_allEnvies, Cond.selects RX6 yX6_allEnvies yX6_allEnvies, Cond.code yX6_allEnvies cX6_allEnvies 2 (some .int), Cond.methodLink RX6 50 yX6_envies, Cond.instanceMethod yX6_envies, Cond.selects RX6 yX6_envies yX6_envies, Cond.code yX6_envies cX6_envies 7 (some .int), Cond.methodLink RX6 47 yX6_envy, Cond.instanceMethod yX6_envy, Cond.selects RX6 yX6_envy yX6_envy, Cond.code yX6_envy cX6_envy 5 (some .int), Cond.methodLink RX6 44 yX6_seems, Cond.instanceMethod yX6_seems, Cond.selects RX6 yX6_seems yX6_seems, Cond.code yX6_seems cX6_seems 4 (some .int)]
def wsX6_total_r2 : List Cond := [Cond.methodLink RX6 37 yX6_share, Cond.instanceMethod yX6_share, Cond.selects RX6 yX6_share yX6_share, Cond.code yX6_share cX6_share 6 (some .int), Cond.methodLink RX6 33 yX6_worth, Cond.instanceMethod yX6_worth, Cond.selects RX6 yX6_worth yX6_worth, Cond.code yX6_worth cX6_worth 5 (some .int), Cond.methodLink RX6 41 yX6_grudgeOf, Cond.instanceMethod yX6_grudgeOf, Cond.selects RX6 yX6_grudgeOf yX6_grudgeOf, Cond.code yX6_grudgeOf cX6_grudgeOf 3 (some .int), Cond.methodLink RX6 167 yX6_content, Cond.instanceMethod yX6_content, Cond.selects RX6 yX6_content yX6_content, Cond.code yX6_content cX6_content 3 (some .int), Cond.methodLink RX6 164 yX6_greatestEnvy, Cond.instanceMethod yX6_greatestEnvy, Cond.selects RX6 yX6_greatestEnvy yX6_greatestEnvy, Cond.code yX6_greatestEnvy cX6_greatestEnvy 5 (some .int), Cond.methodLink RX6 170 yX6_traders, Cond.instanceMethod yX6_traders, Cond.selects RX6 yX6_traders yX6_traders, Cond.code yX6_traders cX6_traders 3 (some .int)]
def wsX6_total_r3 : List Cond := [Cond.methodLink RX6 86 yX6_reason, Cond.instanceMethod yX6_reason, Cond.selects RX6 yX6_reason yX6_reason, Cond.code yX6_reason cX6_reason 7 (some .int)]
def wsX6_total : List Cond := .code yX6_total cX6_total 2 (some .int) :: ((wsX6_total_r1 ++ (wsX6_total_r2 ++ wsX6_total_r3)) ++ wsX60)
def wsX6_ifDivided_r1 : List Cond := [Cond.fieldLink RX6 7 "CousinSharesModel" "s" "[I", Cond.fieldLink RX6 83 "CousinSharesModel" "lastOne" "I", Cond.methodLink RX6 25 yX6_in, Cond.static yX6_in, Cond.initialized RX6, Cond.code yX6_in cX6_in 3 (some .boolean), Cond.methodLink RX6 173 yX6_copies, Cond.instanceMethod yX6_copies, Cond.selects RX6 yX6_copies yX6_copies, Cond.code yX6_copies cX6_copies 2 none, Cond.methodLink RX6 115 yX6_divides, Cond.instanceMethod yX6_divides, Cond.selects RX6 yX6_divides yX6_divides, Cond.code yX6_divides cX6_divides 7 (some .int), Cond.methodLink RX6 73 yX6_orders, Cond.instanceMethod yX6_orders, Cond.selects RX6 yX6_orders yX6_orders, Cond.code yX6_orders cX6_orders 2 none, Cond.fieldLink RX6 22 "CousinSharesModel" "order" "[I", Cond.methodLink RX6 61 yX6_placeOf, Cond.instanceMethod yX6_placeOf, Cond.selects RX6 yX6_placeOf yX6_placeOf, Cond.code yX6_placeOf cX6_placeOf 4 (some .int), Cond.methodLink RX6 57 yX6_isAhead]
def wsX6_ifDivided_r2 : List Cond := [Cond.instanceMethod yX6_isAhead, Cond.selects RX6 yX6_isAhead yX6_isAhead, Cond.code yX6_isAhead cX6_isAhead 4 (some .boolean), Cond.methodLink RX6 53 yX6_grudges, Cond.instanceMethod yX6_grudges, Cond.selects RX6 yX6_grudges yX6_grudges, Cond.code yX6_grudges cX6_grudges 4 (some .int), Cond.methodLink RX6 41 yX6_grudgeOf, Cond.instanceMethod yX6_grudgeOf, Cond.selects RX6 yX6_grudgeOf yX6_grudgeOf, Cond.code yX6_grudgeOf cX6_grudgeOf 3 (some .int), Cond.methodLink RX6 67 yX6_ones, Cond.static yX6_ones, Cond.code yX6_ones cX6_ones 3 (some .int), Cond.methodLink RX6 76 yX6_round, Cond.instanceMethod yX6_round, Cond.selects RX6 yX6_round yX6_round, Cond.code yX6_round cX6_round 13 (some .int), Cond.methodLink RX6 70 yX6_fair, Cond.instanceMethod yX6_fair, Cond.selects RX6 yX6_fair yX6_fair, Cond.code yX6_fair cX6_fair 7 (some .int), Cond.methodLink RX6 64 yX6_worthFrom, Cond.instanceMethod yX6_worthFrom]
def wsX6_ifDivided_r3 : List Cond := [Cond.selects RX6 yX6_worthFrom yX6_worthFrom, Cond.code yX6_worthFrom cX6_worthFrom 5 (some .int), Cond.methodLink RX6 33 yX6_worth, Cond.instanceMethod yX6_worth, Cond.selects RX6 yX6_worth yX6_worth, Cond.code yX6_worth cX6_worth 5 (some .int), Cond.methodLink RX6 79 yX6_gets, Cond.instanceMethod yX6_gets, Cond.selects RX6 yX6_gets yX6_gets, Cond.code yX6_gets cX6_gets 6 none, Cond.methodLink RX6 93 yX6_allEnvies, Cond.instanceMethod yX6_allEnvies, Cond.selects RX6 yX6_allEnvies yX6_allEnvies, Cond.code yX6_allEnvies cX6_allEnvies 2 (some .int), Cond.methodLink RX6 50 yX6_envies, Cond.instanceMethod yX6_envies, Cond.selects RX6 yX6_envies yX6_envies, Cond.code yX6_envies cX6_envies 7 (some .int), Cond.methodLink RX6 47 yX6_envy, Cond.instanceMethod yX6_envy, Cond.selects RX6 yX6_envy yX6_envy, Cond.code yX6_envy cX6_envy 5 (some .int), Cond.methodLink RX6 44 yX6_seems, Cond.instanceMethod yX6_seems]
def wsX6_ifDivided_r4 : List Cond := [Cond.selects RX6 yX6_seems yX6_seems, Cond.code yX6_seems cX6_seems 4 (some .int), Cond.methodLink RX6 37 yX6_share, Cond.instanceMethod yX6_share, Cond.selects RX6 yX6_share yX6_share, Cond.code yX6_share cX6_share 6 (some .int)]
def wsX6_ifDivided : List Cond := .code yX6_ifDivided cX6_ifDivided 4 (some .int) :: ((wsX6_ifDivided_r1 ++ (wsX6_ifDivided_r2 ++ (wsX6_ifDivided_r3 ++ wsX6_ifDivided_r4))) ++ wsX60)
def wsX6_bestTrade_r1 : List Cond := [Cond.methodLink RX6 25 yX6_in, Cond.static yX6_in, Cond.initialized RX6, Cond.code yX6_in cX6_in 3 (some .boolean), Cond.methodLink RX6 96 yX6_best, Cond.instanceMethod yX6_best, Cond.selects RX6 yX6_best yX6_best, Cond.code yX6_best cX6_best 8 (some .int), Cond.methodLink RX6 86 yX6_reason, Cond.instanceMethod yX6_reason, Cond.selects RX6 yX6_reason yX6_reason, Cond.code yX6_reason cX6_reason 7 (some .int), Cond.fieldLink RX6 7 "CousinSharesModel" "s" "[I", Cond.methodLink RX6 41 yX6_grudgeOf, Cond.instanceMethod yX6_grudgeOf, Cond.selects RX6 yX6_grudgeOf yX6_grudgeOf, Cond.code yX6_grudgeOf cX6_grudgeOf 3 (some .int), Cond.methodLink RX6 37 yX6_share, Cond.instanceMethod yX6_share, Cond.selects RX6 yX6_share yX6_share, Cond.code yX6_share cX6_share 6 (some .int), Cond.methodLink RX6 33 yX6_worth, Cond.instanceMethod yX6_worth, Cond.selects RX6 yX6_worth yX6_worth]
def wsX6_bestTrade_r2 : List Cond := [Cond.code yX6_worth cX6_worth 5 (some .int), Cond.methodLink RX6 89 yX6_trades, Cond.instanceMethod yX6_trades, Cond.selects RX6 yX6_trades yX6_trades, Cond.code yX6_trades cX6_trades 6 none, Cond.methodLink RX6 93 yX6_allEnvies, Cond.instanceMethod yX6_allEnvies, Cond.selects RX6 yX6_allEnvies yX6_allEnvies, Cond.code yX6_allEnvies cX6_allEnvies 2 (some .int), Cond.methodLink RX6 50 yX6_envies, Cond.instanceMethod yX6_envies, Cond.selects RX6 yX6_envies yX6_envies, Cond.code yX6_envies cX6_envies 7 (some .int), Cond.methodLink RX6 47 yX6_envy, Cond.instanceMethod yX6_envy, Cond.selects RX6 yX6_envy yX6_envy, Cond.code yX6_envy cX6_envy 5 (some .int), Cond.methodLink RX6 44 yX6_seems, Cond.instanceMethod yX6_seems, Cond.selects RX6 yX6_seems yX6_seems, Cond.code yX6_seems cX6_seems 4 (some .int), Cond.methodLink RX6 173 yX6_copies, Cond.instanceMethod yX6_copies, Cond.selects RX6 yX6_copies yX6_copies]
def wsX6_bestTrade_r3 : List Cond := [Cond.code yX6_copies cX6_copies 2 none]
def wsX6_bestTrade : List Cond := .code yX6_bestTrade cX6_bestTrade 3 (some .int) :: ((wsX6_bestTrade_r1 ++ (wsX6_bestTrade_r2 ++ wsX6_bestTrade_r3)) ++ wsX60)
def wsX6_bestWithout_r1 : List Cond := [Cond.methodLink RX6 25 yX6_in, Cond.static yX6_in, Cond.initialized RX6, Cond.code yX6_in cX6_in 3 (some .boolean), Cond.methodLink RX6 173 yX6_copies, Cond.instanceMethod yX6_copies, Cond.selects RX6 yX6_copies yX6_copies, Cond.code yX6_copies cX6_copies 2 none, Cond.fieldLink RX6 7 "CousinSharesModel" "s" "[I", Cond.methodLink RX6 115 yX6_divides, Cond.instanceMethod yX6_divides, Cond.selects RX6 yX6_divides yX6_divides, Cond.code yX6_divides cX6_divides 7 (some .int), Cond.fieldLink RX6 83 "CousinSharesModel" "lastOne" "I", Cond.methodLink RX6 73 yX6_orders, Cond.instanceMethod yX6_orders, Cond.selects RX6 yX6_orders yX6_orders, Cond.code yX6_orders cX6_orders 2 none, Cond.fieldLink RX6 22 "CousinSharesModel" "order" "[I", Cond.methodLink RX6 61 yX6_placeOf, Cond.instanceMethod yX6_placeOf, Cond.selects RX6 yX6_placeOf yX6_placeOf, Cond.code yX6_placeOf cX6_placeOf 4 (some .int), Cond.methodLink RX6 57 yX6_isAhead]
def wsX6_bestWithout_r2 : List Cond := [Cond.instanceMethod yX6_isAhead, Cond.selects RX6 yX6_isAhead yX6_isAhead, Cond.code yX6_isAhead cX6_isAhead 4 (some .boolean), Cond.methodLink RX6 53 yX6_grudges, Cond.instanceMethod yX6_grudges, Cond.selects RX6 yX6_grudges yX6_grudges, Cond.code yX6_grudges cX6_grudges 4 (some .int), Cond.methodLink RX6 41 yX6_grudgeOf, Cond.instanceMethod yX6_grudgeOf, Cond.selects RX6 yX6_grudgeOf yX6_grudgeOf, Cond.code yX6_grudgeOf cX6_grudgeOf 3 (some .int), Cond.methodLink RX6 67 yX6_ones, Cond.static yX6_ones, Cond.code yX6_ones cX6_ones 3 (some .int), Cond.methodLink RX6 76 yX6_round, Cond.instanceMethod yX6_round, Cond.selects RX6 yX6_round yX6_round, Cond.code yX6_round cX6_round 13 (some .int), Cond.methodLink RX6 70 yX6_fair, Cond.instanceMethod yX6_fair, Cond.selects RX6 yX6_fair yX6_fair, Cond.code yX6_fair cX6_fair 7 (some .int), Cond.methodLink RX6 64 yX6_worthFrom, Cond.instanceMethod yX6_worthFrom]
def wsX6_bestWithout_r3 : List Cond := [Cond.selects RX6 yX6_worthFrom yX6_worthFrom, Cond.code yX6_worthFrom cX6_worthFrom 5 (some .int), Cond.methodLink RX6 33 yX6_worth, Cond.instanceMethod yX6_worth, Cond.selects RX6 yX6_worth yX6_worth, Cond.code yX6_worth cX6_worth 5 (some .int), Cond.methodLink RX6 79 yX6_gets, Cond.instanceMethod yX6_gets, Cond.selects RX6 yX6_gets yX6_gets, Cond.code yX6_gets cX6_gets 6 none, Cond.methodLink RX6 50 yX6_envies, Cond.instanceMethod yX6_envies, Cond.selects RX6 yX6_envies yX6_envies, Cond.code yX6_envies cX6_envies 7 (some .int), Cond.methodLink RX6 47 yX6_envy, Cond.instanceMethod yX6_envy, Cond.selects RX6 yX6_envy yX6_envy, Cond.code yX6_envy cX6_envy 5 (some .int), Cond.methodLink RX6 44 yX6_seems, Cond.instanceMethod yX6_seems, Cond.selects RX6 yX6_seems yX6_seems, Cond.code yX6_seems cX6_seems 4 (some .int), Cond.methodLink RX6 37 yX6_share, Cond.instanceMethod yX6_share]
def wsX6_bestWithout_r4 : List Cond := [Cond.selects RX6 yX6_share yX6_share, Cond.code yX6_share cX6_share 6 (some .int)]
def wsX6_bestWithout : List Cond := .code yX6_bestWithout cX6_bestWithout 9 (some .int) :: ((wsX6_bestWithout_r1 ++ (wsX6_bestWithout_r2 ++ (wsX6_bestWithout_r3 ++ wsX6_bestWithout_r4))) ++ wsX60)
def wsJ9_max_7cf53 : List Cond := .code yJ9_max_7cf53 cJ9_max_7cf53 2 (some .int) :: ([])
def wsJ9_min_7cf53 : List Cond := .code yJ9_min_7cf53 cJ9_min_7cf53 2 (some .int) :: ([])
def wsL_law_r1 : List Cond := [Cond.classLink RL 7 RX5, Cond.instantiable RX5 7, Cond.initialized RX5, Cond.classLink RL 10 RX6, Cond.instantiable RX6 9, Cond.initialized RX6, Cond.methodLink RL 9 yX5_init, Cond.instanceMethod yX5_init, Cond.code yX5_init cX5_init 1 none, Cond.methodLink RX5 3 objectInit, Cond.instanceMethod objectInit, Cond.code objectInit ⟨#[0xb1]⟩ 1 none, Cond.classLink RX5 9 RX1, Cond.instantiable RX1 9, Cond.initialized RX1, Cond.fieldLink RX5 12 "CousinShares" "now" "LCousinShares$Harvest;", Cond.classLink RX5 16 RX0, Cond.instantiable RX0 8, Cond.initialized RX0, Cond.fieldLink RX5 21 "CousinShares" "division" "LCousinShares$Division;", Cond.classLink RX5 25 RX4, Cond.instantiable RX4 5, Cond.initialized RX4, Cond.fieldLink RX5 28 "CousinShares" "shares" "LCousinShares$Shares;"]
def wsL_law_r2 : List Cond := [Cond.classLink RX5 32 RX3, Cond.instantiable RX3 8, Cond.initialized RX3, Cond.fieldLink RX5 35 "CousinShares" "text" "LCousinShares$OrderText;", Cond.classLink RX5 39 RX2, Cond.instantiable RX2 2, Cond.initialized RX2, Cond.fieldLink RX5 42 "CousinShares" "history" "LCousinShares$History;", Cond.fieldLink RX5 46 "CousinShares" "snapshot" "LCousinShares$Harvest;", Cond.fieldLink RX5 49 "CousinShares" "hasSnapshot" "Z", Cond.methodLink RX5 11 yX1_init, Cond.instanceMethod yX1_init, Cond.code yX1_init cX1_init 2 none, Cond.methodLink RX1 3 objectInit, Cond.arrayClass .int, Cond.fieldLink RX1 9 "CousinShares$Harvest" "amounts" "[I", Cond.fieldLink RX1 15 "CousinShares$Harvest" "weights" "[I", Cond.fieldLink RX1 18 "CousinShares$Harvest" "grudges" "[I", Cond.fieldLink RX1 21 "CousinShares$Harvest" "owners" "[I", Cond.fieldLink RX1 24 "CousinShares$Harvest" "settings" "[I", Cond.fieldLink RX1 27 "CousinShares$Harvest" "worths" "[I", Cond.methodLink RX1 30 yX1_weighPlots, Cond.instanceMethod yX1_weighPlots, Cond.selects RX1 yX1_weighPlots yX1_weighPlots]
def wsL_law_r3 : List Cond := [Cond.code yX1_weighPlots cX1_weighPlots 3 none, Cond.methodLink RX1 50 yX1_weighPlot, Cond.instanceMethod yX1_weighPlot, Cond.selects RX1 yX1_weighPlot yX1_weighPlot, Cond.code yX1_weighPlot cX1_weighPlot 5 none, Cond.methodLink RX5 18 yX0_init, Cond.instanceMethod yX0_init, Cond.code yX0_init cX0_init 2 none, Cond.methodLink RX0 3 objectInit, Cond.fieldLink RX0 9 "CousinShares$Division" "owners" "[I", Cond.fieldLink RX0 15 "CousinShares$Division" "byOrder" "[I", Cond.fieldLink RX0 18 "CousinShares$Division" "harvest" "LCousinShares$Harvest;", Cond.methodLink RX5 27 yX4_init, Cond.instanceMethod yX4_init, Cond.code yX4_init cX4_init 2 none, Cond.methodLink RX4 3 objectInit, Cond.fieldLink RX4 9 "CousinShares$Shares" "worths" "[I", Cond.fieldLink RX4 15 "CousinShares$Shares" "harvest" "LCousinShares$Harvest;", Cond.instanceMethod yX3_init, Cond.code yX3_init cX3_init 1 none, Cond.methodLink RX3 3 objectInit, Cond.fieldLink RX3 9 "CousinShares$OrderText" "digits" "[I", Cond.arrayClass .char, Cond.fieldLink RX3 15 "CousinShares$OrderText" "signs" "[C"]
def wsL_law_r4 : List Cond := [Cond.methodLink RX5 41 yX2_init, Cond.instanceMethod yX2_init, Cond.code yX2_init cX2_init 2 none, Cond.methodLink RX2 3 objectInit, Cond.classLink RX2 9 RX1, Cond.fieldLink RX2 11 "CousinShares$History" "states" "[LCousinShares$Harvest;", Cond.methodLink RX2 17 yX1_init, Cond.methodLink RL 12 yX6_init, Cond.instanceMethod yX6_init, Cond.code yX6_init cX6_init 2 none, Cond.methodLink RX6 1 objectInit, Cond.fieldLink RX6 7 "CousinSharesModel" "s" "[I", Cond.fieldLink RX6 13 "CousinSharesModel" "past" "[I", Cond.fieldLink RX6 16 "CousinSharesModel" "snap" "[I", Cond.fieldLink RX6 19 "CousinSharesModel" "text" "[I", Cond.fieldLink RX6 22 "CousinSharesModel" "order" "[I", Cond.methodLink RL 13 yX5_plant, Cond.instanceMethod yX5_plant, Cond.selects RX5 yX5_plant yX5_plant, Cond.code yX5_plant cX5_plant 5 (some .int), Cond.fieldLink RX5 63 "CousinShares$Harvest" "amounts" "[I", Cond.methodLink RX5 53 yX5_isPlot, Cond.static yX5_isPlot, Cond.code yX5_isPlot cX5_isPlot 1 (some .boolean)]
def wsL_law_r5 : List Cond := [Cond.methodLink RX5 57 yX5_isCrop, Cond.static yX5_isCrop, Cond.code yX5_isCrop cX5_isCrop 1 (some .boolean), Cond.methodLink RX5 60 yX5_isDigit, Cond.static yX5_isDigit, Cond.code yX5_isDigit cX5_isDigit 1 (some .boolean), Cond.methodLink RX5 67 yX2_record, Cond.instanceMethod yX2_record, Cond.selects RX2 yX2_record yX2_record, Cond.code yX2_record cX2_record 2 none, Cond.fieldLink RX2 18 "CousinShares$History" "count" "I", Cond.methodLink RX2 22 yX2_dropOldest, Cond.instanceMethod yX2_dropOldest, Cond.selects RX2 yX2_dropOldest yX2_dropOldest, Cond.code yX2_dropOldest cX2_dropOldest 3 none, Cond.methodLink RX2 25 yX1_copyFrom, Cond.instanceMethod yX1_copyFrom, Cond.selects RX1 yX1_copyFrom yX1_copyFrom, Cond.code yX1_copyFrom cX1_copyFrom 2 none, Cond.methodLink RX1 34 arraycopyName, Cond.native arraycopyName, Cond.static arraycopyName, Cond.initialized "java/lang/System", Cond.fieldLink RX1 40 "CousinShares$Harvest" "trims" "I"]
def wsL_law_r6 : List Cond := [Cond.fieldLink RX1 44 "CousinShares$Harvest" "grudgeTrims" "I", Cond.fieldLink RX1 47 "CousinShares$Harvest" "trades" "I", Cond.methodLink RX5 70 yX1_putAmount, Cond.instanceMethod yX1_putAmount, Cond.selects RX1 yX1_putAmount yX1_putAmount, Cond.code yX1_putAmount cX1_putAmount 5 none, Cond.methodLink RL 17 yX6_plant, Cond.instanceMethod yX6_plant, Cond.selects RX6 yX6_plant yX6_plant, Cond.code yX6_plant cX6_plant 4 (some .int), Cond.methodLink RX6 102 yX6_isPlot, Cond.static yX6_isPlot, Cond.code yX6_isPlot cX6_isPlot 1 (some .boolean), Cond.methodLink RX6 25 yX6_in, Cond.static yX6_in, Cond.code yX6_in cX6_in 3 (some .boolean), Cond.methodLink RX6 106 yX6_isCrop, Cond.static yX6_isCrop, Cond.code yX6_isCrop cX6_isCrop 1 (some .boolean), Cond.methodLink RX6 109 yX6_changes, Cond.instanceMethod yX6_changes, Cond.selects RX6 yX6_changes yX6_changes, Cond.code yX6_changes cX6_changes 4 (some .int), Cond.methodLink RX6 99 yX6_remembers]
def wsL_law_r7 : List Cond := [Cond.instanceMethod yX6_remembers, Cond.selects RX6 yX6_remembers yX6_remembers, Cond.code yX6_remembers cX6_remembers 2 none, Cond.fieldLink RX6 29 "CousinSharesModel" "known" "I", Cond.methodLink RL 18 yX5_weigh, Cond.instanceMethod yX5_weigh, Cond.selects RX5 yX5_weigh yX5_weigh, Cond.code yX5_weigh cX5_weigh 5 (some .int), Cond.fieldLink RX5 77 "CousinShares$Harvest" "weights" "[I", Cond.methodLink RX5 74 yX5_isCousin, Cond.static yX5_isCousin, Cond.code yX5_isCousin cX5_isCousin 1 (some .boolean), Cond.methodLink RX5 80 yX1_putWeight, Cond.instanceMethod yX1_putWeight, Cond.selects RX1 yX1_putWeight yX1_putWeight, Cond.code yX1_putWeight cX1_putWeight 4 none, Cond.methodLink RL 21 yX6_weigh, Cond.instanceMethod yX6_weigh, Cond.selects RX6 yX6_weigh yX6_weigh, Cond.code yX6_weigh cX6_weigh 4 (some .int), Cond.methodLink RX6 112 yX6_isCousin, Cond.static yX6_isCousin, Cond.code yX6_isCousin cX6_isCousin 1 (some .boolean), Cond.methodLink RL 22 yX5_grudge]
def wsL_law_r8 : List Cond := [Cond.instanceMethod yX5_grudge, Cond.selects RX5 yX5_grudge yX5_grudge, Cond.code yX5_grudge cX5_grudge 5 (some .int), Cond.methodLink RX5 83 yX1_grudgeOf, Cond.instanceMethod yX1_grudgeOf, Cond.selects RX1 yX1_grudgeOf yX1_grudgeOf, Cond.code yX1_grudgeOf cX1_grudgeOf 3 (some .int), Cond.methodLink RX5 87 yX1_putGrudge, Cond.instanceMethod yX1_putGrudge, Cond.selects RX1 yX1_putGrudge yX1_putGrudge, Cond.code yX1_putGrudge cX1_putGrudge 4 none, Cond.methodLink RL 25 yX6_grudge, Cond.instanceMethod yX6_grudge, Cond.selects RX6 yX6_grudge yX6_grudge, Cond.code yX6_grudge cX6_grudge 4 (some .int), Cond.methodLink RL 26 yX5_set, Cond.instanceMethod yX5_set, Cond.selects RX5 yX5_set yX5_set, Cond.code yX5_set cX5_set 4 (some .int), Cond.fieldLink RX5 94 "CousinShares$Harvest" "settings" "[I", Cond.methodLink RX5 90 yX5_isSettingValue, Cond.static yX5_isSettingValue, Cond.code yX5_isSettingValue cX5_isSettingValue 2 (some .boolean), Cond.methodLink RL 30 yX6_set]
def wsL_law_r9 : List Cond := [Cond.instanceMethod yX6_set, Cond.selects RX6 yX6_set yX6_set, Cond.code yX6_set cX6_set 4 (some .int), Cond.methodLink RL 31 yX5_divide, Cond.instanceMethod yX5_divide, Cond.selects RX5 yX5_divide yX5_divide, Cond.code yX5_divide cX5_divide 2 (some .int), Cond.fieldLink RX5 104 "CousinShares$Division" "trims" "I", Cond.methodLink RX5 97 yX5_isParty, Cond.static yX5_isParty, Cond.code yX5_isParty cX5_isParty 1 (some .boolean), Cond.methodLink RX5 100 yX5_divideNow, Cond.instanceMethod yX5_divideNow, Cond.selects RX5 yX5_divideNow yX5_divideNow, Cond.code yX5_divideNow cX5_divideNow 2 none, Cond.fieldLink RX5 220 "CousinShares$Division" "owners" "[I", Cond.fieldLink RX5 108 "CousinShares$Harvest" "owners" "[I", Cond.methodLink RX5 230 arraycopyName, Cond.fieldLink RX5 209 "CousinShares$Harvest" "trims" "I", Cond.fieldLink RX5 210 "CousinShares$Harvest" "grudgeTrims" "I", Cond.fieldLink RX5 219 "CousinShares$Division" "grudgeTrims" "I", Cond.methodLink RX5 216 yX0_run, Cond.instanceMethod yX0_run, Cond.selects RX0 yX0_run yX0_run]
def wsL_law_r10 : List Cond := [Cond.code yX0_run cX0_run 5 none, Cond.fieldLink RX0 22 "CousinShares$Division" "trims" "I", Cond.fieldLink RX0 26 "CousinShares$Division" "grudgeTrims" "I", Cond.fieldLink RX0 42 "CousinShares$Division" "pieceSize" "I", Cond.fieldLink RX0 45 "CousinShares$Division" "holder" "I", Cond.fieldLink RX0 58 "CousinShares$Division" "lastCousin" "I", Cond.methodLink RX0 29 yX0_lineUp, Cond.instanceMethod yX0_lineUp, Cond.selects RX0 yX0_lineUp yX0_lineUp, Cond.code yX0_lineUp cX0_lineUp 3 none, Cond.methodLink RX0 61 yX1_isAhead, Cond.instanceMethod yX1_isAhead, Cond.selects RX1 yX1_isAhead yX1_isAhead, Cond.code yX1_isAhead cX1_isAhead 5 (some .boolean), Cond.methodLink RX1 54 yX1_grudgesOf, Cond.instanceMethod yX1_grudgesOf, Cond.selects RX1 yX1_grudgesOf yX1_grudgesOf, Cond.code yX1_grudgesOf cX1_grudgesOf 4 (some .int), Cond.methodLink RX0 32 yJ6_bitCount_0f7a4, Cond.static yJ6_bitCount_0f7a4, Cond.initialized RJ6, Cond.code yJ6_bitCount_0f7a4 cJ6_bitCount_0f7a4 1 (some .int), Cond.constant RJ6 265 (1431655765), Cond.constant RJ6 266 (858993459)]
def wsL_law_r11 : List Cond := [Cond.constant RJ6 267 (252645135), Cond.methodLink RX0 38 yX0_cutAndTrim, Cond.instanceMethod yX0_cutAndTrim, Cond.selects RX0 yX0_cutAndTrim yX0_cutAndTrim, Cond.code yX0_cutAndTrim cX0_cutAndTrim 7 none, Cond.static yX5_contains, Cond.code yX5_contains cX5_contains 2 (some .boolean), Cond.methodLink RX0 70 yX0_fairPiece, Cond.instanceMethod yX0_fairPiece, Cond.selects RX0 yX0_fairPiece yX0_fairPiece, Cond.code yX0_fairPiece cX0_fairPiece 7 (some .int), Cond.methodLink RX0 87 yX1_worthFrom, Cond.instanceMethod yX1_worthFrom, Cond.selects RX1 yX1_worthFrom yX1_worthFrom, Cond.code yX1_worthFrom cX1_worthFrom 5 (some .int), Cond.methodLink RX0 90 yX1_worthOf, Cond.instanceMethod yX1_worthOf, Cond.selects RX1 yX1_worthOf yX1_worthOf, Cond.code yX1_worthOf cX1_worthOf 3 (some .int), Cond.methodLink RX0 74 yX0_hold, Cond.instanceMethod yX0_hold, Cond.selects RX0 yX0_hold yX0_hold, Cond.code yX0_hold cX0_hold 3 none, Cond.methodLink RX0 78 yX0_mayTrim]
def wsL_law_r12 : List Cond := [Cond.instanceMethod yX0_mayTrim, Cond.selects RX0 yX0_mayTrim yX0_mayTrim, Cond.code yX0_mayTrim cX0_mayTrim 3 none, Cond.fieldLink RX0 84 "CousinShares$Harvest" "settings" "[I", Cond.methodLink RX0 81 yX1_grudgeOf, Cond.methodLink RX0 48 yX0_handOut, Cond.instanceMethod yX0_handOut, Cond.selects RX0 yX0_handOut yX0_handOut, Cond.code yX0_handOut cX0_handOut 5 none, Cond.static yX5_without, Cond.code yX5_without cX5_without 2 (some .int), Cond.methodLink RX0 55 yX0_firstOf, Cond.instanceMethod yX0_firstOf, Cond.selects RX0 yX0_firstOf yX0_firstOf, Cond.code yX0_firstOf cX0_firstOf 3 (some .int), Cond.methodLink RL 35 yX6_divide, Cond.instanceMethod yX6_divide, Cond.selects RX6 yX6_divide yX6_divide, Cond.code yX6_divide cX6_divide 2 (some .int), Cond.methodLink RX6 115 yX6_divides, Cond.instanceMethod yX6_divides, Cond.selects RX6 yX6_divides yX6_divides, Cond.code yX6_divides cX6_divides 7 (some .int), Cond.fieldLink RX6 83 "CousinSharesModel" "lastOne" "I"]
def wsL_law_r13 : List Cond := [Cond.methodLink RX6 73 yX6_orders, Cond.instanceMethod yX6_orders, Cond.selects RX6 yX6_orders yX6_orders, Cond.code yX6_orders cX6_orders 2 none, Cond.methodLink RX6 61 yX6_placeOf, Cond.instanceMethod yX6_placeOf, Cond.selects RX6 yX6_placeOf yX6_placeOf, Cond.code yX6_placeOf cX6_placeOf 4 (some .int), Cond.methodLink RX6 57 yX6_isAhead, Cond.instanceMethod yX6_isAhead, Cond.selects RX6 yX6_isAhead yX6_isAhead, Cond.code yX6_isAhead cX6_isAhead 4 (some .boolean), Cond.methodLink RX6 53 yX6_grudges, Cond.instanceMethod yX6_grudges, Cond.selects RX6 yX6_grudges yX6_grudges, Cond.code yX6_grudges cX6_grudges 4 (some .int), Cond.methodLink RX6 41 yX6_grudgeOf, Cond.instanceMethod yX6_grudgeOf, Cond.selects RX6 yX6_grudgeOf yX6_grudgeOf, Cond.code yX6_grudgeOf cX6_grudgeOf 3 (some .int), Cond.methodLink RX6 67 yX6_ones, Cond.static yX6_ones, Cond.code yX6_ones cX6_ones 3 (some .int), Cond.methodLink RX6 76 yX6_round]
def wsL_law_r14 : List Cond := [Cond.instanceMethod yX6_round, Cond.selects RX6 yX6_round yX6_round, Cond.code yX6_round cX6_round 13 (some .int), Cond.methodLink RX6 70 yX6_fair, Cond.instanceMethod yX6_fair, Cond.selects RX6 yX6_fair yX6_fair, Cond.code yX6_fair cX6_fair 7 (some .int), Cond.methodLink RX6 64 yX6_worthFrom, Cond.instanceMethod yX6_worthFrom, Cond.selects RX6 yX6_worthFrom yX6_worthFrom, Cond.code yX6_worthFrom cX6_worthFrom 5 (some .int), Cond.methodLink RX6 33 yX6_worth, Cond.instanceMethod yX6_worth, Cond.selects RX6 yX6_worth yX6_worth, Cond.code yX6_worth cX6_worth 5 (some .int), Cond.methodLink RX6 79 yX6_gets, Cond.instanceMethod yX6_gets, Cond.selects RX6 yX6_gets yX6_gets, Cond.code yX6_gets cX6_gets 6 none, Cond.methodLink RL 36 yX5_give, Cond.instanceMethod yX5_give, Cond.selects RX5 yX5_give yX5_give, Cond.code yX5_give cX5_give 4 (some .int), Cond.methodLink RL 39 yX6_give]
def wsL_law_r15 : List Cond := [Cond.instanceMethod yX6_give, Cond.selects RX6 yX6_give yX6_give, Cond.code yX6_give cX6_give 3 (some .int), Cond.methodLink RL 40 yX5_trade, Cond.instanceMethod yX5_trade, Cond.selects RX5 yX5_trade yX5_trade, Cond.code yX5_trade cX5_trade 4 (some .int), Cond.methodLink RX5 111 yX4_measure, Cond.instanceMethod yX4_measure, Cond.selects RX4 yX4_measure yX4_measure, Cond.code yX4_measure cX4_measure 5 none, Cond.methodLink RX4 23 yX1_worthOf, Cond.methodLink RX5 115 yX4_whyNoTrade, Cond.instanceMethod yX4_whyNoTrade, Cond.selects RX4 yX4_whyNoTrade yX4_whyNoTrade, Cond.code yX4_whyNoTrade cX4_whyNoTrade 4 (some .int), Cond.fieldLink RX4 55 "CousinShares$Harvest" "settings" "[I", Cond.methodLink RX4 58 yX1_grudgeOf, Cond.methodLink RX4 35 yX4_worthOf, Cond.instanceMethod yX4_worthOf, Cond.selects RX4 yX4_worthOf yX4_worthOf, Cond.code yX4_worthOf cX4_worthOf 3 (some .int), Cond.methodLink RX5 118 yX5_tradeNow, Cond.instanceMethod yX5_tradeNow]
def wsL_law_r16 : List Cond := [Cond.selects RX5 yX5_tradeNow yX5_tradeNow, Cond.code yX5_tradeNow cX5_tradeNow 3 none, Cond.fieldLink RX5 213 "CousinShares$Harvest" "trades" "I", Cond.methodLink RX5 236 yX1_exchange, Cond.instanceMethod yX1_exchange, Cond.selects RX1 yX1_exchange yX1_exchange, Cond.code yX1_exchange cX1_exchange 4 none, Cond.methodLink RX5 239 yX4_exchange, Cond.instanceMethod yX4_exchange, Cond.selects RX4 yX4_exchange yX4_exchange, Cond.code yX4_exchange cX4_exchange 5 none, Cond.methodLink RX5 122 yX4_enviesAmong, Cond.instanceMethod yX4_enviesAmong, Cond.selects RX4 yX4_enviesAmong yX4_enviesAmong, Cond.code yX4_enviesAmong cX4_enviesAmong 4 (some .int), Cond.methodLink RX4 48 yX4_enviesOf, Cond.instanceMethod yX4_enviesOf, Cond.selects RX4 yX4_enviesOf yX4_enviesOf, Cond.code yX4_enviesOf cX4_enviesOf 5 (some .int), Cond.methodLink RX4 45 yX4_envy, Cond.instanceMethod yX4_envy, Cond.selects RX4 yX4_envy yX4_envy, Cond.code yX4_envy cX4_envy 3 (some .int), Cond.methodLink RX4 36 Lib.Math.max.name]
def wsL_law_r17 : List Cond := [Cond.static Lib.Math.max.name, Cond.initialized "java/lang/Math", Cond.code Lib.Math.max.name Lib.Math.max.code 2 (some .int), Cond.methodLink RX4 32 yX4_seeming, Cond.instanceMethod yX4_seeming, Cond.selects RX4 yX4_seeming yX4_seeming, Cond.code yX4_seeming cX4_seeming 4 (some .int), Cond.fieldLink RX4 29 "CousinShares$Harvest" "grudges" "[I", Cond.methodLink RL 43 yX6_trade, Cond.instanceMethod yX6_trade, Cond.selects RX6 yX6_trade yX6_trade, Cond.code yX6_trade cX6_trade 4 (some .int), Cond.methodLink RX6 86 yX6_reason, Cond.instanceMethod yX6_reason, Cond.selects RX6 yX6_reason yX6_reason, Cond.code yX6_reason cX6_reason 7 (some .int), Cond.methodLink RX6 37 yX6_share, Cond.instanceMethod yX6_share, Cond.selects RX6 yX6_share yX6_share, Cond.code yX6_share cX6_share 6 (some .int), Cond.methodLink RX6 89 yX6_trades, Cond.instanceMethod yX6_trades, Cond.selects RX6 yX6_trades yX6_trades, Cond.code yX6_trades cX6_trades 6 none]
def wsL_law_r18 : List Cond := [Cond.methodLink RX6 93 yX6_allEnvies, Cond.instanceMethod yX6_allEnvies, Cond.selects RX6 yX6_allEnvies yX6_allEnvies, Cond.code yX6_allEnvies cX6_allEnvies 2 (some .int), Cond.methodLink RX6 50 yX6_envies, Cond.instanceMethod yX6_envies, Cond.selects RX6 yX6_envies yX6_envies, Cond.code yX6_envies cX6_envies 7 (some .int), Cond.methodLink RX6 47 yX6_envy, Cond.instanceMethod yX6_envy, Cond.selects RX6 yX6_envy yX6_envy, Cond.code yX6_envy cX6_envy 5 (some .int), Cond.methodLink RX6 44 yX6_seems, Cond.instanceMethod yX6_seems, Cond.selects RX6 yX6_seems yX6_seems, Cond.code yX6_seems cX6_seems 4 (some .int), Cond.methodLink RL 44 yX5_settle, Cond.instanceMethod yX5_settle, Cond.selects RX5 yX5_settle yX5_settle, Cond.code yX5_settle cX5_settle 2 (some .int), Cond.fieldLink RX5 130 "CousinShares$Shares" "bestFirst" "I", Cond.fieldLink RX5 133 "CousinShares$Shares" "bestSecond" "I", Cond.methodLink RX5 126 yX4_findBestTrade, Cond.instanceMethod yX4_findBestTrade]
def wsL_law_r19 : List Cond := [Cond.selects RX4 yX4_findBestTrade yX4_findBestTrade, Cond.code yX4_findBestTrade cX4_findBestTrade 5 (some .boolean), Cond.fieldLink RX4 67 "CousinShares$Shares" "bestSum" "I", Cond.fieldLink RX4 71 "CousinShares$Shares" "bestFirst" "I", Cond.fieldLink RX4 74 "CousinShares$Shares" "bestSecond" "I", Cond.methodLink RX4 61 yX4_whyNoTrade, Cond.methodLink RX4 64 yX4_enviesAfterTrade, Cond.instanceMethod yX4_enviesAfterTrade, Cond.selects RX4 yX4_enviesAfterTrade yX4_enviesAfterTrade, Cond.code yX4_enviesAfterTrade cX4_enviesAfterTrade 4 (some .int), Cond.methodLink RX4 77 yX4_exchange, Cond.methodLink RX4 81 yX4_enviesAmong, Cond.methodLink RL 48 yX6_settle, Cond.instanceMethod yX6_settle, Cond.selects RX6 yX6_settle yX6_settle, Cond.code yX6_settle cX6_settle 1 (some .int), Cond.methodLink RX6 96 yX6_best, Cond.instanceMethod yX6_best, Cond.selects RX6 yX6_best yX6_best, Cond.code yX6_best cX6_best 8 (some .int), Cond.methodLink RX6 118 yX6_settles, Cond.instanceMethod yX6_settles, Cond.selects RX6 yX6_settles yX6_settles, Cond.code yX6_settles cX6_settles 4 (some .int)]
def wsL_law_r20 : List Cond := [Cond.methodLink RL 49 yX5_type, Cond.instanceMethod yX5_type, Cond.selects RX5 yX5_type yX5_type, Cond.code yX5_type cX5_type 2 (some .int), Cond.fieldLink RX5 136 "CousinShares$OrderText" "length" "I", Cond.methodLink RX5 139 yX3_append, Cond.instanceMethod yX3_append, Cond.selects RX3 yX3_append yX3_append, Cond.code yX3_append cX3_append 2 none, Cond.fieldLink RX3 19 "CousinShares$OrderText" "length" "I", Cond.methodLink RL 53 yX6_type, Cond.instanceMethod yX6_type, Cond.selects RX6 yX6_type yX6_type, Cond.code yX6_type cX6_type 2 (some .int), Cond.fieldLink RX6 121 "CousinSharesModel" "length" "I", Cond.methodLink RL 54 yX5_clearText, Cond.instanceMethod yX5_clearText, Cond.selects RX5 yX5_clearText yX5_clearText, Cond.code yX5_clearText cX5_clearText 2 (some .int), Cond.methodLink RL 57 yX6_clearText, Cond.instanceMethod yX6_clearText, Cond.selects RX6 yX6_clearText yX6_clearText, Cond.code yX6_clearText cX6_clearText 2 (some .int), Cond.methodLink RL 58 yX5_perform]
def wsL_law_r21 : List Cond := [Cond.instanceMethod yX5_perform, Cond.selects RX5 yX5_perform yX5_perform, Cond.code yX5_perform cX5_perform 3 (some .int), Cond.fieldLink RX5 147 "CousinShares$OrderText" "at" "I", Cond.methodLink RX5 143 yX3_countOrders, Cond.instanceMethod yX3_countOrders, Cond.selects RX3 yX3_countOrders yX3_countOrders, Cond.code yX3_countOrders cX3_countOrders 2 (some .int), Cond.fieldLink RX3 23 "CousinShares$OrderText" "at" "I", Cond.methodLink RX3 26 yX3_readOrder, Cond.instanceMethod yX3_readOrder, Cond.selects RX3 yX3_readOrder yX3_readOrder, Cond.code yX3_readOrder cX3_readOrder 1 (some .boolean), Cond.fieldLink RX3 34 "CousinShares$OrderText" "kind" "I", Cond.methodLink RX3 30 yX3_readSign, Cond.instanceMethod yX3_readSign, Cond.selects RX3 yX3_readSign yX3_readSign, Cond.code yX3_readSign cX3_readSign 2 (some .boolean), Cond.methodLink RX3 37 yX3_readPlot, Cond.instanceMethod yX3_readPlot, Cond.selects RX3 yX3_readPlot yX3_readPlot, Cond.code yX3_readPlot cX3_readPlot 2 (some .boolean), Cond.fieldLink RX3 57 "CousinShares$OrderText" "first" "I", Cond.methodLink RX3 60 Lib.Math.min.name]
def wsL_law_r22 : List Cond := [Cond.static Lib.Math.min.name, Cond.code Lib.Math.min.name Lib.Math.min.code 2 (some .int), Cond.methodLink RX3 53 yX3_readDigit, Cond.instanceMethod yX3_readDigit, Cond.selects RX3 yX3_readDigit yX3_readDigit, Cond.code yX3_readDigit cX3_readDigit 4 (some .int), Cond.methodLink RX3 40 yX3_readDigits, Cond.instanceMethod yX3_readDigits, Cond.selects RX3 yX3_readDigits yX3_readDigits, Cond.code yX3_readDigits cX3_readDigits 4 (some .boolean), Cond.methodLink RX3 44 yX3_readCousin, Cond.instanceMethod yX3_readCousin, Cond.selects RX3 yX3_readCousin yX3_readCousin, Cond.code yX3_readCousin cX3_readCousin 1 (some .boolean), Cond.methodLink RX3 47 yX3_readOther, Cond.instanceMethod yX3_readOther, Cond.selects RX3 yX3_readOther yX3_readOther, Cond.code yX3_readOther cX3_readOther 1 (some .boolean), Cond.fieldLink RX3 65 "CousinShares$OrderText" "second" "I", Cond.methodLink RX3 50 yX3_readParty, Cond.instanceMethod yX3_readParty, Cond.selects RX3 yX3_readParty yX3_readParty, Cond.code yX3_readParty cX3_readParty 4 (some .boolean), Cond.fieldLink RX3 68 "CousinShares$OrderText" "party" "I"]
def wsL_law_r23 : List Cond := [Cond.methodLink RX5 150 yX3_readOrder, Cond.methodLink RX5 153 yX5_carryOutOrder, Cond.instanceMethod yX5_carryOutOrder, Cond.selects RX5 yX5_carryOutOrder yX5_carryOutOrder, Cond.code yX5_carryOutOrder cX5_carryOutOrder 2 none, Cond.fieldLink RX5 243 "CousinShares$OrderText" "kind" "I", Cond.fieldLink RX5 246 "CousinShares$OrderText" "first" "I", Cond.fieldLink RX5 249 "CousinShares$OrderText" "digits" "[I", Cond.fieldLink RX5 252 "CousinShares$OrderText" "second" "I", Cond.fieldLink RX5 255 "CousinShares$OrderText" "party" "I", Cond.methodLink RX5 156 yX3_readSign, Cond.methodLink RL 61 yX6_perform, Cond.instanceMethod yX6_perform, Cond.selects RX6 yX6_perform yX6_perform, Cond.code yX6_perform cX6_perform 4 (some .int), Cond.methodLink RX6 146 yX6_fault, Cond.instanceMethod yX6_fault, Cond.selects RX6 yX6_fault yX6_fault, Cond.code yX6_fault cX6_fault 4 (some .int), Cond.methodLink RX6 139 yX6_orderEnd, Cond.instanceMethod yX6_orderEnd, Cond.selects RX6 yX6_orderEnd yX6_orderEnd, Cond.code yX6_orderEnd cX6_orderEnd 4 (some .int), Cond.methodLink RX6 127 yX6_digit]
def wsL_law_r24 : List Cond := [Cond.instanceMethod yX6_digit, Cond.selects RX6 yX6_digit yX6_digit, Cond.code yX6_digit cX6_digit 2 (some .int), Cond.methodLink RX6 124 yX6_sign, Cond.instanceMethod yX6_sign, Cond.selects RX6 yX6_sign yX6_sign, Cond.code yX6_sign cX6_sign 2 (some .int), Cond.methodLink RX6 130 yX6_plotEnd, Cond.instanceMethod yX6_plotEnd, Cond.selects RX6 yX6_plotEnd yX6_plotEnd, Cond.code yX6_plotEnd cX6_plotEnd 4 (some .int), Cond.methodLink RX6 133 yX6_digitsEnd, Cond.instanceMethod yX6_digitsEnd, Cond.selects RX6 yX6_digitsEnd yX6_digitsEnd, Cond.code yX6_digitsEnd cX6_digitsEnd 4 (some .int), Cond.methodLink RX6 136 yX6_cousinsEnd, Cond.instanceMethod yX6_cousinsEnd, Cond.selects RX6 yX6_cousinsEnd yX6_cousinsEnd, Cond.code yX6_cousinsEnd cX6_cousinsEnd 4 (some .int), Cond.methodLink RX6 150 yX6_does, Cond.instanceMethod yX6_does, Cond.selects RX6 yX6_does yX6_does, Cond.code yX6_does cX6_does 7 none, Cond.methodLink RX6 142 yX6_setsFour]
def wsL_law_r25 : List Cond := [Cond.instanceMethod yX6_setsFour, Cond.selects RX6 yX6_setsFour yX6_setsFour, Cond.code yX6_setsFour cX6_setsFour 4 none, Cond.methodLink RL 62 yX5_undo, Cond.instanceMethod yX5_undo, Cond.selects RX5 yX5_undo yX5_undo, Cond.code yX5_undo cX5_undo 1 (some .int), Cond.fieldLink RX5 160 "CousinShares$History" "count" "I", Cond.methodLink RX5 163 yX2_takeLatest, Cond.instanceMethod yX2_takeLatest, Cond.selects RX2 yX2_takeLatest yX2_takeLatest, Cond.code yX2_takeLatest cX2_takeLatest 2 none, Cond.methodLink RL 65 yX6_undo, Cond.instanceMethod yX6_undo, Cond.selects RX6 yX6_undo yX6_undo, Cond.code yX6_undo cX6_undo 2 (some .int), Cond.methodLink RL 66 yX5_keep, Cond.instanceMethod yX5_keep, Cond.selects RX5 yX5_keep yX5_keep, Cond.code yX5_keep cX5_keep 1 (some .int), Cond.methodLink RX5 166 yX1_copyFrom, Cond.methodLink RX5 169 yX1_plotsOf, Cond.instanceMethod yX1_plotsOf, Cond.selects RX1 yX1_plotsOf yX1_plotsOf]
def wsL_law_r26 : List Cond := [Cond.code yX1_plotsOf cX1_plotsOf 4 (some .int), Cond.methodLink RL 69 yX6_keep, Cond.instanceMethod yX6_keep, Cond.selects RX6 yX6_keep yX6_keep, Cond.code yX6_keep cX6_keep 2 (some .int), Cond.fieldLink RX6 154 "CousinSharesModel" "isKept" "Z", Cond.methodLink RX6 158 yX6_plotsOf, Cond.instanceMethod yX6_plotsOf, Cond.selects RX6 yX6_plotsOf yX6_plotsOf, Cond.code yX6_plotsOf cX6_plotsOf 5 (some .int), Cond.methodLink RL 70 yX5_restore, Cond.instanceMethod yX5_restore, Cond.selects RX5 yX5_restore yX5_restore, Cond.code yX5_restore cX5_restore 1 (some .int), Cond.methodLink RL 73 yX6_restore, Cond.instanceMethod yX6_restore, Cond.selects RX6 yX6_restore yX6_restore, Cond.code yX6_restore cX6_restore 2 (some .int), Cond.methodLink RL 74 yX5_plot, Cond.instanceMethod yX5_plot, Cond.selects RX5 yX5_plot yX5_plot, Cond.code yX5_plot cX5_plot 3 (some .int), Cond.methodLink RX5 172 yX1_worthOf, Cond.methodLink RL 77 yX6_plot]
def wsL_law_r27 : List Cond := [Cond.instanceMethod yX6_plot, Cond.selects RX6 yX6_plot yX6_plot, Cond.code yX6_plot cX6_plot 3 (some .int), Cond.methodLink RL 78 yX5_cousin, Cond.instanceMethod yX5_cousin, Cond.selects RX5 yX5_cousin yX5_cousin, Cond.code yX5_cousin cX5_cousin 3 (some .int), Cond.methodLink RX5 175 yX4_worthOf, Cond.methodLink RX5 176 yX1_worthFrom, Cond.methodLink RX5 179 yX5_hundredths, Cond.static yX5_hundredths, Cond.code yX5_hundredths cX5_hundredths 2 (some .int), Cond.methodLink RX5 182 yX1_grudgesOf, Cond.methodLink RX5 185 yX4_enviesOf, Cond.methodLink RX5 188 yX4_greatestEnvyOf, Cond.instanceMethod yX4_greatestEnvyOf, Cond.selects RX4 yX4_greatestEnvyOf yX4_greatestEnvyOf, Cond.code yX4_greatestEnvyOf cX4_greatestEnvyOf 4 (some .int), Cond.methodLink RX5 191 yX4_enviesTowards, Cond.instanceMethod yX4_enviesTowards, Cond.selects RX4 yX4_enviesTowards yX4_enviesTowards, Cond.code yX4_enviesTowards cX4_enviesTowards 4 (some .int), Cond.methodLink RX5 194 yX1_placeOf, Cond.instanceMethod yX1_placeOf]
def wsL_law_r28 : List Cond := [Cond.selects RX1 yX1_placeOf yX1_placeOf, Cond.code yX1_placeOf cX1_placeOf 4 (some .int), Cond.methodLink RX1 58 yX1_isAhead, Cond.methodLink RL 81 yX6_cousin, Cond.instanceMethod yX6_cousin, Cond.selects RX6 yX6_cousin yX6_cousin, Cond.code yX6_cousin cX6_cousin 3 (some .int), Cond.methodLink RX6 161 yX6_hundredths, Cond.instanceMethod yX6_hundredths, Cond.selects RX6 yX6_hundredths yX6_hundredths, Cond.code yX6_hundredths cX6_hundredths 3 (some .int), Cond.methodLink RX6 164 yX6_greatestEnvy, Cond.instanceMethod yX6_greatestEnvy, Cond.selects RX6 yX6_greatestEnvy yX6_greatestEnvy, Cond.code yX6_greatestEnvy cX6_greatestEnvy 5 (some .int), Cond.methodLink RL 82 yX5_pair, Cond.instanceMethod yX5_pair, Cond.selects RX5 yX5_pair yX5_pair, Cond.code yX5_pair cX5_pair 4 (some .int), Cond.methodLink RX5 197 yX4_seeming, Cond.methodLink RX5 200 yX4_envy, Cond.methodLink RL 85 yX6_pair, Cond.instanceMethod yX6_pair, Cond.selects RX6 yX6_pair yX6_pair]
def wsL_law_r29 : List Cond := [Cond.code yX6_pair cX6_pair 4 (some .int), Cond.methodLink RL 86 yX5_total, Cond.instanceMethod yX5_total, Cond.selects RX5 yX5_total yX5_total, Cond.code yX5_total cX5_total 2 (some .int), Cond.methodLink RX5 203 yX4_contentCousins, Cond.instanceMethod yX4_contentCousins, Cond.selects RX4 yX4_contentCousins yX4_contentCousins, Cond.code yX4_contentCousins cX4_contentCousins 3 (some .int), Cond.methodLink RX4 51 yX4_greatestEnvyOf, Cond.methodLink RX5 206 yX4_tradingPairs, Cond.instanceMethod yX4_tradingPairs, Cond.selects RX4 yX4_tradingPairs yX4_tradingPairs, Cond.code yX4_tradingPairs cX4_tradingPairs 4 (some .int), Cond.methodLink RL 89 yX6_total, Cond.instanceMethod yX6_total, Cond.selects RX6 yX6_total yX6_total, Cond.code yX6_total cX6_total 2 (some .int), Cond.methodLink RX6 167 yX6_content, Cond.instanceMethod yX6_content, Cond.selects RX6 yX6_content yX6_content, Cond.code yX6_content cX6_content 3 (some .int), Cond.methodLink RX6 170 yX6_traders, Cond.instanceMethod yX6_traders]
def wsL_law_r30 : List Cond := [Cond.selects RX6 yX6_traders yX6_traders, Cond.code yX6_traders cX6_traders 3 (some .int), Cond.methodLink RL 90 yX5_ifDivided, Cond.instanceMethod yX5_ifDivided, Cond.selects RX5 yX5_ifDivided yX5_ifDivided, Cond.code yX5_ifDivided cX5_ifDivided 3 (some .int), Cond.fieldLink RX5 221 "CousinShares$Division" "lastCousin" "I", Cond.methodLink RL 93 yX6_ifDivided, Cond.instanceMethod yX6_ifDivided, Cond.selects RX6 yX6_ifDivided yX6_ifDivided, Cond.code yX6_ifDivided cX6_ifDivided 4 (some .int), Cond.methodLink RX6 173 yX6_copies, Cond.instanceMethod yX6_copies, Cond.selects RX6 yX6_copies yX6_copies, Cond.code yX6_copies cX6_copies 2 none, Cond.methodLink RL 94 yX5_bestTrade, Cond.instanceMethod yX5_bestTrade, Cond.selects RX5 yX5_bestTrade yX5_bestTrade, Cond.code yX5_bestTrade cX5_bestTrade 2 (some .int), Cond.fieldLink RX5 224 "CousinShares$Shares" "bestSum" "I", Cond.methodLink RL 97 yX6_bestTrade, Cond.instanceMethod yX6_bestTrade, Cond.selects RX6 yX6_bestTrade yX6_bestTrade, Cond.code yX6_bestTrade cX6_bestTrade 3 (some .int)]
def wsL_law_r31 : List Cond := [Cond.methodLink RL 98 yX5_bestWithout, Cond.instanceMethod yX5_bestWithout, Cond.selects RX5 yX5_bestWithout yX5_bestWithout, Cond.code yX5_bestWithout cX5_bestWithout 6 (some .int), Cond.methodLink RX5 227 yX5_enviesWithout, Cond.instanceMethod yX5_enviesWithout, Cond.selects RX5 yX5_enviesWithout yX5_enviesWithout, Cond.code yX5_enviesWithout cX5_enviesWithout 3 (some .int), Cond.methodLink RX5 240 yX5_without, Cond.methodLink RL 101 yX6_bestWithout, Cond.instanceMethod yX6_bestWithout, Cond.selects RX6 yX6_bestWithout yX6_bestWithout, Cond.code yX6_bestWithout cX6_bestWithout 9 (some .int)]
def wsL_law : List Cond := (wsL_law_r1 ++ (wsL_law_r2 ++ (wsL_law_r3 ++ (wsL_law_r4 ++ (wsL_law_r5 ++ (wsL_law_r6 ++ (wsL_law_r7 ++ (wsL_law_r8 ++ (wsL_law_r9 ++ (wsL_law_r10 ++ (wsL_law_r11 ++ (wsL_law_r12 ++ (wsL_law_r13 ++ (wsL_law_r14 ++ (wsL_law_r15 ++ (wsL_law_r16 ++ (wsL_law_r17 ++ (wsL_law_r18 ++ (wsL_law_r19 ++ (wsL_law_r20 ++ (wsL_law_r21 ++ (wsL_law_r22 ++ (wsL_law_r23 ++ (wsL_law_r24 ++ (wsL_law_r25 ++ (wsL_law_r26 ++ (wsL_law_r27 ++ (wsL_law_r28 ++ (wsL_law_r29 ++ (wsL_law_r30 ++ wsL_law_r31)))))))))))))))))))))))))))))) ++ wsX50 ++ wsX60 ++ wsX10 ++ wsX00 ++ wsX40 ++ wsX30 ++ wsX20 ++ ([] : List Cond)
set_option maxRecDepth 20000 in
theorem wsL_law_in : ∀ w ∈ wsL_law, w ∈ lw_tbl := fun w h => (goodIn_p wsL_law [73, 76, 81, 86, 90, 134, 169, 194, 233, 624, 271, 274, 277, 280, 284, 288, 292, 299, 657, 660, 663, 666, 670, 674, 303, 306, 310, 678, 681, 314, 318, 322, 685, 326, 329, 689, 333, 336, 340, 344, 348, 352, 356, 359, 366, 369, 373, 377, 381, 385, 389, 394, 397, 401, 693, 697, 701, 705, 709, 713, 717, 720, 724, 728, 732, 736, 740, 406, 744, 410, 414, 420, 425, 429, 433, 437, 441, 446, 450, 457, 454, 748, 752, 756, 760, 764, 768, 772, 776, 461, 465, 470, 780, 784, 788, 476, 480, 792, 484, 796, 488, 492, 496, 500, 504, 511, 508, 515, 519, 523, 527, 532, 800, 804, 808, 812, 816, 820, 824, 828, 832, 836, 537, 541, 840, 545, 550, 844, 848, 554, 852, 558, 856, 563, 568, 574, 578, 582, 860, 864, 868, 587, 872, 593, 597, 602, 876, 880, 884, 606, 888, 892, 610, 896, 614, 618, 900] (by decide +kernel) (by decide +kernel) w h).1
theorem inlX0 : ∀ w ∈ wsX00, w ∈ wsL_law := fun _ h => List.mem_append_left _ (List.mem_append_left _ (List.mem_append_left _ (List.mem_append_left _ (List.mem_append_right _ h))))
theorem inX0 : ∀ w ∈ wsX00, w ∈ lw_tbl := fun w h => wsL_law_in w (inlX0 w h)
theorem inlX1 : ∀ w ∈ wsX10, w ∈ wsL_law := fun _ h => List.mem_append_left _ (List.mem_append_left _ (List.mem_append_left _ (List.mem_append_left _ (List.mem_append_left _ (List.mem_append_right _ h)))))
theorem inX1 : ∀ w ∈ wsX10, w ∈ lw_tbl := fun w h => wsL_law_in w (inlX1 w h)
theorem inlX2 : ∀ w ∈ wsX20, w ∈ wsL_law := fun _ h => List.mem_append_left _ (List.mem_append_right _ h)
theorem inX2 : ∀ w ∈ wsX20, w ∈ lw_tbl := fun w h => wsL_law_in w (inlX2 w h)
theorem inlX3 : ∀ w ∈ wsX30, w ∈ wsL_law := fun _ h => List.mem_append_left _ (List.mem_append_left _ (List.mem_append_right _ h))
theorem inX3 : ∀ w ∈ wsX30, w ∈ lw_tbl := fun w h => wsL_law_in w (inlX3 w h)
theorem inlX4 : ∀ w ∈ wsX40, w ∈ wsL_law := fun _ h => List.mem_append_left _ (List.mem_append_left _ (List.mem_append_left _ (List.mem_append_right _ h)))
theorem inX4 : ∀ w ∈ wsX40, w ∈ lw_tbl := fun w h => wsL_law_in w (inlX4 w h)
theorem inlX5 : ∀ w ∈ wsX50, w ∈ wsL_law := fun _ h => List.mem_append_left _ (List.mem_append_left _ (List.mem_append_left _ (List.mem_append_left _ (List.mem_append_left _ (List.mem_append_left _ (List.mem_append_left _ (List.mem_append_right _ h)))))))
theorem inX5 : ∀ w ∈ wsX50, w ∈ lw_tbl := fun w h => wsL_law_in w (inlX5 w h)
theorem inlX6 : ∀ w ∈ wsX60, w ∈ wsL_law := fun _ h => List.mem_append_left _ (List.mem_append_left _ (List.mem_append_left _ (List.mem_append_left _ (List.mem_append_left _ (List.mem_append_left _ (List.mem_append_right _ h))))))
theorem inX6 : ∀ w ∈ wsX60, w ∈ lw_tbl := fun w h => wsL_law_in w (inlX6 w h)
theorem inJ6 : ∀ w ∈ wsJ60, w ∈ lw_tbl := by decide +kernel
theorem inJ9 : ∀ w ∈ wsJ90, w ∈ lw_tbl := by decide +kernel
theorem inJ10 : ∀ w ∈ wsJ100, w ∈ lw_tbl := by decide +kernel
theorem dX0_init_0 : decode cX0_init 0 = .ok (.aload_n 0, 1) := by decide +kernel
theorem dX0_init_1 : decode cX0_init 1 = .ok (.invokespecial 3, 3) := by decide +kernel
theorem dX0_init_4 : decode cX0_init 4 = .ok (.aload_n 0, 1) := by decide +kernel
theorem dX0_init_5 : decode cX0_init 5 = .ok (.bipush 24, 2) := by decide +kernel
theorem dX0_init_7 : decode cX0_init 7 = .ok (.newarray .int, 2) := by decide +kernel
theorem dX0_init_9 : decode cX0_init 9 = .ok (.putfield 9, 3) := by decide +kernel
theorem dX0_init_12 : decode cX0_init 12 = .ok (.aload_n 0, 1) := by decide +kernel
theorem dX0_init_13 : decode cX0_init 13 = .ok (.bipush 7, 2) := by decide +kernel
theorem dX0_init_15 : decode cX0_init 15 = .ok (.newarray .int, 2) := by decide +kernel
theorem dX0_init_17 : decode cX0_init 17 = .ok (.putfield 15, 3) := by decide +kernel
theorem dX0_init_20 : decode cX0_init 20 = .ok (.aload_n 0, 1) := by decide +kernel
theorem dX0_init_21 : decode cX0_init 21 = .ok (.aload_n 1, 1) := by decide +kernel
theorem dX0_init_22 : decode cX0_init 22 = .ok (.putfield 18, 3) := by decide +kernel
theorem dX0_init_25 : decode cX0_init 25 = .ok (.return_, 1) := by decide +kernel
set_option maxRecDepth 20000 in
theorem ggX0_run_X0_lineUp : GoodIn wsX0_run wsX0_lineUp := goodIn_r _ [10, 11, 12, 13, 14, 15, 16, 17, 18, 19, 20, 21, 22, 23, 75, 76, 77, 78, 79, 80, 81, 82, 83, 84, 85, 86, 87, 88, 89, 90, 91] (by decide +kernel) (by decide +kernel)
set_option maxRecDepth 20000 in
theorem gX0_run_X0_lineUp : GoodIn wsX0_run (wsV RX0 29 RX0 yX0_lineUp wsX0_lineUp) := goodIn_app (goodIn_of _ (by decide +kernel)) ggX0_run_X0_lineUp
set_option maxRecDepth 20000 in
theorem ggX0_run_J6_bitCount_0f7a4 : GoodIn wsX0_run wsJ6_bitCount_0f7a4 := goodIn_r _ [27, 28, 29, 30] (by decide +kernel) (by decide +kernel)
set_option maxRecDepth 20000 in
theorem gX0_run_J6_bitCount_0f7a4 : GoodIn wsX0_run (va_wsS RX0 32 yJ6_bitCount_0f7a4 wsJ6_bitCount_0f7a4) := goodIn_app (goodIn_of _ (by decide +kernel)) ggX0_run_J6_bitCount_0f7a4
set_option maxRecDepth 20000 in
theorem ggX0_run_X0_cutAndTrim : GoodIn wsX0_run wsX0_cutAndTrim := goodIn_r _ [34, 4, 12, 35, 36, 37, 38, 39, 40, 9, 41, 11, 42, 43, 44, 16, 45, 46, 47, 48, 49, 50, 51, 52, 53, 54, 3, 55, 56, 57, 58, 1, 59, 2, 60, 61, 62, 63, 23, 75, 76, 77, 78, 79, 80, 81, 82, 83, 84, 85, 86, 87, 88, 89, 90, 91] (by decide +kernel) (by decide +kernel)
set_option maxRecDepth 20000 in
theorem gX0_run_X0_cutAndTrim : GoodIn wsX0_run (wsV RX0 38 RX0 yX0_cutAndTrim wsX0_cutAndTrim) := goodIn_app (goodIn_of _ (by decide +kernel)) ggX0_run_X0_cutAndTrim
set_option maxRecDepth 20000 in
theorem ggX0_run_X0_handOut : GoodIn wsX0_run wsX0_handOut := goodIn_r _ [67, 68, 75, 76, 77, 78, 79, 80, 81, 82] (by decide +kernel) (by decide +kernel)
set_option maxRecDepth 20000 in
theorem gX0_run_X0_handOut : GoodIn wsX0_run (wsV RX0 48 RX0 yX0_handOut wsX0_handOut) := goodIn_app (goodIn_of _ (by decide +kernel)) ggX0_run_X0_handOut
set_option maxRecDepth 20000 in
theorem ggX0_run_X5_without : GoodIn wsX0_run wsX5_without := goodIn_r _ [70] (by decide +kernel) (by decide +kernel)
set_option maxRecDepth 20000 in
theorem gX0_run_X5_without_n51 : GoodIn wsX0_run (wsX5_without) := ggX0_run_X5_without
set_option maxRecDepth 20000 in
theorem ggX0_run_X0_firstOf : GoodIn wsX0_run wsX0_firstOf := goodIn_r _ [74, 12, 35, 36, 37, 75, 76, 77, 78, 79, 80, 81, 82] (by decide +kernel) (by decide +kernel)
set_option maxRecDepth 20000 in
theorem gX0_run_X0_firstOf : GoodIn wsX0_run (wsV RX0 55 RX0 yX0_firstOf wsX0_firstOf) := goodIn_app (goodIn_of _ (by decide +kernel)) ggX0_run_X0_firstOf
theorem dX0_run_0 : decode cX0_run 0 = .ok (.aload_n 0, 1) := by decide +kernel
theorem dX0_run_1 : decode cX0_run 1 = .ok (.iconst 0, 1) := by decide +kernel
theorem dX0_run_2 : decode cX0_run 2 = .ok (.putfield 22, 3) := by decide +kernel
theorem dX0_run_5 : decode cX0_run 5 = .ok (.aload_n 0, 1) := by decide +kernel
theorem dX0_run_6 : decode cX0_run 6 = .ok (.iconst 0, 1) := by decide +kernel
theorem dX0_run_7 : decode cX0_run 7 = .ok (.putfield 26, 3) := by decide +kernel
theorem dX0_run_10 : decode cX0_run 10 = .ok (.aload_n 0, 1) := by decide +kernel
theorem dX0_run_11 : decode cX0_run 11 = .ok (.invokevirtual 29, 3) := by decide +kernel
theorem dX0_run_14 : decode cX0_run 14 = .ok (.iload_n 1, 1) := by decide +kernel
theorem dX0_run_15 : decode cX0_run 15 = .ok (.istore_n 2, 1) := by decide +kernel
theorem dX0_run_16 : decode cX0_run 16 = .ok (.iconst 0, 1) := by decide +kernel
theorem dX0_run_17 : decode cX0_run 17 = .ok (.istore_n 3, 1) := by decide +kernel
theorem dX0_run_18 : decode cX0_run 18 = .ok (.iload_n 1, 1) := by decide +kernel
theorem dX0_run_19 : decode cX0_run 19 = .ok (.invokestatic 32, 3) := by decide +kernel
theorem dX0_run_22 : decode cX0_run 22 = .ok (.istore 4, 2) := by decide +kernel
theorem dX0_run_24 : decode cX0_run 24 = .ok (.iload 4, 2) := by decide +kernel
theorem dX0_run_26 : decode cX0_run 26 = .ok (.iconst 1, 1) := by decide +kernel
theorem dX0_run_27 : decode cX0_run 27 = .ok (.if_icmp .le 48, 3) := by decide +kernel
theorem dX0_run_30 : decode cX0_run 30 = .ok (.aload_n 0, 1) := by decide +kernel
theorem dX0_run_31 : decode cX0_run 31 = .ok (.iload_n 2, 1) := by decide +kernel
theorem dX0_run_32 : decode cX0_run 32 = .ok (.iload 4, 2) := by decide +kernel
theorem dX0_run_34 : decode cX0_run 34 = .ok (.iload_n 3, 1) := by decide +kernel
theorem dX0_run_35 : decode cX0_run 35 = .ok (.invokevirtual 38, 3) := by decide +kernel
theorem dX0_run_38 : decode cX0_run 38 = .ok (.aload_n 0, 1) := by decide +kernel
theorem dX0_run_39 : decode cX0_run 39 = .ok (.iload_n 3, 1) := by decide +kernel
theorem dX0_run_40 : decode cX0_run 40 = .ok (.iload_n 3, 1) := by decide +kernel
theorem dX0_run_41 : decode cX0_run 41 = .ok (.aload_n 0, 1) := by decide +kernel
theorem dX0_run_42 : decode cX0_run 42 = .ok (.getfield 42, 3) := by decide +kernel
theorem dX0_run_45 : decode cX0_run 45 = .ok (.iadd, 1) := by decide +kernel
theorem dX0_run_46 : decode cX0_run 46 = .ok (.aload_n 0, 1) := by decide +kernel
theorem dX0_run_47 : decode cX0_run 47 = .ok (.getfield 45, 3) := by decide +kernel
theorem dX0_run_50 : decode cX0_run 50 = .ok (.invokevirtual 48, 3) := by decide +kernel
theorem dX0_run_53 : decode cX0_run 53 = .ok (.iload_n 3, 1) := by decide +kernel
theorem dX0_run_54 : decode cX0_run 54 = .ok (.aload_n 0, 1) := by decide +kernel
theorem dX0_run_55 : decode cX0_run 55 = .ok (.getfield 42, 3) := by decide +kernel
theorem dX0_run_58 : decode cX0_run 58 = .ok (.iadd, 1) := by decide +kernel
theorem dX0_run_59 : decode cX0_run 59 = .ok (.istore_n 3, 1) := by decide +kernel
theorem dX0_run_60 : decode cX0_run 60 = .ok (.iload_n 2, 1) := by decide +kernel
theorem dX0_run_61 : decode cX0_run 61 = .ok (.aload_n 0, 1) := by decide +kernel
theorem dX0_run_62 : decode cX0_run 62 = .ok (.getfield 45, 3) := by decide +kernel
theorem dX0_run_65 : decode cX0_run 65 = .ok (.invokestatic 51, 3) := by decide +kernel
theorem dX0_run_68 : decode cX0_run 68 = .ok (.istore_n 2, 1) := by decide +kernel
theorem dX0_run_69 : decode cX0_run 69 = .ok (.iinc 4 (-1), 3) := by decide +kernel
theorem dX0_run_72 : decode cX0_run 72 = .ok (.goto (-48), 3) := by decide +kernel
theorem dX0_run_75 : decode cX0_run 75 = .ok (.aload_n 0, 1) := by decide +kernel
theorem dX0_run_76 : decode cX0_run 76 = .ok (.aload_n 0, 1) := by decide +kernel
theorem dX0_run_77 : decode cX0_run 77 = .ok (.iload_n 2, 1) := by decide +kernel
theorem dX0_run_78 : decode cX0_run 78 = .ok (.invokevirtual 55, 3) := by decide +kernel
theorem dX0_run_81 : decode cX0_run 81 = .ok (.putfield 58, 3) := by decide +kernel
theorem dX0_run_84 : decode cX0_run 84 = .ok (.aload_n 0, 1) := by decide +kernel
theorem dX0_run_85 : decode cX0_run 85 = .ok (.iload_n 3, 1) := by decide +kernel
theorem dX0_run_86 : decode cX0_run 86 = .ok (.bipush 24, 2) := by decide +kernel
theorem dX0_run_88 : decode cX0_run 88 = .ok (.aload_n 0, 1) := by decide +kernel
theorem dX0_run_89 : decode cX0_run 89 = .ok (.getfield 58, 3) := by decide +kernel
theorem dX0_run_92 : decode cX0_run 92 = .ok (.invokevirtual 48, 3) := by decide +kernel
theorem dX0_run_95 : decode cX0_run 95 = .ok (.return_, 1) := by decide +kernel
set_option maxRecDepth 20000 in
theorem ggX0_lineUp_X1_isAhead : GoodIn wsX0_lineUp wsX1_isAhead := goodIn_r _ [7, 8, 9, 10, 11, 6, 12, 13, 22, 23, 24, 25, 26, 27, 28, 29, 30] (by decide +kernel) (by decide +kernel)
set_option maxRecDepth 20000 in
theorem gX0_lineUp_X1_isAhead : GoodIn wsX0_lineUp (wsV RX0 61 RX1 yX1_isAhead wsX1_isAhead) := goodIn_app (goodIn_of _ (by decide +kernel)) ggX0_lineUp_X1_isAhead
theorem dX0_lineUp_0 : decode cX0_lineUp 0 = .ok (.iconst 0, 1) := by decide +kernel
theorem dX0_lineUp_1 : decode cX0_lineUp 1 = .ok (.istore_n 1, 1) := by decide +kernel
theorem dX0_lineUp_2 : decode cX0_lineUp 2 = .ok (.iload_n 1, 1) := by decide +kernel
theorem dX0_lineUp_3 : decode cX0_lineUp 3 = .ok (.bipush 7, 2) := by decide +kernel
theorem dX0_lineUp_5 : decode cX0_lineUp 5 = .ok (.if_icmp .ge 61, 3) := by decide +kernel
theorem dX0_lineUp_8 : decode cX0_lineUp 8 = .ok (.iload_n 1, 1) := by decide +kernel
theorem dX0_lineUp_9 : decode cX0_lineUp 9 = .ok (.istore_n 2, 1) := by decide +kernel
theorem dX0_lineUp_10 : decode cX0_lineUp 10 = .ok (.iload_n 2, 1) := by decide +kernel
theorem dX0_lineUp_11 : decode cX0_lineUp 11 = .ok (.ifCond .le 42, 3) := by decide +kernel
theorem dX0_lineUp_14 : decode cX0_lineUp 14 = .ok (.aload_n 0, 1) := by decide +kernel
theorem dX0_lineUp_15 : decode cX0_lineUp 15 = .ok (.getfield 18, 3) := by decide +kernel
theorem dX0_lineUp_18 : decode cX0_lineUp 18 = .ok (.iload_n 1, 1) := by decide +kernel
theorem dX0_lineUp_19 : decode cX0_lineUp 19 = .ok (.aload_n 0, 1) := by decide +kernel
theorem dX0_lineUp_20 : decode cX0_lineUp 20 = .ok (.getfield 15, 3) := by decide +kernel
theorem dX0_lineUp_23 : decode cX0_lineUp 23 = .ok (.iload_n 2, 1) := by decide +kernel
theorem dX0_lineUp_24 : decode cX0_lineUp 24 = .ok (.iconst 1, 1) := by decide +kernel
theorem dX0_lineUp_25 : decode cX0_lineUp 25 = .ok (.isub, 1) := by decide +kernel
theorem dX0_lineUp_26 : decode cX0_lineUp 26 = .ok (.iaload, 1) := by decide +kernel
theorem dX0_lineUp_27 : decode cX0_lineUp 27 = .ok (.invokevirtual 61, 3) := by decide +kernel
theorem dX0_lineUp_30 : decode cX0_lineUp 30 = .ok (.ifCond .eq 23, 3) := by decide +kernel
theorem dX0_lineUp_33 : decode cX0_lineUp 33 = .ok (.aload_n 0, 1) := by decide +kernel
theorem dX0_lineUp_34 : decode cX0_lineUp 34 = .ok (.getfield 15, 3) := by decide +kernel
theorem dX0_lineUp_37 : decode cX0_lineUp 37 = .ok (.iload_n 2, 1) := by decide +kernel
theorem dX0_lineUp_38 : decode cX0_lineUp 38 = .ok (.aload_n 0, 1) := by decide +kernel
theorem dX0_lineUp_39 : decode cX0_lineUp 39 = .ok (.getfield 15, 3) := by decide +kernel
theorem dX0_lineUp_42 : decode cX0_lineUp 42 = .ok (.iload_n 2, 1) := by decide +kernel
theorem dX0_lineUp_43 : decode cX0_lineUp 43 = .ok (.iconst 1, 1) := by decide +kernel
theorem dX0_lineUp_44 : decode cX0_lineUp 44 = .ok (.isub, 1) := by decide +kernel
theorem dX0_lineUp_45 : decode cX0_lineUp 45 = .ok (.iaload, 1) := by decide +kernel
theorem dX0_lineUp_46 : decode cX0_lineUp 46 = .ok (.iastore, 1) := by decide +kernel
theorem dX0_lineUp_47 : decode cX0_lineUp 47 = .ok (.iinc 2 (-1), 3) := by decide +kernel
theorem dX0_lineUp_50 : decode cX0_lineUp 50 = .ok (.goto (-40), 3) := by decide +kernel
theorem dX0_lineUp_53 : decode cX0_lineUp 53 = .ok (.aload_n 0, 1) := by decide +kernel
theorem dX0_lineUp_54 : decode cX0_lineUp 54 = .ok (.getfield 15, 3) := by decide +kernel
theorem dX0_lineUp_57 : decode cX0_lineUp 57 = .ok (.iload_n 2, 1) := by decide +kernel
theorem dX0_lineUp_58 : decode cX0_lineUp 58 = .ok (.iload_n 1, 1) := by decide +kernel
theorem dX0_lineUp_59 : decode cX0_lineUp 59 = .ok (.iastore, 1) := by decide +kernel
theorem dX0_lineUp_60 : decode cX0_lineUp 60 = .ok (.iinc 1 1, 3) := by decide +kernel
theorem dX0_lineUp_63 : decode cX0_lineUp 63 = .ok (.goto (-61), 3) := by decide +kernel
theorem dX0_lineUp_66 : decode cX0_lineUp 66 = .ok (.return_, 1) := by decide +kernel
set_option maxRecDepth 20000 in
theorem ggX0_cutAndTrim_X5_contains : GoodIn wsX0_cutAndTrim wsX5_contains := goodIn_r _ [5] (by decide +kernel) (by decide +kernel)
set_option maxRecDepth 20000 in
theorem gX0_cutAndTrim_X5_contains_n67 : GoodIn wsX0_cutAndTrim (wsX5_contains) := ggX0_cutAndTrim_X5_contains
set_option maxRecDepth 20000 in
theorem ggX0_cutAndTrim_X0_fairPiece : GoodIn wsX0_cutAndTrim wsX0_fairPiece := goodIn_r _ [10, 11, 12, 13, 14, 15, 16, 17, 18, 19, 20, 21, 39, 40, 41, 42, 43, 44, 45, 46, 47, 48, 49, 50, 51, 52, 53, 54, 55] (by decide +kernel) (by decide +kernel)
set_option maxRecDepth 20000 in
theorem gX0_cutAndTrim_X0_fairPiece : GoodIn wsX0_cutAndTrim (wsV RX0 70 RX0 yX0_fairPiece wsX0_fairPiece) := goodIn_app (goodIn_of _ (by decide +kernel)) ggX0_cutAndTrim_X0_fairPiece
set_option maxRecDepth 20000 in
theorem ggX0_cutAndTrim_X0_hold : GoodIn wsX0_cutAndTrim wsX0_hold := goodIn_r _ [25, 1, 26, 39, 40, 41, 42, 43, 44, 45, 46] (by decide +kernel) (by decide +kernel)
set_option maxRecDepth 20000 in
theorem gX0_cutAndTrim_X0_hold : GoodIn wsX0_cutAndTrim (wsV RX0 74 RX0 yX0_hold wsX0_hold) := goodIn_app (goodIn_of _ (by decide +kernel)) ggX0_cutAndTrim_X0_hold
set_option maxRecDepth 20000 in
theorem ggX0_cutAndTrim_X0_mayTrim : GoodIn wsX0_cutAndTrim wsX0_mayTrim := goodIn_r _ [30, 26, 31, 11, 1, 32, 33, 22, 23, 24, 9, 25, 34, 35, 36, 15, 37, 38, 39, 40, 41, 42, 43, 44, 45, 46, 47, 48, 49, 50, 51, 52, 53, 54, 55] (by decide +kernel) (by decide +kernel)
set_option maxRecDepth 20000 in
theorem gX0_cutAndTrim_X0_mayTrim : GoodIn wsX0_cutAndTrim (wsV RX0 78 RX0 yX0_mayTrim wsX0_mayTrim) := goodIn_app (goodIn_of _ (by decide +kernel)) ggX0_cutAndTrim_X0_mayTrim
theorem dX0_cutAndTrim_0 : decode cX0_cutAndTrim 0 = .ok (.aload_n 0, 1) := by decide +kernel
theorem dX0_cutAndTrim_1 : decode cX0_cutAndTrim 1 = .ok (.bipush 7, 2) := by decide +kernel
theorem dX0_cutAndTrim_3 : decode cX0_cutAndTrim 3 = .ok (.putfield 45, 3) := by decide +kernel
theorem dX0_cutAndTrim_6 : decode cX0_cutAndTrim 6 = .ok (.iconst 0, 1) := by decide +kernel
theorem dX0_cutAndTrim_7 : decode cX0_cutAndTrim 7 = .ok (.istore 4, 2) := by decide +kernel
theorem dX0_cutAndTrim_9 : decode cX0_cutAndTrim 9 = .ok (.iload 4, 2) := by decide +kernel
theorem dX0_cutAndTrim_11 : decode cX0_cutAndTrim 11 = .ok (.bipush 7, 2) := by decide +kernel
theorem dX0_cutAndTrim_13 : decode cX0_cutAndTrim 13 = .ok (.if_icmp .ge 65, 3) := by decide +kernel
theorem dX0_cutAndTrim_16 : decode cX0_cutAndTrim 16 = .ok (.aload_n 0, 1) := by decide +kernel
theorem dX0_cutAndTrim_17 : decode cX0_cutAndTrim 17 = .ok (.getfield 15, 3) := by decide +kernel
theorem dX0_cutAndTrim_20 : decode cX0_cutAndTrim 20 = .ok (.iload 4, 2) := by decide +kernel
theorem dX0_cutAndTrim_22 : decode cX0_cutAndTrim 22 = .ok (.iaload, 1) := by decide +kernel
theorem dX0_cutAndTrim_23 : decode cX0_cutAndTrim 23 = .ok (.istore 5, 2) := by decide +kernel
theorem dX0_cutAndTrim_25 : decode cX0_cutAndTrim 25 = .ok (.iload_n 1, 1) := by decide +kernel
theorem dX0_cutAndTrim_26 : decode cX0_cutAndTrim 26 = .ok (.iload 5, 2) := by decide +kernel
theorem dX0_cutAndTrim_28 : decode cX0_cutAndTrim 28 = .ok (.invokestatic 67, 3) := by decide +kernel
theorem dX0_cutAndTrim_31 : decode cX0_cutAndTrim 31 = .ok (.ifCond .eq 41, 3) := by decide +kernel
theorem dX0_cutAndTrim_34 : decode cX0_cutAndTrim 34 = .ok (.aload_n 0, 1) := by decide +kernel
theorem dX0_cutAndTrim_35 : decode cX0_cutAndTrim 35 = .ok (.iload 5, 2) := by decide +kernel
theorem dX0_cutAndTrim_37 : decode cX0_cutAndTrim 37 = .ok (.iload_n 2, 1) := by decide +kernel
theorem dX0_cutAndTrim_38 : decode cX0_cutAndTrim 38 = .ok (.iload_n 3, 1) := by decide +kernel
theorem dX0_cutAndTrim_39 : decode cX0_cutAndTrim 39 = .ok (.invokevirtual 70, 3) := by decide +kernel
theorem dX0_cutAndTrim_42 : decode cX0_cutAndTrim 42 = .ok (.istore 6, 2) := by decide +kernel
theorem dX0_cutAndTrim_44 : decode cX0_cutAndTrim 44 = .ok (.aload_n 0, 1) := by decide +kernel
theorem dX0_cutAndTrim_45 : decode cX0_cutAndTrim 45 = .ok (.getfield 45, 3) := by decide +kernel
theorem dX0_cutAndTrim_48 : decode cX0_cutAndTrim 48 = .ok (.bipush 7, 2) := by decide +kernel
theorem dX0_cutAndTrim_50 : decode cX0_cutAndTrim 50 = .ok (.if_icmp .ne 14, 3) := by decide +kernel
theorem dX0_cutAndTrim_53 : decode cX0_cutAndTrim 53 = .ok (.aload_n 0, 1) := by decide +kernel
theorem dX0_cutAndTrim_54 : decode cX0_cutAndTrim 54 = .ok (.iload 5, 2) := by decide +kernel
theorem dX0_cutAndTrim_56 : decode cX0_cutAndTrim 56 = .ok (.iload 6, 2) := by decide +kernel
theorem dX0_cutAndTrim_58 : decode cX0_cutAndTrim 58 = .ok (.invokevirtual 74, 3) := by decide +kernel
theorem dX0_cutAndTrim_61 : decode cX0_cutAndTrim 61 = .ok (.goto 11, 3) := by decide +kernel
theorem dX0_cutAndTrim_64 : decode cX0_cutAndTrim 64 = .ok (.aload_n 0, 1) := by decide +kernel
theorem dX0_cutAndTrim_65 : decode cX0_cutAndTrim 65 = .ok (.iload 5, 2) := by decide +kernel
theorem dX0_cutAndTrim_67 : decode cX0_cutAndTrim 67 = .ok (.iload 6, 2) := by decide +kernel
theorem dX0_cutAndTrim_69 : decode cX0_cutAndTrim 69 = .ok (.invokevirtual 78, 3) := by decide +kernel
theorem dX0_cutAndTrim_72 : decode cX0_cutAndTrim 72 = .ok (.iinc 4 1, 3) := by decide +kernel
theorem dX0_cutAndTrim_75 : decode cX0_cutAndTrim 75 = .ok (.goto (-66), 3) := by decide +kernel
theorem dX0_cutAndTrim_78 : decode cX0_cutAndTrim 78 = .ok (.return_, 1) := by decide +kernel
set_option maxRecDepth 20000 in
theorem ggX0_mayTrim_X0_hold : GoodIn wsX0_mayTrim wsX0_hold := goodIn_r _ [11, 4, 1, 18, 19, 20, 21, 22, 23, 24, 25] (by decide +kernel) (by decide +kernel)
set_option maxRecDepth 20000 in
theorem gX0_mayTrim_X0_hold : GoodIn wsX0_mayTrim (wsV RX0 74 RX0 yX0_hold wsX0_hold) := goodIn_app (goodIn_of _ (by decide +kernel)) ggX0_mayTrim_X0_hold
set_option maxRecDepth 20000 in
theorem ggX0_mayTrim_X1_grudgeOf : GoodIn wsX0_mayTrim wsX1_grudgeOf := goodIn_r _ [16, 17, 26, 27, 28, 29, 30, 31, 32, 33, 34] (by decide +kernel) (by decide +kernel)
set_option maxRecDepth 20000 in
theorem gX0_mayTrim_X1_grudgeOf : GoodIn wsX0_mayTrim (wsV RX0 81 RX1 yX1_grudgeOf wsX1_grudgeOf) := goodIn_app (goodIn_of _ (by decide +kernel)) ggX0_mayTrim_X1_grudgeOf
theorem dX0_mayTrim_0 : decode cX0_mayTrim 0 = .ok (.iload_n 2, 1) := by decide +kernel
theorem dX0_mayTrim_1 : decode cX0_mayTrim 1 = .ok (.aload_n 0, 1) := by decide +kernel
theorem dX0_mayTrim_2 : decode cX0_mayTrim 2 = .ok (.getfield 42, 3) := by decide +kernel
theorem dX0_mayTrim_5 : decode cX0_mayTrim 5 = .ok (.if_icmp .ge 22, 3) := by decide +kernel
theorem dX0_mayTrim_8 : decode cX0_mayTrim 8 = .ok (.aload_n 0, 1) := by decide +kernel
theorem dX0_mayTrim_9 : decode cX0_mayTrim 9 = .ok (.dup, 1) := by decide +kernel
theorem dX0_mayTrim_10 : decode cX0_mayTrim 10 = .ok (.getfield 22, 3) := by decide +kernel
theorem dX0_mayTrim_13 : decode cX0_mayTrim 13 = .ok (.iconst 1, 1) := by decide +kernel
theorem dX0_mayTrim_14 : decode cX0_mayTrim 14 = .ok (.iadd, 1) := by decide +kernel
theorem dX0_mayTrim_15 : decode cX0_mayTrim 15 = .ok (.putfield 22, 3) := by decide +kernel
theorem dX0_mayTrim_18 : decode cX0_mayTrim 18 = .ok (.aload_n 0, 1) := by decide +kernel
theorem dX0_mayTrim_19 : decode cX0_mayTrim 19 = .ok (.iload_n 1, 1) := by decide +kernel
theorem dX0_mayTrim_20 : decode cX0_mayTrim 20 = .ok (.iload_n 2, 1) := by decide +kernel
theorem dX0_mayTrim_21 : decode cX0_mayTrim 21 = .ok (.invokevirtual 74, 3) := by decide +kernel
theorem dX0_mayTrim_24 : decode cX0_mayTrim 24 = .ok (.goto 68, 3) := by decide +kernel
theorem dX0_mayTrim_27 : decode cX0_mayTrim 27 = .ok (.iload_n 2, 1) := by decide +kernel
theorem dX0_mayTrim_28 : decode cX0_mayTrim 28 = .ok (.aload_n 0, 1) := by decide +kernel
theorem dX0_mayTrim_29 : decode cX0_mayTrim 29 = .ok (.getfield 42, 3) := by decide +kernel
theorem dX0_mayTrim_32 : decode cX0_mayTrim 32 = .ok (.if_icmp .ne 60, 3) := by decide +kernel
theorem dX0_mayTrim_35 : decode cX0_mayTrim 35 = .ok (.iload_n 2, 1) := by decide +kernel
theorem dX0_mayTrim_36 : decode cX0_mayTrim 36 = .ok (.iconst 1, 1) := by decide +kernel
theorem dX0_mayTrim_37 : decode cX0_mayTrim 37 = .ok (.if_icmp .lt 55, 3) := by decide +kernel
theorem dX0_mayTrim_40 : decode cX0_mayTrim 40 = .ok (.aload_n 0, 1) := by decide +kernel
theorem dX0_mayTrim_41 : decode cX0_mayTrim 41 = .ok (.getfield 18, 3) := by decide +kernel
theorem dX0_mayTrim_44 : decode cX0_mayTrim 44 = .ok (.iload_n 1, 1) := by decide +kernel
theorem dX0_mayTrim_45 : decode cX0_mayTrim 45 = .ok (.aload_n 0, 1) := by decide +kernel
theorem dX0_mayTrim_46 : decode cX0_mayTrim 46 = .ok (.getfield 45, 3) := by decide +kernel
theorem dX0_mayTrim_49 : decode cX0_mayTrim 49 = .ok (.invokevirtual 81, 3) := by decide +kernel
theorem dX0_mayTrim_52 : decode cX0_mayTrim 52 = .ok (.aload_n 0, 1) := by decide +kernel
theorem dX0_mayTrim_53 : decode cX0_mayTrim 53 = .ok (.getfield 18, 3) := by decide +kernel
theorem dX0_mayTrim_56 : decode cX0_mayTrim 56 = .ok (.getfield 84, 3) := by decide +kernel
theorem dX0_mayTrim_59 : decode cX0_mayTrim 59 = .ok (.iconst 1, 1) := by decide +kernel
theorem dX0_mayTrim_60 : decode cX0_mayTrim 60 = .ok (.iaload, 1) := by decide +kernel
theorem dX0_mayTrim_61 : decode cX0_mayTrim 61 = .ok (.if_icmp .lt 31, 3) := by decide +kernel
theorem dX0_mayTrim_64 : decode cX0_mayTrim 64 = .ok (.aload_n 0, 1) := by decide +kernel
theorem dX0_mayTrim_65 : decode cX0_mayTrim 65 = .ok (.dup, 1) := by decide +kernel
theorem dX0_mayTrim_66 : decode cX0_mayTrim 66 = .ok (.getfield 22, 3) := by decide +kernel
theorem dX0_mayTrim_69 : decode cX0_mayTrim 69 = .ok (.iconst 1, 1) := by decide +kernel
theorem dX0_mayTrim_70 : decode cX0_mayTrim 70 = .ok (.iadd, 1) := by decide +kernel
theorem dX0_mayTrim_71 : decode cX0_mayTrim 71 = .ok (.putfield 22, 3) := by decide +kernel
theorem dX0_mayTrim_74 : decode cX0_mayTrim 74 = .ok (.aload_n 0, 1) := by decide +kernel
theorem dX0_mayTrim_75 : decode cX0_mayTrim 75 = .ok (.dup, 1) := by decide +kernel
theorem dX0_mayTrim_76 : decode cX0_mayTrim 76 = .ok (.getfield 26, 3) := by decide +kernel
theorem dX0_mayTrim_79 : decode cX0_mayTrim 79 = .ok (.iconst 1, 1) := by decide +kernel
theorem dX0_mayTrim_80 : decode cX0_mayTrim 80 = .ok (.iadd, 1) := by decide +kernel
theorem dX0_mayTrim_81 : decode cX0_mayTrim 81 = .ok (.putfield 26, 3) := by decide +kernel
theorem dX0_mayTrim_84 : decode cX0_mayTrim 84 = .ok (.aload_n 0, 1) := by decide +kernel
theorem dX0_mayTrim_85 : decode cX0_mayTrim 85 = .ok (.iload_n 1, 1) := by decide +kernel
theorem dX0_mayTrim_86 : decode cX0_mayTrim 86 = .ok (.iload_n 2, 1) := by decide +kernel
theorem dX0_mayTrim_87 : decode cX0_mayTrim 87 = .ok (.iconst 1, 1) := by decide +kernel
theorem dX0_mayTrim_88 : decode cX0_mayTrim 88 = .ok (.isub, 1) := by decide +kernel
theorem dX0_mayTrim_89 : decode cX0_mayTrim 89 = .ok (.invokevirtual 74, 3) := by decide +kernel
theorem dX0_mayTrim_92 : decode cX0_mayTrim 92 = .ok (.return_, 1) := by decide +kernel
theorem dX0_hold_0 : decode cX0_hold 0 = .ok (.aload_n 0, 1) := by decide +kernel
theorem dX0_hold_1 : decode cX0_hold 1 = .ok (.iload_n 1, 1) := by decide +kernel
theorem dX0_hold_2 : decode cX0_hold 2 = .ok (.putfield 45, 3) := by decide +kernel
theorem dX0_hold_5 : decode cX0_hold 5 = .ok (.aload_n 0, 1) := by decide +kernel
theorem dX0_hold_6 : decode cX0_hold 6 = .ok (.iload_n 2, 1) := by decide +kernel
theorem dX0_hold_7 : decode cX0_hold 7 = .ok (.putfield 42, 3) := by decide +kernel
theorem dX0_hold_10 : decode cX0_hold 10 = .ok (.return_, 1) := by decide +kernel
set_option maxRecDepth 20000 in
theorem ggX0_fairPiece_X1_worthFrom : GoodIn wsX0_fairPiece wsX1_worthFrom := goodIn_r _ [6, 7, 20, 21, 22, 23, 24, 25, 26, 27, 28] (by decide +kernel) (by decide +kernel)
set_option maxRecDepth 20000 in
theorem gX0_fairPiece_X1_worthFrom : GoodIn wsX0_fairPiece (wsV RX0 87 RX1 yX1_worthFrom wsX1_worthFrom) := goodIn_app (goodIn_of _ (by decide +kernel)) ggX0_fairPiece_X1_worthFrom
set_option maxRecDepth 20000 in
theorem ggX0_fairPiece_X1_worthOf : GoodIn wsX0_fairPiece wsX1_worthOf := goodIn_r _ [11, 7, 20, 21, 22, 23, 24, 25, 26, 27, 28] (by decide +kernel) (by decide +kernel)
set_option maxRecDepth 20000 in
theorem gX0_fairPiece_X1_worthOf : GoodIn wsX0_fairPiece (wsV RX0 90 RX1 yX1_worthOf wsX1_worthOf) := goodIn_app (goodIn_of _ (by decide +kernel)) ggX0_fairPiece_X1_worthOf
theorem dX0_fairPiece_0 : decode cX0_fairPiece 0 = .ok (.aload_n 0, 1) := by decide +kernel
theorem dX0_fairPiece_1 : decode cX0_fairPiece 1 = .ok (.getfield 18, 3) := by decide +kernel
theorem dX0_fairPiece_4 : decode cX0_fairPiece 4 = .ok (.iload_n 3, 1) := by decide +kernel
theorem dX0_fairPiece_5 : decode cX0_fairPiece 5 = .ok (.iload_n 1, 1) := by decide +kernel
theorem dX0_fairPiece_6 : decode cX0_fairPiece 6 = .ok (.invokevirtual 87, 3) := by decide +kernel
theorem dX0_fairPiece_9 : decode cX0_fairPiece 9 = .ok (.istore 4, 2) := by decide +kernel
theorem dX0_fairPiece_11 : decode cX0_fairPiece 11 = .ok (.iconst 0, 1) := by decide +kernel
theorem dX0_fairPiece_12 : decode cX0_fairPiece 12 = .ok (.istore 5, 2) := by decide +kernel
theorem dX0_fairPiece_14 : decode cX0_fairPiece 14 = .ok (.iconst 0, 1) := by decide +kernel
theorem dX0_fairPiece_15 : decode cX0_fairPiece 15 = .ok (.istore 6, 2) := by decide +kernel
theorem dX0_fairPiece_17 : decode cX0_fairPiece 17 = .ok (.iload_n 3, 1) := by decide +kernel
theorem dX0_fairPiece_18 : decode cX0_fairPiece 18 = .ok (.iload 6, 2) := by decide +kernel
theorem dX0_fairPiece_20 : decode cX0_fairPiece 20 = .ok (.iadd, 1) := by decide +kernel
theorem dX0_fairPiece_21 : decode cX0_fairPiece 21 = .ok (.bipush 24, 2) := by decide +kernel
theorem dX0_fairPiece_23 : decode cX0_fairPiece 23 = .ok (.if_icmp .ge 35, 3) := by decide +kernel
theorem dX0_fairPiece_26 : decode cX0_fairPiece 26 = .ok (.iload 5, 2) := by decide +kernel
theorem dX0_fairPiece_28 : decode cX0_fairPiece 28 = .ok (.iload_n 2, 1) := by decide +kernel
theorem dX0_fairPiece_29 : decode cX0_fairPiece 29 = .ok (.imul, 1) := by decide +kernel
theorem dX0_fairPiece_30 : decode cX0_fairPiece 30 = .ok (.iload 4, 2) := by decide +kernel
theorem dX0_fairPiece_32 : decode cX0_fairPiece 32 = .ok (.if_icmp .ge 26, 3) := by decide +kernel
theorem dX0_fairPiece_35 : decode cX0_fairPiece 35 = .ok (.iload 5, 2) := by decide +kernel
theorem dX0_fairPiece_37 : decode cX0_fairPiece 37 = .ok (.aload_n 0, 1) := by decide +kernel
theorem dX0_fairPiece_38 : decode cX0_fairPiece 38 = .ok (.getfield 18, 3) := by decide +kernel
theorem dX0_fairPiece_41 : decode cX0_fairPiece 41 = .ok (.iload_n 3, 1) := by decide +kernel
theorem dX0_fairPiece_42 : decode cX0_fairPiece 42 = .ok (.iload 6, 2) := by decide +kernel
theorem dX0_fairPiece_44 : decode cX0_fairPiece 44 = .ok (.iadd, 1) := by decide +kernel
theorem dX0_fairPiece_45 : decode cX0_fairPiece 45 = .ok (.iload_n 1, 1) := by decide +kernel
theorem dX0_fairPiece_46 : decode cX0_fairPiece 46 = .ok (.invokevirtual 90, 3) := by decide +kernel
theorem dX0_fairPiece_49 : decode cX0_fairPiece 49 = .ok (.iadd, 1) := by decide +kernel
theorem dX0_fairPiece_50 : decode cX0_fairPiece 50 = .ok (.istore 5, 2) := by decide +kernel
theorem dX0_fairPiece_52 : decode cX0_fairPiece 52 = .ok (.iinc 6 1, 3) := by decide +kernel
theorem dX0_fairPiece_55 : decode cX0_fairPiece 55 = .ok (.goto (-38), 3) := by decide +kernel
theorem dX0_fairPiece_58 : decode cX0_fairPiece 58 = .ok (.iload 6, 2) := by decide +kernel
theorem dX0_fairPiece_60 : decode cX0_fairPiece 60 = .ok (.ireturn, 1) := by decide +kernel
set_option maxRecDepth 20000 in
theorem ggX0_firstOf_X5_contains : GoodIn wsX0_firstOf wsX5_contains := goodIn_r _ [4] (by decide +kernel) (by decide +kernel)
set_option maxRecDepth 20000 in
theorem gX0_firstOf_X5_contains_n67 : GoodIn wsX0_firstOf (wsX5_contains) := ggX0_firstOf_X5_contains
theorem dX0_firstOf_0 : decode cX0_firstOf 0 = .ok (.iconst 0, 1) := by decide +kernel
theorem dX0_firstOf_1 : decode cX0_firstOf 1 = .ok (.istore_n 2, 1) := by decide +kernel
theorem dX0_firstOf_2 : decode cX0_firstOf 2 = .ok (.iload_n 2, 1) := by decide +kernel
theorem dX0_firstOf_3 : decode cX0_firstOf 3 = .ok (.bipush 7, 2) := by decide +kernel
theorem dX0_firstOf_5 : decode cX0_firstOf 5 = .ok (.if_icmp .ge 29, 3) := by decide +kernel
theorem dX0_firstOf_8 : decode cX0_firstOf 8 = .ok (.iload_n 1, 1) := by decide +kernel
theorem dX0_firstOf_9 : decode cX0_firstOf 9 = .ok (.aload_n 0, 1) := by decide +kernel
theorem dX0_firstOf_10 : decode cX0_firstOf 10 = .ok (.getfield 15, 3) := by decide +kernel
theorem dX0_firstOf_13 : decode cX0_firstOf 13 = .ok (.iload_n 2, 1) := by decide +kernel
theorem dX0_firstOf_14 : decode cX0_firstOf 14 = .ok (.iaload, 1) := by decide +kernel
theorem dX0_firstOf_15 : decode cX0_firstOf 15 = .ok (.invokestatic 67, 3) := by decide +kernel
theorem dX0_firstOf_18 : decode cX0_firstOf 18 = .ok (.ifCond .eq 10, 3) := by decide +kernel
theorem dX0_firstOf_21 : decode cX0_firstOf 21 = .ok (.aload_n 0, 1) := by decide +kernel
theorem dX0_firstOf_22 : decode cX0_firstOf 22 = .ok (.getfield 15, 3) := by decide +kernel
theorem dX0_firstOf_25 : decode cX0_firstOf 25 = .ok (.iload_n 2, 1) := by decide +kernel
theorem dX0_firstOf_26 : decode cX0_firstOf 26 = .ok (.iaload, 1) := by decide +kernel
theorem dX0_firstOf_27 : decode cX0_firstOf 27 = .ok (.ireturn, 1) := by decide +kernel
theorem dX0_firstOf_28 : decode cX0_firstOf 28 = .ok (.iinc 2 1, 3) := by decide +kernel
theorem dX0_firstOf_31 : decode cX0_firstOf 31 = .ok (.goto (-29), 3) := by decide +kernel
theorem dX0_firstOf_34 : decode cX0_firstOf 34 = .ok (.bipush 7, 2) := by decide +kernel
theorem dX0_firstOf_36 : decode cX0_firstOf 36 = .ok (.ireturn, 1) := by decide +kernel
theorem dX0_handOut_0 : decode cX0_handOut 0 = .ok (.iload_n 1, 1) := by decide +kernel
theorem dX0_handOut_1 : decode cX0_handOut 1 = .ok (.istore 4, 2) := by decide +kernel
theorem dX0_handOut_3 : decode cX0_handOut 3 = .ok (.iload 4, 2) := by decide +kernel
theorem dX0_handOut_5 : decode cX0_handOut 5 = .ok (.iload_n 2, 1) := by decide +kernel
theorem dX0_handOut_6 : decode cX0_handOut 6 = .ok (.if_icmp .ge 24, 3) := by decide +kernel
theorem dX0_handOut_9 : decode cX0_handOut 9 = .ok (.iload 4, 2) := by decide +kernel
theorem dX0_handOut_11 : decode cX0_handOut 11 = .ok (.bipush 24, 2) := by decide +kernel
theorem dX0_handOut_13 : decode cX0_handOut 13 = .ok (.if_icmp .ge 17, 3) := by decide +kernel
theorem dX0_handOut_16 : decode cX0_handOut 16 = .ok (.aload_n 0, 1) := by decide +kernel
theorem dX0_handOut_17 : decode cX0_handOut 17 = .ok (.getfield 9, 3) := by decide +kernel
theorem dX0_handOut_20 : decode cX0_handOut 20 = .ok (.iload 4, 2) := by decide +kernel
theorem dX0_handOut_22 : decode cX0_handOut 22 = .ok (.iload_n 3, 1) := by decide +kernel
theorem dX0_handOut_23 : decode cX0_handOut 23 = .ok (.iastore, 1) := by decide +kernel
theorem dX0_handOut_24 : decode cX0_handOut 24 = .ok (.iinc 4 1, 3) := by decide +kernel
theorem dX0_handOut_27 : decode cX0_handOut 27 = .ok (.goto (-24), 3) := by decide +kernel
theorem dX0_handOut_30 : decode cX0_handOut 30 = .ok (.return_, 1) := by decide +kernel
set_option maxRecDepth 20000 in
theorem ggX1_init_X1_weighPlots : GoodIn wsX1_init wsX1_weighPlots := goodIn_r _ [15, 16, 17, 18, 14, 19, 5, 6, 10, 20, 21, 22, 23, 24, 25, 26, 27, 28] (by decide +kernel) (by decide +kernel)
set_option maxRecDepth 20000 in
theorem gX1_init_X1_weighPlots : GoodIn wsX1_init (wsV RX1 30 RX1 yX1_weighPlots wsX1_weighPlots) := goodIn_app (goodIn_of _ (by decide +kernel)) ggX1_init_X1_weighPlots
theorem dX1_init_0 : decode cX1_init 0 = .ok (.aload_n 0, 1) := by decide +kernel
theorem dX1_init_1 : decode cX1_init 1 = .ok (.invokespecial 3, 3) := by decide +kernel
theorem dX1_init_4 : decode cX1_init 4 = .ok (.aload_n 0, 1) := by decide +kernel
theorem dX1_init_5 : decode cX1_init 5 = .ok (.bipush 96, 2) := by decide +kernel
theorem dX1_init_7 : decode cX1_init 7 = .ok (.newarray .int, 2) := by decide +kernel
theorem dX1_init_9 : decode cX1_init 9 = .ok (.putfield 9, 3) := by decide +kernel
theorem dX1_init_12 : decode cX1_init 12 = .ok (.aload_n 0, 1) := by decide +kernel
theorem dX1_init_13 : decode cX1_init 13 = .ok (.bipush 28, 2) := by decide +kernel
theorem dX1_init_15 : decode cX1_init 15 = .ok (.newarray .int, 2) := by decide +kernel
theorem dX1_init_17 : decode cX1_init 17 = .ok (.putfield 15, 3) := by decide +kernel
theorem dX1_init_20 : decode cX1_init 20 = .ok (.aload_n 0, 1) := by decide +kernel
theorem dX1_init_21 : decode cX1_init 21 = .ok (.bipush 49, 2) := by decide +kernel
theorem dX1_init_23 : decode cX1_init 23 = .ok (.newarray .int, 2) := by decide +kernel
theorem dX1_init_25 : decode cX1_init 25 = .ok (.putfield 18, 3) := by decide +kernel
theorem dX1_init_28 : decode cX1_init 28 = .ok (.aload_n 0, 1) := by decide +kernel
theorem dX1_init_29 : decode cX1_init 29 = .ok (.bipush 24, 2) := by decide +kernel
theorem dX1_init_31 : decode cX1_init 31 = .ok (.newarray .int, 2) := by decide +kernel
theorem dX1_init_33 : decode cX1_init 33 = .ok (.putfield 21, 3) := by decide +kernel
theorem dX1_init_36 : decode cX1_init 36 = .ok (.aload_n 0, 1) := by decide +kernel
theorem dX1_init_37 : decode cX1_init 37 = .ok (.iconst 2, 1) := by decide +kernel
theorem dX1_init_38 : decode cX1_init 38 = .ok (.newarray .int, 2) := by decide +kernel
theorem dX1_init_40 : decode cX1_init 40 = .ok (.putfield 24, 3) := by decide +kernel
theorem dX1_init_43 : decode cX1_init 43 = .ok (.aload_n 0, 1) := by decide +kernel
theorem dX1_init_44 : decode cX1_init 44 = .ok (.sipush 168, 3) := by decide +kernel
theorem dX1_init_47 : decode cX1_init 47 = .ok (.newarray .int, 2) := by decide +kernel
theorem dX1_init_49 : decode cX1_init 49 = .ok (.putfield 27, 3) := by decide +kernel
theorem dX1_init_52 : decode cX1_init 52 = .ok (.iconst 0, 1) := by decide +kernel
theorem dX1_init_53 : decode cX1_init 53 = .ok (.istore_n 1, 1) := by decide +kernel
theorem dX1_init_54 : decode cX1_init 54 = .ok (.iload_n 1, 1) := by decide +kernel
theorem dX1_init_55 : decode cX1_init 55 = .ok (.bipush 24, 2) := by decide +kernel
theorem dX1_init_57 : decode cX1_init 57 = .ok (.if_icmp .ge 30, 3) := by decide +kernel
theorem dX1_init_60 : decode cX1_init 60 = .ok (.aload_n 0, 1) := by decide +kernel
theorem dX1_init_61 : decode cX1_init 61 = .ok (.getfield 9, 3) := by decide +kernel
theorem dX1_init_64 : decode cX1_init 64 = .ok (.iload_n 1, 1) := by decide +kernel
theorem dX1_init_65 : decode cX1_init 65 = .ok (.iconst 4, 1) := by decide +kernel
theorem dX1_init_66 : decode cX1_init 66 = .ok (.imul, 1) := by decide +kernel
theorem dX1_init_67 : decode cX1_init 67 = .ok (.iload_n 1, 1) := by decide +kernel
theorem dX1_init_68 : decode cX1_init 68 = .ok (.iconst 4, 1) := by decide +kernel
theorem dX1_init_69 : decode cX1_init 69 = .ok (.irem, 1) := by decide +kernel
theorem dX1_init_70 : decode cX1_init 70 = .ok (.iadd, 1) := by decide +kernel
theorem dX1_init_71 : decode cX1_init 71 = .ok (.iconst 1, 1) := by decide +kernel
theorem dX1_init_72 : decode cX1_init 72 = .ok (.iastore, 1) := by decide +kernel
theorem dX1_init_73 : decode cX1_init 73 = .ok (.aload_n 0, 1) := by decide +kernel
theorem dX1_init_74 : decode cX1_init 74 = .ok (.getfield 21, 3) := by decide +kernel
theorem dX1_init_77 : decode cX1_init 77 = .ok (.iload_n 1, 1) := by decide +kernel
theorem dX1_init_78 : decode cX1_init 78 = .ok (.bipush 7, 2) := by decide +kernel
theorem dX1_init_80 : decode cX1_init 80 = .ok (.iastore, 1) := by decide +kernel
theorem dX1_init_81 : decode cX1_init 81 = .ok (.iinc 1 1, 3) := by decide +kernel
theorem dX1_init_84 : decode cX1_init 84 = .ok (.goto (-30), 3) := by decide +kernel
theorem dX1_init_87 : decode cX1_init 87 = .ok (.iconst 0, 1) := by decide +kernel
theorem dX1_init_88 : decode cX1_init 88 = .ok (.istore_n 1, 1) := by decide +kernel
theorem dX1_init_89 : decode cX1_init 89 = .ok (.iload_n 1, 1) := by decide +kernel
theorem dX1_init_90 : decode cX1_init 90 = .ok (.bipush 28, 2) := by decide +kernel
theorem dX1_init_92 : decode cX1_init 92 = .ok (.if_icmp .ge 16, 3) := by decide +kernel
theorem dX1_init_95 : decode cX1_init 95 = .ok (.aload_n 0, 1) := by decide +kernel
theorem dX1_init_96 : decode cX1_init 96 = .ok (.getfield 15, 3) := by decide +kernel
theorem dX1_init_99 : decode cX1_init 99 = .ok (.iload_n 1, 1) := by decide +kernel
theorem dX1_init_100 : decode cX1_init 100 = .ok (.iconst 1, 1) := by decide +kernel
theorem dX1_init_101 : decode cX1_init 101 = .ok (.iastore, 1) := by decide +kernel
theorem dX1_init_102 : decode cX1_init 102 = .ok (.iinc 1 1, 3) := by decide +kernel
theorem dX1_init_105 : decode cX1_init 105 = .ok (.goto (-16), 3) := by decide +kernel
theorem dX1_init_108 : decode cX1_init 108 = .ok (.aload_n 0, 1) := by decide +kernel
theorem dX1_init_109 : decode cX1_init 109 = .ok (.getfield 24, 3) := by decide +kernel
theorem dX1_init_112 : decode cX1_init 112 = .ok (.iconst 0, 1) := by decide +kernel
theorem dX1_init_113 : decode cX1_init 113 = .ok (.iconst 0, 1) := by decide +kernel
theorem dX1_init_114 : decode cX1_init 114 = .ok (.iastore, 1) := by decide +kernel
theorem dX1_init_115 : decode cX1_init 115 = .ok (.aload_n 0, 1) := by decide +kernel
theorem dX1_init_116 : decode cX1_init 116 = .ok (.getfield 24, 3) := by decide +kernel
theorem dX1_init_119 : decode cX1_init 119 = .ok (.iconst 1, 1) := by decide +kernel
theorem dX1_init_120 : decode cX1_init 120 = .ok (.iconst 5, 1) := by decide +kernel
theorem dX1_init_121 : decode cX1_init 121 = .ok (.iastore, 1) := by decide +kernel
theorem dX1_init_122 : decode cX1_init 122 = .ok (.iconst 0, 1) := by decide +kernel
theorem dX1_init_123 : decode cX1_init 123 = .ok (.istore_n 1, 1) := by decide +kernel
theorem dX1_init_124 : decode cX1_init 124 = .ok (.iload_n 1, 1) := by decide +kernel
theorem dX1_init_125 : decode cX1_init 125 = .ok (.bipush 7, 2) := by decide +kernel
theorem dX1_init_127 : decode cX1_init 127 = .ok (.if_icmp .ge 14, 3) := by decide +kernel
theorem dX1_init_130 : decode cX1_init 130 = .ok (.aload_n 0, 1) := by decide +kernel
theorem dX1_init_131 : decode cX1_init 131 = .ok (.iload_n 1, 1) := by decide +kernel
theorem dX1_init_132 : decode cX1_init 132 = .ok (.invokevirtual 30, 3) := by decide +kernel
theorem dX1_init_135 : decode cX1_init 135 = .ok (.iinc 1 1, 3) := by decide +kernel
theorem dX1_init_138 : decode cX1_init 138 = .ok (.goto (-14), 3) := by decide +kernel
theorem dX1_init_141 : decode cX1_init 141 = .ok (.return_, 1) := by decide +kernel
theorem dX1_copyFrom_0 : decode cX1_copyFrom 0 = .ok (.aload_n 1, 1) := by decide +kernel
theorem dX1_copyFrom_1 : decode cX1_copyFrom 1 = .ok (.getfield 9, 3) := by decide +kernel
theorem dX1_copyFrom_4 : decode cX1_copyFrom 4 = .ok (.iconst 0, 1) := by decide +kernel
theorem dX1_copyFrom_5 : decode cX1_copyFrom 5 = .ok (.aload_n 0, 1) := by decide +kernel
theorem dX1_copyFrom_6 : decode cX1_copyFrom 6 = .ok (.getfield 9, 3) := by decide +kernel
theorem dX1_copyFrom_9 : decode cX1_copyFrom 9 = .ok (.iconst 0, 1) := by decide +kernel
theorem dX1_copyFrom_10 : decode cX1_copyFrom 10 = .ok (.bipush 96, 2) := by decide +kernel
theorem dX1_copyFrom_12 : decode cX1_copyFrom 12 = .ok (.invokestatic 34, 3) := by decide +kernel
theorem dX1_copyFrom_15 : decode cX1_copyFrom 15 = .ok (.aload_n 1, 1) := by decide +kernel
theorem dX1_copyFrom_16 : decode cX1_copyFrom 16 = .ok (.getfield 15, 3) := by decide +kernel
theorem dX1_copyFrom_19 : decode cX1_copyFrom 19 = .ok (.iconst 0, 1) := by decide +kernel
theorem dX1_copyFrom_20 : decode cX1_copyFrom 20 = .ok (.aload_n 0, 1) := by decide +kernel
theorem dX1_copyFrom_21 : decode cX1_copyFrom 21 = .ok (.getfield 15, 3) := by decide +kernel
theorem dX1_copyFrom_24 : decode cX1_copyFrom 24 = .ok (.iconst 0, 1) := by decide +kernel
theorem dX1_copyFrom_25 : decode cX1_copyFrom 25 = .ok (.bipush 28, 2) := by decide +kernel
theorem dX1_copyFrom_27 : decode cX1_copyFrom 27 = .ok (.invokestatic 34, 3) := by decide +kernel
theorem dX1_copyFrom_30 : decode cX1_copyFrom 30 = .ok (.aload_n 1, 1) := by decide +kernel
theorem dX1_copyFrom_31 : decode cX1_copyFrom 31 = .ok (.getfield 18, 3) := by decide +kernel
theorem dX1_copyFrom_34 : decode cX1_copyFrom 34 = .ok (.iconst 0, 1) := by decide +kernel
theorem dX1_copyFrom_35 : decode cX1_copyFrom 35 = .ok (.aload_n 0, 1) := by decide +kernel
theorem dX1_copyFrom_36 : decode cX1_copyFrom 36 = .ok (.getfield 18, 3) := by decide +kernel
theorem dX1_copyFrom_39 : decode cX1_copyFrom 39 = .ok (.iconst 0, 1) := by decide +kernel
theorem dX1_copyFrom_40 : decode cX1_copyFrom 40 = .ok (.bipush 49, 2) := by decide +kernel
theorem dX1_copyFrom_42 : decode cX1_copyFrom 42 = .ok (.invokestatic 34, 3) := by decide +kernel
theorem dX1_copyFrom_45 : decode cX1_copyFrom 45 = .ok (.aload_n 1, 1) := by decide +kernel
theorem dX1_copyFrom_46 : decode cX1_copyFrom 46 = .ok (.getfield 21, 3) := by decide +kernel
theorem dX1_copyFrom_49 : decode cX1_copyFrom 49 = .ok (.iconst 0, 1) := by decide +kernel
theorem dX1_copyFrom_50 : decode cX1_copyFrom 50 = .ok (.aload_n 0, 1) := by decide +kernel
theorem dX1_copyFrom_51 : decode cX1_copyFrom 51 = .ok (.getfield 21, 3) := by decide +kernel
theorem dX1_copyFrom_54 : decode cX1_copyFrom 54 = .ok (.iconst 0, 1) := by decide +kernel
theorem dX1_copyFrom_55 : decode cX1_copyFrom 55 = .ok (.bipush 24, 2) := by decide +kernel
theorem dX1_copyFrom_57 : decode cX1_copyFrom 57 = .ok (.invokestatic 34, 3) := by decide +kernel
theorem dX1_copyFrom_60 : decode cX1_copyFrom 60 = .ok (.aload_n 1, 1) := by decide +kernel
theorem dX1_copyFrom_61 : decode cX1_copyFrom 61 = .ok (.getfield 24, 3) := by decide +kernel
theorem dX1_copyFrom_64 : decode cX1_copyFrom 64 = .ok (.iconst 0, 1) := by decide +kernel
theorem dX1_copyFrom_65 : decode cX1_copyFrom 65 = .ok (.aload_n 0, 1) := by decide +kernel
theorem dX1_copyFrom_66 : decode cX1_copyFrom 66 = .ok (.getfield 24, 3) := by decide +kernel
theorem dX1_copyFrom_69 : decode cX1_copyFrom 69 = .ok (.iconst 0, 1) := by decide +kernel
theorem dX1_copyFrom_70 : decode cX1_copyFrom 70 = .ok (.iconst 2, 1) := by decide +kernel
theorem dX1_copyFrom_71 : decode cX1_copyFrom 71 = .ok (.invokestatic 34, 3) := by decide +kernel
theorem dX1_copyFrom_74 : decode cX1_copyFrom 74 = .ok (.aload_n 1, 1) := by decide +kernel
theorem dX1_copyFrom_75 : decode cX1_copyFrom 75 = .ok (.getfield 27, 3) := by decide +kernel
theorem dX1_copyFrom_78 : decode cX1_copyFrom 78 = .ok (.iconst 0, 1) := by decide +kernel
theorem dX1_copyFrom_79 : decode cX1_copyFrom 79 = .ok (.aload_n 0, 1) := by decide +kernel
theorem dX1_copyFrom_80 : decode cX1_copyFrom 80 = .ok (.getfield 27, 3) := by decide +kernel
theorem dX1_copyFrom_83 : decode cX1_copyFrom 83 = .ok (.iconst 0, 1) := by decide +kernel
theorem dX1_copyFrom_84 : decode cX1_copyFrom 84 = .ok (.sipush 168, 3) := by decide +kernel
theorem dX1_copyFrom_87 : decode cX1_copyFrom 87 = .ok (.invokestatic 34, 3) := by decide +kernel
theorem dX1_copyFrom_90 : decode cX1_copyFrom 90 = .ok (.aload_n 0, 1) := by decide +kernel
theorem dX1_copyFrom_91 : decode cX1_copyFrom 91 = .ok (.aload_n 1, 1) := by decide +kernel
theorem dX1_copyFrom_92 : decode cX1_copyFrom 92 = .ok (.getfield 40, 3) := by decide +kernel
theorem dX1_copyFrom_95 : decode cX1_copyFrom 95 = .ok (.putfield 40, 3) := by decide +kernel
theorem dX1_copyFrom_98 : decode cX1_copyFrom 98 = .ok (.aload_n 0, 1) := by decide +kernel
theorem dX1_copyFrom_99 : decode cX1_copyFrom 99 = .ok (.aload_n 1, 1) := by decide +kernel
theorem dX1_copyFrom_100 : decode cX1_copyFrom 100 = .ok (.getfield 44, 3) := by decide +kernel
theorem dX1_copyFrom_103 : decode cX1_copyFrom 103 = .ok (.putfield 44, 3) := by decide +kernel
theorem dX1_copyFrom_106 : decode cX1_copyFrom 106 = .ok (.aload_n 0, 1) := by decide +kernel
theorem dX1_copyFrom_107 : decode cX1_copyFrom 107 = .ok (.aload_n 1, 1) := by decide +kernel
theorem dX1_copyFrom_108 : decode cX1_copyFrom 108 = .ok (.getfield 47, 3) := by decide +kernel
theorem dX1_copyFrom_111 : decode cX1_copyFrom 111 = .ok (.putfield 47, 3) := by decide +kernel
theorem dX1_copyFrom_114 : decode cX1_copyFrom 114 = .ok (.return_, 1) := by decide +kernel
set_option maxRecDepth 20000 in
theorem ggX1_putAmount_X1_weighPlot : GoodIn wsX1_putAmount wsX1_weighPlot := goodIn_r _ [6, 1, 7, 8, 9, 10, 11, 12, 13, 14, 15, 16, 17] (by decide +kernel) (by decide +kernel)
set_option maxRecDepth 20000 in
theorem gX1_putAmount_X1_weighPlot : GoodIn wsX1_putAmount (wsV RX1 50 RX1 yX1_weighPlot wsX1_weighPlot) := goodIn_app (goodIn_of _ (by decide +kernel)) ggX1_putAmount_X1_weighPlot
theorem dX1_putAmount_0 : decode cX1_putAmount 0 = .ok (.aload_n 0, 1) := by decide +kernel
theorem dX1_putAmount_1 : decode cX1_putAmount 1 = .ok (.getfield 9, 3) := by decide +kernel
theorem dX1_putAmount_4 : decode cX1_putAmount 4 = .ok (.iload_n 1, 1) := by decide +kernel
theorem dX1_putAmount_5 : decode cX1_putAmount 5 = .ok (.iconst 4, 1) := by decide +kernel
theorem dX1_putAmount_6 : decode cX1_putAmount 6 = .ok (.imul, 1) := by decide +kernel
theorem dX1_putAmount_7 : decode cX1_putAmount 7 = .ok (.iload_n 2, 1) := by decide +kernel
theorem dX1_putAmount_8 : decode cX1_putAmount 8 = .ok (.iadd, 1) := by decide +kernel
theorem dX1_putAmount_9 : decode cX1_putAmount 9 = .ok (.iload_n 3, 1) := by decide +kernel
theorem dX1_putAmount_10 : decode cX1_putAmount 10 = .ok (.iastore, 1) := by decide +kernel
theorem dX1_putAmount_11 : decode cX1_putAmount 11 = .ok (.iconst 0, 1) := by decide +kernel
theorem dX1_putAmount_12 : decode cX1_putAmount 12 = .ok (.istore 4, 2) := by decide +kernel
theorem dX1_putAmount_14 : decode cX1_putAmount 14 = .ok (.iload 4, 2) := by decide +kernel
theorem dX1_putAmount_16 : decode cX1_putAmount 16 = .ok (.bipush 7, 2) := by decide +kernel
theorem dX1_putAmount_18 : decode cX1_putAmount 18 = .ok (.if_icmp .ge 16, 3) := by decide +kernel
theorem dX1_putAmount_21 : decode cX1_putAmount 21 = .ok (.aload_n 0, 1) := by decide +kernel
theorem dX1_putAmount_22 : decode cX1_putAmount 22 = .ok (.iload_n 1, 1) := by decide +kernel
theorem dX1_putAmount_23 : decode cX1_putAmount 23 = .ok (.iload 4, 2) := by decide +kernel
theorem dX1_putAmount_25 : decode cX1_putAmount 25 = .ok (.invokevirtual 50, 3) := by decide +kernel
theorem dX1_putAmount_28 : decode cX1_putAmount 28 = .ok (.iinc 4 1, 3) := by decide +kernel
theorem dX1_putAmount_31 : decode cX1_putAmount 31 = .ok (.goto (-17), 3) := by decide +kernel
theorem dX1_putAmount_34 : decode cX1_putAmount 34 = .ok (.return_, 1) := by decide +kernel
set_option maxRecDepth 20000 in
theorem ggX1_putWeight_X1_weighPlots : GoodIn wsX1_putWeight wsX1_weighPlots := goodIn_r _ [6, 7, 8, 9, 5, 10, 11, 1, 12, 13, 14, 15, 16, 17, 18, 19, 20, 21] (by decide +kernel) (by decide +kernel)
set_option maxRecDepth 20000 in
theorem gX1_putWeight_X1_weighPlots : GoodIn wsX1_putWeight (wsV RX1 30 RX1 yX1_weighPlots wsX1_weighPlots) := goodIn_app (goodIn_of _ (by decide +kernel)) ggX1_putWeight_X1_weighPlots
theorem dX1_putWeight_0 : decode cX1_putWeight 0 = .ok (.aload_n 0, 1) := by decide +kernel
theorem dX1_putWeight_1 : decode cX1_putWeight 1 = .ok (.getfield 15, 3) := by decide +kernel
theorem dX1_putWeight_4 : decode cX1_putWeight 4 = .ok (.iload_n 1, 1) := by decide +kernel
theorem dX1_putWeight_5 : decode cX1_putWeight 5 = .ok (.iconst 4, 1) := by decide +kernel
theorem dX1_putWeight_6 : decode cX1_putWeight 6 = .ok (.imul, 1) := by decide +kernel
theorem dX1_putWeight_7 : decode cX1_putWeight 7 = .ok (.iload_n 2, 1) := by decide +kernel
theorem dX1_putWeight_8 : decode cX1_putWeight 8 = .ok (.iadd, 1) := by decide +kernel
theorem dX1_putWeight_9 : decode cX1_putWeight 9 = .ok (.iload_n 3, 1) := by decide +kernel
theorem dX1_putWeight_10 : decode cX1_putWeight 10 = .ok (.iastore, 1) := by decide +kernel
theorem dX1_putWeight_11 : decode cX1_putWeight 11 = .ok (.aload_n 0, 1) := by decide +kernel
theorem dX1_putWeight_12 : decode cX1_putWeight 12 = .ok (.iload_n 1, 1) := by decide +kernel
theorem dX1_putWeight_13 : decode cX1_putWeight 13 = .ok (.invokevirtual 30, 3) := by decide +kernel
theorem dX1_putWeight_16 : decode cX1_putWeight 16 = .ok (.return_, 1) := by decide +kernel
theorem dX1_putGrudge_0 : decode cX1_putGrudge 0 = .ok (.aload_n 0, 1) := by decide +kernel
theorem dX1_putGrudge_1 : decode cX1_putGrudge 1 = .ok (.getfield 18, 3) := by decide +kernel
theorem dX1_putGrudge_4 : decode cX1_putGrudge 4 = .ok (.iload_n 1, 1) := by decide +kernel
theorem dX1_putGrudge_5 : decode cX1_putGrudge 5 = .ok (.bipush 7, 2) := by decide +kernel
theorem dX1_putGrudge_7 : decode cX1_putGrudge 7 = .ok (.imul, 1) := by decide +kernel
theorem dX1_putGrudge_8 : decode cX1_putGrudge 8 = .ok (.iload_n 2, 1) := by decide +kernel
theorem dX1_putGrudge_9 : decode cX1_putGrudge 9 = .ok (.iadd, 1) := by decide +kernel
theorem dX1_putGrudge_10 : decode cX1_putGrudge 10 = .ok (.iload_n 3, 1) := by decide +kernel
theorem dX1_putGrudge_11 : decode cX1_putGrudge 11 = .ok (.iastore, 1) := by decide +kernel
theorem dX1_putGrudge_12 : decode cX1_putGrudge 12 = .ok (.return_, 1) := by decide +kernel
set_option maxRecDepth 20000 in
theorem ggX1_weighPlots_X1_weighPlot : GoodIn wsX1_weighPlots wsX1_weighPlot := goodIn_r _ [5, 6, 7, 8, 9, 10, 11, 12, 13, 14, 15, 16, 17] (by decide +kernel) (by decide +kernel)
set_option maxRecDepth 20000 in
theorem gX1_weighPlots_X1_weighPlot : GoodIn wsX1_weighPlots (wsV RX1 50 RX1 yX1_weighPlot wsX1_weighPlot) := goodIn_app (goodIn_of _ (by decide +kernel)) ggX1_weighPlots_X1_weighPlot
theorem dX1_weighPlots_0 : decode cX1_weighPlots 0 = .ok (.iconst 0, 1) := by decide +kernel
theorem dX1_weighPlots_1 : decode cX1_weighPlots 1 = .ok (.istore_n 2, 1) := by decide +kernel
theorem dX1_weighPlots_2 : decode cX1_weighPlots 2 = .ok (.iload_n 2, 1) := by decide +kernel
theorem dX1_weighPlots_3 : decode cX1_weighPlots 3 = .ok (.bipush 24, 2) := by decide +kernel
theorem dX1_weighPlots_5 : decode cX1_weighPlots 5 = .ok (.if_icmp .ge 15, 3) := by decide +kernel
theorem dX1_weighPlots_8 : decode cX1_weighPlots 8 = .ok (.aload_n 0, 1) := by decide +kernel
theorem dX1_weighPlots_9 : decode cX1_weighPlots 9 = .ok (.iload_n 2, 1) := by decide +kernel
theorem dX1_weighPlots_10 : decode cX1_weighPlots 10 = .ok (.iload_n 1, 1) := by decide +kernel
theorem dX1_weighPlots_11 : decode cX1_weighPlots 11 = .ok (.invokevirtual 50, 3) := by decide +kernel
theorem dX1_weighPlots_14 : decode cX1_weighPlots 14 = .ok (.iinc 2 1, 3) := by decide +kernel
theorem dX1_weighPlots_17 : decode cX1_weighPlots 17 = .ok (.goto (-15), 3) := by decide +kernel
theorem dX1_weighPlots_20 : decode cX1_weighPlots 20 = .ok (.return_, 1) := by decide +kernel
theorem dX1_weighPlot_0 : decode cX1_weighPlot 0 = .ok (.iconst 0, 1) := by decide +kernel
theorem dX1_weighPlot_1 : decode cX1_weighPlot 1 = .ok (.istore_n 3, 1) := by decide +kernel
theorem dX1_weighPlot_2 : decode cX1_weighPlot 2 = .ok (.iconst 0, 1) := by decide +kernel
theorem dX1_weighPlot_3 : decode cX1_weighPlot 3 = .ok (.istore 4, 2) := by decide +kernel
theorem dX1_weighPlot_5 : decode cX1_weighPlot 5 = .ok (.iload 4, 2) := by decide +kernel
theorem dX1_weighPlot_7 : decode cX1_weighPlot 7 = .ok (.iconst 4, 1) := by decide +kernel
theorem dX1_weighPlot_8 : decode cX1_weighPlot 8 = .ok (.if_icmp .ge 35, 3) := by decide +kernel
theorem dX1_weighPlot_11 : decode cX1_weighPlot 11 = .ok (.iload_n 3, 1) := by decide +kernel
theorem dX1_weighPlot_12 : decode cX1_weighPlot 12 = .ok (.aload_n 0, 1) := by decide +kernel
theorem dX1_weighPlot_13 : decode cX1_weighPlot 13 = .ok (.getfield 9, 3) := by decide +kernel
theorem dX1_weighPlot_16 : decode cX1_weighPlot 16 = .ok (.iload_n 1, 1) := by decide +kernel
theorem dX1_weighPlot_17 : decode cX1_weighPlot 17 = .ok (.iconst 4, 1) := by decide +kernel
theorem dX1_weighPlot_18 : decode cX1_weighPlot 18 = .ok (.imul, 1) := by decide +kernel
theorem dX1_weighPlot_19 : decode cX1_weighPlot 19 = .ok (.iload 4, 2) := by decide +kernel
theorem dX1_weighPlot_21 : decode cX1_weighPlot 21 = .ok (.iadd, 1) := by decide +kernel
theorem dX1_weighPlot_22 : decode cX1_weighPlot 22 = .ok (.iaload, 1) := by decide +kernel
theorem dX1_weighPlot_23 : decode cX1_weighPlot 23 = .ok (.aload_n 0, 1) := by decide +kernel
theorem dX1_weighPlot_24 : decode cX1_weighPlot 24 = .ok (.getfield 15, 3) := by decide +kernel
theorem dX1_weighPlot_27 : decode cX1_weighPlot 27 = .ok (.iload_n 2, 1) := by decide +kernel
theorem dX1_weighPlot_28 : decode cX1_weighPlot 28 = .ok (.iconst 4, 1) := by decide +kernel
theorem dX1_weighPlot_29 : decode cX1_weighPlot 29 = .ok (.imul, 1) := by decide +kernel
theorem dX1_weighPlot_30 : decode cX1_weighPlot 30 = .ok (.iload 4, 2) := by decide +kernel
theorem dX1_weighPlot_32 : decode cX1_weighPlot 32 = .ok (.iadd, 1) := by decide +kernel
theorem dX1_weighPlot_33 : decode cX1_weighPlot 33 = .ok (.iaload, 1) := by decide +kernel
theorem dX1_weighPlot_34 : decode cX1_weighPlot 34 = .ok (.imul, 1) := by decide +kernel
theorem dX1_weighPlot_35 : decode cX1_weighPlot 35 = .ok (.iadd, 1) := by decide +kernel
theorem dX1_weighPlot_36 : decode cX1_weighPlot 36 = .ok (.istore_n 3, 1) := by decide +kernel
theorem dX1_weighPlot_37 : decode cX1_weighPlot 37 = .ok (.iinc 4 1, 3) := by decide +kernel
theorem dX1_weighPlot_40 : decode cX1_weighPlot 40 = .ok (.goto (-35), 3) := by decide +kernel
theorem dX1_weighPlot_43 : decode cX1_weighPlot 43 = .ok (.aload_n 0, 1) := by decide +kernel
theorem dX1_weighPlot_44 : decode cX1_weighPlot 44 = .ok (.getfield 27, 3) := by decide +kernel
theorem dX1_weighPlot_47 : decode cX1_weighPlot 47 = .ok (.iload_n 1, 1) := by decide +kernel
theorem dX1_weighPlot_48 : decode cX1_weighPlot 48 = .ok (.bipush 7, 2) := by decide +kernel
theorem dX1_weighPlot_50 : decode cX1_weighPlot 50 = .ok (.imul, 1) := by decide +kernel
theorem dX1_weighPlot_51 : decode cX1_weighPlot 51 = .ok (.iload_n 2, 1) := by decide +kernel
theorem dX1_weighPlot_52 : decode cX1_weighPlot 52 = .ok (.iadd, 1) := by decide +kernel
theorem dX1_weighPlot_53 : decode cX1_weighPlot 53 = .ok (.iload_n 3, 1) := by decide +kernel
theorem dX1_weighPlot_54 : decode cX1_weighPlot 54 = .ok (.iastore, 1) := by decide +kernel
theorem dX1_weighPlot_55 : decode cX1_weighPlot 55 = .ok (.return_, 1) := by decide +kernel
theorem dX1_worthOf_0 : decode cX1_worthOf 0 = .ok (.aload_n 0, 1) := by decide +kernel
theorem dX1_worthOf_1 : decode cX1_worthOf 1 = .ok (.getfield 27, 3) := by decide +kernel
theorem dX1_worthOf_4 : decode cX1_worthOf 4 = .ok (.iload_n 1, 1) := by decide +kernel
theorem dX1_worthOf_5 : decode cX1_worthOf 5 = .ok (.bipush 7, 2) := by decide +kernel
theorem dX1_worthOf_7 : decode cX1_worthOf 7 = .ok (.imul, 1) := by decide +kernel
theorem dX1_worthOf_8 : decode cX1_worthOf 8 = .ok (.iload_n 2, 1) := by decide +kernel
theorem dX1_worthOf_9 : decode cX1_worthOf 9 = .ok (.iadd, 1) := by decide +kernel
theorem dX1_worthOf_10 : decode cX1_worthOf 10 = .ok (.iaload, 1) := by decide +kernel
theorem dX1_worthOf_11 : decode cX1_worthOf 11 = .ok (.ireturn, 1) := by decide +kernel
theorem dX1_worthFrom_0 : decode cX1_worthFrom 0 = .ok (.iconst 0, 1) := by decide +kernel
theorem dX1_worthFrom_1 : decode cX1_worthFrom 1 = .ok (.istore_n 3, 1) := by decide +kernel
theorem dX1_worthFrom_2 : decode cX1_worthFrom 2 = .ok (.iload_n 1, 1) := by decide +kernel
theorem dX1_worthFrom_3 : decode cX1_worthFrom 3 = .ok (.istore 4, 2) := by decide +kernel
theorem dX1_worthFrom_5 : decode cX1_worthFrom 5 = .ok (.iload 4, 2) := by decide +kernel
theorem dX1_worthFrom_7 : decode cX1_worthFrom 7 = .ok (.bipush 24, 2) := by decide +kernel
theorem dX1_worthFrom_9 : decode cX1_worthFrom 9 = .ok (.if_icmp .ge 24, 3) := by decide +kernel
theorem dX1_worthFrom_12 : decode cX1_worthFrom 12 = .ok (.iload_n 3, 1) := by decide +kernel
theorem dX1_worthFrom_13 : decode cX1_worthFrom 13 = .ok (.aload_n 0, 1) := by decide +kernel
theorem dX1_worthFrom_14 : decode cX1_worthFrom 14 = .ok (.getfield 27, 3) := by decide +kernel
theorem dX1_worthFrom_17 : decode cX1_worthFrom 17 = .ok (.iload 4, 2) := by decide +kernel
theorem dX1_worthFrom_19 : decode cX1_worthFrom 19 = .ok (.bipush 7, 2) := by decide +kernel
theorem dX1_worthFrom_21 : decode cX1_worthFrom 21 = .ok (.imul, 1) := by decide +kernel
theorem dX1_worthFrom_22 : decode cX1_worthFrom 22 = .ok (.iload_n 2, 1) := by decide +kernel
theorem dX1_worthFrom_23 : decode cX1_worthFrom 23 = .ok (.iadd, 1) := by decide +kernel
theorem dX1_worthFrom_24 : decode cX1_worthFrom 24 = .ok (.iaload, 1) := by decide +kernel
theorem dX1_worthFrom_25 : decode cX1_worthFrom 25 = .ok (.iadd, 1) := by decide +kernel
theorem dX1_worthFrom_26 : decode cX1_worthFrom 26 = .ok (.istore_n 3, 1) := by decide +kernel
theorem dX1_worthFrom_27 : decode cX1_worthFrom 27 = .ok (.iinc 4 1, 3) := by decide +kernel
theorem dX1_worthFrom_30 : decode cX1_worthFrom 30 = .ok (.goto (-25), 3) := by decide +kernel
theorem dX1_worthFrom_33 : decode cX1_worthFrom 33 = .ok (.iload_n 3, 1) := by decide +kernel
theorem dX1_worthFrom_34 : decode cX1_worthFrom 34 = .ok (.ireturn, 1) := by decide +kernel
theorem dX1_grudgeOf_0 : decode cX1_grudgeOf 0 = .ok (.aload_n 0, 1) := by decide +kernel
theorem dX1_grudgeOf_1 : decode cX1_grudgeOf 1 = .ok (.getfield 18, 3) := by decide +kernel
theorem dX1_grudgeOf_4 : decode cX1_grudgeOf 4 = .ok (.iload_n 1, 1) := by decide +kernel
theorem dX1_grudgeOf_5 : decode cX1_grudgeOf 5 = .ok (.bipush 7, 2) := by decide +kernel
theorem dX1_grudgeOf_7 : decode cX1_grudgeOf 7 = .ok (.imul, 1) := by decide +kernel
theorem dX1_grudgeOf_8 : decode cX1_grudgeOf 8 = .ok (.iload_n 2, 1) := by decide +kernel
theorem dX1_grudgeOf_9 : decode cX1_grudgeOf 9 = .ok (.iadd, 1) := by decide +kernel
theorem dX1_grudgeOf_10 : decode cX1_grudgeOf 10 = .ok (.iaload, 1) := by decide +kernel
theorem dX1_grudgeOf_11 : decode cX1_grudgeOf 11 = .ok (.ireturn, 1) := by decide +kernel
theorem dX1_grudgesOf_0 : decode cX1_grudgesOf 0 = .ok (.iconst 0, 1) := by decide +kernel
theorem dX1_grudgesOf_1 : decode cX1_grudgesOf 1 = .ok (.istore_n 2, 1) := by decide +kernel
theorem dX1_grudgesOf_2 : decode cX1_grudgesOf 2 = .ok (.iconst 0, 1) := by decide +kernel
theorem dX1_grudgesOf_3 : decode cX1_grudgesOf 3 = .ok (.istore_n 3, 1) := by decide +kernel
theorem dX1_grudgesOf_4 : decode cX1_grudgesOf 4 = .ok (.iload_n 3, 1) := by decide +kernel
theorem dX1_grudgesOf_5 : decode cX1_grudgesOf 5 = .ok (.bipush 7, 2) := by decide +kernel
theorem dX1_grudgesOf_7 : decode cX1_grudgesOf 7 = .ok (.if_icmp .ge 23, 3) := by decide +kernel
theorem dX1_grudgesOf_10 : decode cX1_grudgesOf 10 = .ok (.iload_n 2, 1) := by decide +kernel
theorem dX1_grudgesOf_11 : decode cX1_grudgesOf 11 = .ok (.aload_n 0, 1) := by decide +kernel
theorem dX1_grudgesOf_12 : decode cX1_grudgesOf 12 = .ok (.getfield 18, 3) := by decide +kernel
theorem dX1_grudgesOf_15 : decode cX1_grudgesOf 15 = .ok (.iload_n 1, 1) := by decide +kernel
theorem dX1_grudgesOf_16 : decode cX1_grudgesOf 16 = .ok (.bipush 7, 2) := by decide +kernel
theorem dX1_grudgesOf_18 : decode cX1_grudgesOf 18 = .ok (.imul, 1) := by decide +kernel
theorem dX1_grudgesOf_19 : decode cX1_grudgesOf 19 = .ok (.iload_n 3, 1) := by decide +kernel
theorem dX1_grudgesOf_20 : decode cX1_grudgesOf 20 = .ok (.iadd, 1) := by decide +kernel
theorem dX1_grudgesOf_21 : decode cX1_grudgesOf 21 = .ok (.iaload, 1) := by decide +kernel
theorem dX1_grudgesOf_22 : decode cX1_grudgesOf 22 = .ok (.iadd, 1) := by decide +kernel
theorem dX1_grudgesOf_23 : decode cX1_grudgesOf 23 = .ok (.istore_n 2, 1) := by decide +kernel
theorem dX1_grudgesOf_24 : decode cX1_grudgesOf 24 = .ok (.iinc 3 1, 3) := by decide +kernel
theorem dX1_grudgesOf_27 : decode cX1_grudgesOf 27 = .ok (.goto (-23), 3) := by decide +kernel
theorem dX1_grudgesOf_30 : decode cX1_grudgesOf 30 = .ok (.iload_n 2, 1) := by decide +kernel
theorem dX1_grudgesOf_31 : decode cX1_grudgesOf 31 = .ok (.ireturn, 1) := by decide +kernel
set_option maxRecDepth 20000 in
theorem ggX1_isAhead_X1_grudgesOf : GoodIn wsX1_isAhead wsX1_grudgesOf := goodIn_r _ [6, 7, 8, 9, 10, 11, 12, 13, 14, 15, 16] (by decide +kernel) (by decide +kernel)
set_option maxRecDepth 20000 in
theorem gX1_isAhead_X1_grudgesOf : GoodIn wsX1_isAhead (wsV RX1 54 RX1 yX1_grudgesOf wsX1_grudgesOf) := goodIn_app (goodIn_of _ (by decide +kernel)) ggX1_isAhead_X1_grudgesOf
theorem dX1_isAhead_0 : decode cX1_isAhead 0 = .ok (.aload_n 0, 1) := by decide +kernel
theorem dX1_isAhead_1 : decode cX1_isAhead 1 = .ok (.getfield 24, 3) := by decide +kernel
theorem dX1_isAhead_4 : decode cX1_isAhead 4 = .ok (.iconst 0, 1) := by decide +kernel
theorem dX1_isAhead_5 : decode cX1_isAhead 5 = .ok (.iaload, 1) := by decide +kernel
theorem dX1_isAhead_6 : decode cX1_isAhead 6 = .ok (.ifCond .ne 14, 3) := by decide +kernel
theorem dX1_isAhead_9 : decode cX1_isAhead 9 = .ok (.iload_n 1, 1) := by decide +kernel
theorem dX1_isAhead_10 : decode cX1_isAhead 10 = .ok (.iload_n 2, 1) := by decide +kernel
theorem dX1_isAhead_11 : decode cX1_isAhead 11 = .ok (.if_icmp .ge 7, 3) := by decide +kernel
theorem dX1_isAhead_14 : decode cX1_isAhead 14 = .ok (.iconst 1, 1) := by decide +kernel
theorem dX1_isAhead_15 : decode cX1_isAhead 15 = .ok (.goto 4, 3) := by decide +kernel
theorem dX1_isAhead_18 : decode cX1_isAhead 18 = .ok (.iconst 0, 1) := by decide +kernel
theorem dX1_isAhead_19 : decode cX1_isAhead 19 = .ok (.ireturn, 1) := by decide +kernel
theorem dX1_isAhead_20 : decode cX1_isAhead 20 = .ok (.aload_n 0, 1) := by decide +kernel
theorem dX1_isAhead_21 : decode cX1_isAhead 21 = .ok (.iload_n 1, 1) := by decide +kernel
theorem dX1_isAhead_22 : decode cX1_isAhead 22 = .ok (.invokevirtual 54, 3) := by decide +kernel
theorem dX1_isAhead_25 : decode cX1_isAhead 25 = .ok (.istore_n 3, 1) := by decide +kernel
theorem dX1_isAhead_26 : decode cX1_isAhead 26 = .ok (.aload_n 0, 1) := by decide +kernel
theorem dX1_isAhead_27 : decode cX1_isAhead 27 = .ok (.iload_n 2, 1) := by decide +kernel
theorem dX1_isAhead_28 : decode cX1_isAhead 28 = .ok (.invokevirtual 54, 3) := by decide +kernel
theorem dX1_isAhead_31 : decode cX1_isAhead 31 = .ok (.istore 4, 2) := by decide +kernel
theorem dX1_isAhead_33 : decode cX1_isAhead 33 = .ok (.iload_n 3, 1) := by decide +kernel
theorem dX1_isAhead_34 : decode cX1_isAhead 34 = .ok (.iload 4, 2) := by decide +kernel
theorem dX1_isAhead_36 : decode cX1_isAhead 36 = .ok (.if_icmp .gt 14, 3) := by decide +kernel
theorem dX1_isAhead_39 : decode cX1_isAhead 39 = .ok (.iload_n 3, 1) := by decide +kernel
theorem dX1_isAhead_40 : decode cX1_isAhead 40 = .ok (.iload 4, 2) := by decide +kernel
theorem dX1_isAhead_42 : decode cX1_isAhead 42 = .ok (.if_icmp .ne 12, 3) := by decide +kernel
theorem dX1_isAhead_45 : decode cX1_isAhead 45 = .ok (.iload_n 1, 1) := by decide +kernel
theorem dX1_isAhead_46 : decode cX1_isAhead 46 = .ok (.iload_n 2, 1) := by decide +kernel
theorem dX1_isAhead_47 : decode cX1_isAhead 47 = .ok (.if_icmp .ge 7, 3) := by decide +kernel
theorem dX1_isAhead_50 : decode cX1_isAhead 50 = .ok (.iconst 1, 1) := by decide +kernel
theorem dX1_isAhead_51 : decode cX1_isAhead 51 = .ok (.goto 4, 3) := by decide +kernel
theorem dX1_isAhead_54 : decode cX1_isAhead 54 = .ok (.iconst 0, 1) := by decide +kernel
theorem dX1_isAhead_55 : decode cX1_isAhead 55 = .ok (.ireturn, 1) := by decide +kernel
set_option maxRecDepth 20000 in
theorem ggX1_placeOf_X1_isAhead : GoodIn wsX1_placeOf wsX1_isAhead := goodIn_r _ [5, 6, 7, 8, 9, 4, 10, 11, 12, 13, 14, 15, 16, 17, 18, 19, 20] (by decide +kernel) (by decide +kernel)
set_option maxRecDepth 20000 in
theorem gX1_placeOf_X1_isAhead : GoodIn wsX1_placeOf (wsV RX1 58 RX1 yX1_isAhead wsX1_isAhead) := goodIn_app (goodIn_of _ (by decide +kernel)) ggX1_placeOf_X1_isAhead
theorem dX1_placeOf_0 : decode cX1_placeOf 0 = .ok (.iconst 0, 1) := by decide +kernel
theorem dX1_placeOf_1 : decode cX1_placeOf 1 = .ok (.istore_n 2, 1) := by decide +kernel
theorem dX1_placeOf_2 : decode cX1_placeOf 2 = .ok (.iconst 0, 1) := by decide +kernel
theorem dX1_placeOf_3 : decode cX1_placeOf 3 = .ok (.istore_n 3, 1) := by decide +kernel
theorem dX1_placeOf_4 : decode cX1_placeOf 4 = .ok (.iload_n 3, 1) := by decide +kernel
theorem dX1_placeOf_5 : decode cX1_placeOf 5 = .ok (.bipush 7, 2) := by decide +kernel
theorem dX1_placeOf_7 : decode cX1_placeOf 7 = .ok (.if_icmp .ge 21, 3) := by decide +kernel
theorem dX1_placeOf_10 : decode cX1_placeOf 10 = .ok (.aload_n 0, 1) := by decide +kernel
theorem dX1_placeOf_11 : decode cX1_placeOf 11 = .ok (.iload_n 3, 1) := by decide +kernel
theorem dX1_placeOf_12 : decode cX1_placeOf 12 = .ok (.iload_n 1, 1) := by decide +kernel
theorem dX1_placeOf_13 : decode cX1_placeOf 13 = .ok (.invokevirtual 58, 3) := by decide +kernel
theorem dX1_placeOf_16 : decode cX1_placeOf 16 = .ok (.ifCond .eq 6, 3) := by decide +kernel
theorem dX1_placeOf_19 : decode cX1_placeOf 19 = .ok (.iinc 2 1, 3) := by decide +kernel
theorem dX1_placeOf_22 : decode cX1_placeOf 22 = .ok (.iinc 3 1, 3) := by decide +kernel
theorem dX1_placeOf_25 : decode cX1_placeOf 25 = .ok (.goto (-21), 3) := by decide +kernel
theorem dX1_placeOf_28 : decode cX1_placeOf 28 = .ok (.iload_n 2, 1) := by decide +kernel
theorem dX1_placeOf_29 : decode cX1_placeOf 29 = .ok (.ireturn, 1) := by decide +kernel
theorem dX1_plotsOf_0 : decode cX1_plotsOf 0 = .ok (.iconst 0, 1) := by decide +kernel
theorem dX1_plotsOf_1 : decode cX1_plotsOf 1 = .ok (.istore_n 2, 1) := by decide +kernel
theorem dX1_plotsOf_2 : decode cX1_plotsOf 2 = .ok (.iconst 0, 1) := by decide +kernel
theorem dX1_plotsOf_3 : decode cX1_plotsOf 3 = .ok (.istore_n 3, 1) := by decide +kernel
theorem dX1_plotsOf_4 : decode cX1_plotsOf 4 = .ok (.iload_n 3, 1) := by decide +kernel
theorem dX1_plotsOf_5 : decode cX1_plotsOf 5 = .ok (.bipush 24, 2) := by decide +kernel
theorem dX1_plotsOf_7 : decode cX1_plotsOf 7 = .ok (.if_icmp .ge 22, 3) := by decide +kernel
theorem dX1_plotsOf_10 : decode cX1_plotsOf 10 = .ok (.aload_n 0, 1) := by decide +kernel
theorem dX1_plotsOf_11 : decode cX1_plotsOf 11 = .ok (.getfield 21, 3) := by decide +kernel
theorem dX1_plotsOf_14 : decode cX1_plotsOf 14 = .ok (.iload_n 3, 1) := by decide +kernel
theorem dX1_plotsOf_15 : decode cX1_plotsOf 15 = .ok (.iaload, 1) := by decide +kernel
theorem dX1_plotsOf_16 : decode cX1_plotsOf 16 = .ok (.iload_n 1, 1) := by decide +kernel
theorem dX1_plotsOf_17 : decode cX1_plotsOf 17 = .ok (.if_icmp .ne 6, 3) := by decide +kernel
theorem dX1_plotsOf_20 : decode cX1_plotsOf 20 = .ok (.iinc 2 1, 3) := by decide +kernel
theorem dX1_plotsOf_23 : decode cX1_plotsOf 23 = .ok (.iinc 3 1, 3) := by decide +kernel
theorem dX1_plotsOf_26 : decode cX1_plotsOf 26 = .ok (.goto (-22), 3) := by decide +kernel
theorem dX1_plotsOf_29 : decode cX1_plotsOf 29 = .ok (.iload_n 2, 1) := by decide +kernel
theorem dX1_plotsOf_30 : decode cX1_plotsOf 30 = .ok (.ireturn, 1) := by decide +kernel
theorem dX1_exchange_0 : decode cX1_exchange 0 = .ok (.iconst 0, 1) := by decide +kernel
theorem dX1_exchange_1 : decode cX1_exchange 1 = .ok (.istore_n 3, 1) := by decide +kernel
theorem dX1_exchange_2 : decode cX1_exchange 2 = .ok (.iload_n 3, 1) := by decide +kernel
theorem dX1_exchange_3 : decode cX1_exchange 3 = .ok (.bipush 24, 2) := by decide +kernel
theorem dX1_exchange_5 : decode cX1_exchange 5 = .ok (.if_icmp .ge 46, 3) := by decide +kernel
theorem dX1_exchange_8 : decode cX1_exchange 8 = .ok (.aload_n 0, 1) := by decide +kernel
theorem dX1_exchange_9 : decode cX1_exchange 9 = .ok (.getfield 21, 3) := by decide +kernel
theorem dX1_exchange_12 : decode cX1_exchange 12 = .ok (.iload_n 3, 1) := by decide +kernel
theorem dX1_exchange_13 : decode cX1_exchange 13 = .ok (.iaload, 1) := by decide +kernel
theorem dX1_exchange_14 : decode cX1_exchange 14 = .ok (.iload_n 1, 1) := by decide +kernel
theorem dX1_exchange_15 : decode cX1_exchange 15 = .ok (.if_icmp .ne 13, 3) := by decide +kernel
theorem dX1_exchange_18 : decode cX1_exchange 18 = .ok (.aload_n 0, 1) := by decide +kernel
theorem dX1_exchange_19 : decode cX1_exchange 19 = .ok (.getfield 21, 3) := by decide +kernel
theorem dX1_exchange_22 : decode cX1_exchange 22 = .ok (.iload_n 3, 1) := by decide +kernel
theorem dX1_exchange_23 : decode cX1_exchange 23 = .ok (.iload_n 2, 1) := by decide +kernel
theorem dX1_exchange_24 : decode cX1_exchange 24 = .ok (.iastore, 1) := by decide +kernel
theorem dX1_exchange_25 : decode cX1_exchange 25 = .ok (.goto 20, 3) := by decide +kernel
theorem dX1_exchange_28 : decode cX1_exchange 28 = .ok (.aload_n 0, 1) := by decide +kernel
theorem dX1_exchange_29 : decode cX1_exchange 29 = .ok (.getfield 21, 3) := by decide +kernel
theorem dX1_exchange_32 : decode cX1_exchange 32 = .ok (.iload_n 3, 1) := by decide +kernel
theorem dX1_exchange_33 : decode cX1_exchange 33 = .ok (.iaload, 1) := by decide +kernel
theorem dX1_exchange_34 : decode cX1_exchange 34 = .ok (.iload_n 2, 1) := by decide +kernel
theorem dX1_exchange_35 : decode cX1_exchange 35 = .ok (.if_icmp .ne 10, 3) := by decide +kernel
theorem dX1_exchange_38 : decode cX1_exchange 38 = .ok (.aload_n 0, 1) := by decide +kernel
theorem dX1_exchange_39 : decode cX1_exchange 39 = .ok (.getfield 21, 3) := by decide +kernel
theorem dX1_exchange_42 : decode cX1_exchange 42 = .ok (.iload_n 3, 1) := by decide +kernel
theorem dX1_exchange_43 : decode cX1_exchange 43 = .ok (.iload_n 1, 1) := by decide +kernel
theorem dX1_exchange_44 : decode cX1_exchange 44 = .ok (.iastore, 1) := by decide +kernel
theorem dX1_exchange_45 : decode cX1_exchange 45 = .ok (.iinc 3 1, 3) := by decide +kernel
theorem dX1_exchange_48 : decode cX1_exchange 48 = .ok (.goto (-46), 3) := by decide +kernel
theorem dX1_exchange_51 : decode cX1_exchange 51 = .ok (.return_, 1) := by decide +kernel
set_option maxRecDepth 20000 in
theorem ggX2_init_X1_init : GoodIn wsX2_init wsX1_init := goodIn_r _ [10, 11, 2, 3, 12, 13, 14, 15, 16, 17, 18, 19, 20, 21, 7, 22, 23, 24, 25, 26, 29, 30, 31, 32, 33, 34, 35, 36, 37] (by decide +kernel) (by decide +kernel)
set_option maxRecDepth 20000 in
theorem gX2_init_X1_init : GoodIn wsX2_init (wsX1_init) := ggX2_init_X1_init
theorem dX2_init_0 : decode cX2_init 0 = .ok (.aload_n 0, 1) := by decide +kernel
theorem dX2_init_1 : decode cX2_init 1 = .ok (.invokespecial 3, 3) := by decide +kernel
theorem dX2_init_4 : decode cX2_init 4 = .ok (.aload_n 0, 1) := by decide +kernel
theorem dX2_init_5 : decode cX2_init 5 = .ok (.iconst 4, 1) := by decide +kernel
theorem dX2_init_6 : decode cX2_init 6 = .ok (.anewarray 9, 3) := by decide +kernel
theorem dX2_init_9 : decode cX2_init 9 = .ok (.putfield 11, 3) := by decide +kernel
theorem dX2_init_12 : decode cX2_init 12 = .ok (.iconst 0, 1) := by decide +kernel
theorem dX2_init_13 : decode cX2_init 13 = .ok (.istore_n 1, 1) := by decide +kernel
theorem dX2_init_14 : decode cX2_init 14 = .ok (.iload_n 1, 1) := by decide +kernel
theorem dX2_init_15 : decode cX2_init 15 = .ok (.iconst 4, 1) := by decide +kernel
theorem dX2_init_16 : decode cX2_init 16 = .ok (.if_icmp .ge 22, 3) := by decide +kernel
theorem dX2_init_19 : decode cX2_init 19 = .ok (.aload_n 0, 1) := by decide +kernel
theorem dX2_init_20 : decode cX2_init 20 = .ok (.getfield 11, 3) := by decide +kernel
theorem dX2_init_23 : decode cX2_init 23 = .ok (.iload_n 1, 1) := by decide +kernel
theorem dX2_init_24 : decode cX2_init 24 = .ok (.new 9, 3) := by decide +kernel
theorem dX2_init_27 : decode cX2_init 27 = .ok (.dup, 1) := by decide +kernel
theorem dX2_init_28 : decode cX2_init 28 = .ok (.invokespecial 17, 3) := by decide +kernel
theorem dX2_init_31 : decode cX2_init 31 = .ok (.aastore, 1) := by decide +kernel
theorem dX2_init_32 : decode cX2_init 32 = .ok (.iinc 1 1, 3) := by decide +kernel
theorem dX2_init_35 : decode cX2_init 35 = .ok (.goto (-21), 3) := by decide +kernel
theorem dX2_init_38 : decode cX2_init 38 = .ok (.return_, 1) := by decide +kernel
set_option maxRecDepth 20000 in
theorem ggX2_record_X2_dropOldest : GoodIn wsX2_record wsX2_dropOldest := goodIn_r _ [7, 2, 1, 26, 27] (by decide +kernel) (by decide +kernel)
set_option maxRecDepth 20000 in
theorem gX2_record_X2_dropOldest : GoodIn wsX2_record (wsV RX2 22 RX2 yX2_dropOldest wsX2_dropOldest) := goodIn_app (goodIn_of _ (by decide +kernel)) ggX2_record_X2_dropOldest
set_option maxRecDepth 20000 in
theorem ggX2_record_X1_copyFrom : GoodIn wsX2_record wsX1_copyFrom := goodIn_r _ [12, 13, 14, 15, 16, 17, 18, 19, 20, 21, 22, 23, 24, 25, 28, 29, 30, 31, 32, 33, 34, 35, 36] (by decide +kernel) (by decide +kernel)
set_option maxRecDepth 20000 in
theorem gX2_record_X1_copyFrom : GoodIn wsX2_record (wsV RX2 25 RX1 yX1_copyFrom wsX1_copyFrom) := goodIn_app (goodIn_of _ (by decide +kernel)) ggX2_record_X1_copyFrom
theorem dX2_record_0 : decode cX2_record 0 = .ok (.aload_n 0, 1) := by decide +kernel
theorem dX2_record_1 : decode cX2_record 1 = .ok (.getfield 18, 3) := by decide +kernel
theorem dX2_record_4 : decode cX2_record 4 = .ok (.iconst 4, 1) := by decide +kernel
theorem dX2_record_5 : decode cX2_record 5 = .ok (.if_icmp .lt 7, 3) := by decide +kernel
theorem dX2_record_8 : decode cX2_record 8 = .ok (.aload_n 0, 1) := by decide +kernel
theorem dX2_record_9 : decode cX2_record 9 = .ok (.invokevirtual 22, 3) := by decide +kernel
theorem dX2_record_12 : decode cX2_record 12 = .ok (.aload_n 0, 1) := by decide +kernel
theorem dX2_record_13 : decode cX2_record 13 = .ok (.getfield 11, 3) := by decide +kernel
theorem dX2_record_16 : decode cX2_record 16 = .ok (.aload_n 0, 1) := by decide +kernel
theorem dX2_record_17 : decode cX2_record 17 = .ok (.getfield 18, 3) := by decide +kernel
theorem dX2_record_20 : decode cX2_record 20 = .ok (.aaload, 1) := by decide +kernel
theorem dX2_record_21 : decode cX2_record 21 = .ok (.aload_n 1, 1) := by decide +kernel
theorem dX2_record_22 : decode cX2_record 22 = .ok (.invokevirtual 25, 3) := by decide +kernel
theorem dX2_record_25 : decode cX2_record 25 = .ok (.aload_n 0, 1) := by decide +kernel
theorem dX2_record_26 : decode cX2_record 26 = .ok (.dup, 1) := by decide +kernel
theorem dX2_record_27 : decode cX2_record 27 = .ok (.getfield 18, 3) := by decide +kernel
theorem dX2_record_30 : decode cX2_record 30 = .ok (.iconst 1, 1) := by decide +kernel
theorem dX2_record_31 : decode cX2_record 31 = .ok (.iadd, 1) := by decide +kernel
theorem dX2_record_32 : decode cX2_record 32 = .ok (.putfield 18, 3) := by decide +kernel
theorem dX2_record_35 : decode cX2_record 35 = .ok (.return_, 1) := by decide +kernel
set_option maxRecDepth 20000 in
theorem ggX2_takeLatest_X1_copyFrom : GoodIn wsX2_takeLatest wsX1_copyFrom := goodIn_r _ [7, 8, 9, 10, 11, 12, 13, 14, 15, 16, 17, 18, 19, 20, 23, 24, 25, 26, 27, 28, 29, 30, 31] (by decide +kernel) (by decide +kernel)
set_option maxRecDepth 20000 in
theorem gX2_takeLatest_X1_copyFrom : GoodIn wsX2_takeLatest (wsV RX2 25 RX1 yX1_copyFrom wsX1_copyFrom) := goodIn_app (goodIn_of _ (by decide +kernel)) ggX2_takeLatest_X1_copyFrom
theorem dX2_takeLatest_0 : decode cX2_takeLatest 0 = .ok (.aload_n 0, 1) := by decide +kernel
theorem dX2_takeLatest_1 : decode cX2_takeLatest 1 = .ok (.getfield 18, 3) := by decide +kernel
theorem dX2_takeLatest_4 : decode cX2_takeLatest 4 = .ok (.ifCond .le 26, 3) := by decide +kernel
theorem dX2_takeLatest_7 : decode cX2_takeLatest 7 = .ok (.aload_n 0, 1) := by decide +kernel
theorem dX2_takeLatest_8 : decode cX2_takeLatest 8 = .ok (.dup, 1) := by decide +kernel
theorem dX2_takeLatest_9 : decode cX2_takeLatest 9 = .ok (.getfield 18, 3) := by decide +kernel
theorem dX2_takeLatest_12 : decode cX2_takeLatest 12 = .ok (.iconst 1, 1) := by decide +kernel
theorem dX2_takeLatest_13 : decode cX2_takeLatest 13 = .ok (.isub, 1) := by decide +kernel
theorem dX2_takeLatest_14 : decode cX2_takeLatest 14 = .ok (.putfield 18, 3) := by decide +kernel
theorem dX2_takeLatest_17 : decode cX2_takeLatest 17 = .ok (.aload_n 1, 1) := by decide +kernel
theorem dX2_takeLatest_18 : decode cX2_takeLatest 18 = .ok (.aload_n 0, 1) := by decide +kernel
theorem dX2_takeLatest_19 : decode cX2_takeLatest 19 = .ok (.getfield 11, 3) := by decide +kernel
theorem dX2_takeLatest_22 : decode cX2_takeLatest 22 = .ok (.aload_n 0, 1) := by decide +kernel
theorem dX2_takeLatest_23 : decode cX2_takeLatest 23 = .ok (.getfield 18, 3) := by decide +kernel
theorem dX2_takeLatest_26 : decode cX2_takeLatest 26 = .ok (.aaload, 1) := by decide +kernel
theorem dX2_takeLatest_27 : decode cX2_takeLatest 27 = .ok (.invokevirtual 25, 3) := by decide +kernel
theorem dX2_takeLatest_30 : decode cX2_takeLatest 30 = .ok (.return_, 1) := by decide +kernel
theorem dX2_dropOldest_0 : decode cX2_dropOldest 0 = .ok (.aload_n 0, 1) := by decide +kernel
theorem dX2_dropOldest_1 : decode cX2_dropOldest 1 = .ok (.getfield 11, 3) := by decide +kernel
theorem dX2_dropOldest_4 : decode cX2_dropOldest 4 = .ok (.iconst 0, 1) := by decide +kernel
theorem dX2_dropOldest_5 : decode cX2_dropOldest 5 = .ok (.aaload, 1) := by decide +kernel
theorem dX2_dropOldest_6 : decode cX2_dropOldest 6 = .ok (.astore_n 1, 1) := by decide +kernel
theorem dX2_dropOldest_7 : decode cX2_dropOldest 7 = .ok (.iconst 1, 1) := by decide +kernel
theorem dX2_dropOldest_8 : decode cX2_dropOldest 8 = .ok (.istore_n 2, 1) := by decide +kernel
theorem dX2_dropOldest_9 : decode cX2_dropOldest 9 = .ok (.iload_n 2, 1) := by decide +kernel
theorem dX2_dropOldest_10 : decode cX2_dropOldest 10 = .ok (.iconst 4, 1) := by decide +kernel
theorem dX2_dropOldest_11 : decode cX2_dropOldest 11 = .ok (.if_icmp .ge 23, 3) := by decide +kernel
theorem dX2_dropOldest_14 : decode cX2_dropOldest 14 = .ok (.aload_n 0, 1) := by decide +kernel
theorem dX2_dropOldest_15 : decode cX2_dropOldest 15 = .ok (.getfield 11, 3) := by decide +kernel
theorem dX2_dropOldest_18 : decode cX2_dropOldest 18 = .ok (.iload_n 2, 1) := by decide +kernel
theorem dX2_dropOldest_19 : decode cX2_dropOldest 19 = .ok (.iconst 1, 1) := by decide +kernel
theorem dX2_dropOldest_20 : decode cX2_dropOldest 20 = .ok (.isub, 1) := by decide +kernel
theorem dX2_dropOldest_21 : decode cX2_dropOldest 21 = .ok (.aload_n 0, 1) := by decide +kernel
theorem dX2_dropOldest_22 : decode cX2_dropOldest 22 = .ok (.getfield 11, 3) := by decide +kernel
theorem dX2_dropOldest_25 : decode cX2_dropOldest 25 = .ok (.iload_n 2, 1) := by decide +kernel
theorem dX2_dropOldest_26 : decode cX2_dropOldest 26 = .ok (.aaload, 1) := by decide +kernel
theorem dX2_dropOldest_27 : decode cX2_dropOldest 27 = .ok (.aastore, 1) := by decide +kernel
theorem dX2_dropOldest_28 : decode cX2_dropOldest 28 = .ok (.iinc 2 1, 3) := by decide +kernel
theorem dX2_dropOldest_31 : decode cX2_dropOldest 31 = .ok (.goto (-22), 3) := by decide +kernel
theorem dX2_dropOldest_34 : decode cX2_dropOldest 34 = .ok (.aload_n 0, 1) := by decide +kernel
theorem dX2_dropOldest_35 : decode cX2_dropOldest 35 = .ok (.getfield 11, 3) := by decide +kernel
theorem dX2_dropOldest_38 : decode cX2_dropOldest 38 = .ok (.iconst 3, 1) := by decide +kernel
theorem dX2_dropOldest_39 : decode cX2_dropOldest 39 = .ok (.aload_n 1, 1) := by decide +kernel
theorem dX2_dropOldest_40 : decode cX2_dropOldest 40 = .ok (.aastore, 1) := by decide +kernel
theorem dX2_dropOldest_41 : decode cX2_dropOldest 41 = .ok (.aload_n 0, 1) := by decide +kernel
theorem dX2_dropOldest_42 : decode cX2_dropOldest 42 = .ok (.dup, 1) := by decide +kernel
theorem dX2_dropOldest_43 : decode cX2_dropOldest 43 = .ok (.getfield 18, 3) := by decide +kernel
theorem dX2_dropOldest_46 : decode cX2_dropOldest 46 = .ok (.iconst 1, 1) := by decide +kernel
theorem dX2_dropOldest_47 : decode cX2_dropOldest 47 = .ok (.isub, 1) := by decide +kernel
theorem dX2_dropOldest_48 : decode cX2_dropOldest 48 = .ok (.putfield 18, 3) := by decide +kernel
theorem dX2_dropOldest_51 : decode cX2_dropOldest 51 = .ok (.return_, 1) := by decide +kernel
theorem dX3_init_0 : decode cX3_init 0 = .ok (.aload_n 0, 1) := by decide +kernel
theorem dX3_init_1 : decode cX3_init 1 = .ok (.invokespecial 3, 3) := by decide +kernel
theorem dX3_init_4 : decode cX3_init 4 = .ok (.aload_n 0, 1) := by decide +kernel
theorem dX3_init_5 : decode cX3_init 5 = .ok (.iconst 4, 1) := by decide +kernel
theorem dX3_init_6 : decode cX3_init 6 = .ok (.newarray .int, 2) := by decide +kernel
theorem dX3_init_8 : decode cX3_init 8 = .ok (.putfield 9, 3) := by decide +kernel
theorem dX3_init_11 : decode cX3_init 11 = .ok (.aload_n 0, 1) := by decide +kernel
theorem dX3_init_12 : decode cX3_init 12 = .ok (.bipush 60, 2) := by decide +kernel
theorem dX3_init_14 : decode cX3_init 14 = .ok (.newarray .char, 2) := by decide +kernel
theorem dX3_init_16 : decode cX3_init 16 = .ok (.putfield 15, 3) := by decide +kernel
theorem dX3_init_19 : decode cX3_init 19 = .ok (.return_, 1) := by decide +kernel
theorem dX3_append_0 : decode cX3_append 0 = .ok (.aload_n 0, 1) := by decide +kernel
theorem dX3_append_1 : decode cX3_append 1 = .ok (.getfield 19, 3) := by decide +kernel
theorem dX3_append_4 : decode cX3_append 4 = .ok (.bipush 60, 2) := by decide +kernel
theorem dX3_append_6 : decode cX3_append 6 = .ok (.if_icmp .ge 23, 3) := by decide +kernel
theorem dX3_append_9 : decode cX3_append 9 = .ok (.aload_n 0, 1) := by decide +kernel
theorem dX3_append_10 : decode cX3_append 10 = .ok (.getfield 15, 3) := by decide +kernel
theorem dX3_append_13 : decode cX3_append 13 = .ok (.aload_n 0, 1) := by decide +kernel
theorem dX3_append_14 : decode cX3_append 14 = .ok (.getfield 19, 3) := by decide +kernel
theorem dX3_append_17 : decode cX3_append 17 = .ok (.iload_n 1, 1) := by decide +kernel
theorem dX3_append_18 : decode cX3_append 18 = .ok (.castore, 1) := by decide +kernel
theorem dX3_append_19 : decode cX3_append 19 = .ok (.aload_n 0, 1) := by decide +kernel
theorem dX3_append_20 : decode cX3_append 20 = .ok (.dup, 1) := by decide +kernel
theorem dX3_append_21 : decode cX3_append 21 = .ok (.getfield 19, 3) := by decide +kernel
theorem dX3_append_24 : decode cX3_append 24 = .ok (.iconst 1, 1) := by decide +kernel
theorem dX3_append_25 : decode cX3_append 25 = .ok (.iadd, 1) := by decide +kernel
theorem dX3_append_26 : decode cX3_append 26 = .ok (.putfield 19, 3) := by decide +kernel
theorem dX3_append_29 : decode cX3_append 29 = .ok (.return_, 1) := by decide +kernel
set_option maxRecDepth 20000 in
theorem ggX3_countOrders_X3_readOrder : GoodIn wsX3_countOrders wsX3_readOrder := goodIn_r _ [7, 8, 9, 10, 11, 6, 12, 1, 2, 13, 14, 15, 16, 17, 18, 19, 20, 21, 22, 23, 24, 25, 26, 27, 28, 29, 30, 31, 32, 33, 34, 35, 36, 37, 38, 39, 40, 41, 42, 43, 44, 45, 46, 47, 48, 49, 50, 51, 52, 53] (by decide +kernel) (by decide +kernel)
set_option maxRecDepth 20000 in
theorem gX3_countOrders_X3_readOrder : GoodIn wsX3_countOrders (wsV RX3 26 RX3 yX3_readOrder wsX3_readOrder) := goodIn_app (goodIn_of _ (by decide +kernel)) ggX3_countOrders_X3_readOrder
set_option maxRecDepth 20000 in
theorem ggX3_countOrders_X3_readSign : GoodIn wsX3_countOrders wsX3_readSign := goodIn_r _ [12, 1, 2, 13, 46, 47, 48, 49, 50, 51, 52, 53] (by decide +kernel) (by decide +kernel)
set_option maxRecDepth 20000 in
theorem gX3_countOrders_X3_readSign : GoodIn wsX3_countOrders (wsV RX3 30 RX3 yX3_readSign wsX3_readSign) := goodIn_app (goodIn_of _ (by decide +kernel)) ggX3_countOrders_X3_readSign
theorem dX3_countOrders_0 : decode cX3_countOrders 0 = .ok (.aload_n 0, 1) := by decide +kernel
theorem dX3_countOrders_1 : decode cX3_countOrders 1 = .ok (.iconst 0, 1) := by decide +kernel
theorem dX3_countOrders_2 : decode cX3_countOrders 2 = .ok (.putfield 23, 3) := by decide +kernel
theorem dX3_countOrders_5 : decode cX3_countOrders 5 = .ok (.iconst 1, 1) := by decide +kernel
theorem dX3_countOrders_6 : decode cX3_countOrders 6 = .ok (.istore_n 1, 1) := by decide +kernel
theorem dX3_countOrders_7 : decode cX3_countOrders 7 = .ok (.iload_n 1, 1) := by decide +kernel
theorem dX3_countOrders_8 : decode cX3_countOrders 8 = .ok (.bipush 60, 2) := by decide +kernel
theorem dX3_countOrders_10 : decode cX3_countOrders 10 = .ok (.if_icmp .gt 42, 3) := by decide +kernel
theorem dX3_countOrders_13 : decode cX3_countOrders 13 = .ok (.aload_n 0, 1) := by decide +kernel
theorem dX3_countOrders_14 : decode cX3_countOrders 14 = .ok (.invokevirtual 26, 3) := by decide +kernel
theorem dX3_countOrders_17 : decode cX3_countOrders 17 = .ok (.ifCond .ne 5, 3) := by decide +kernel
theorem dX3_countOrders_20 : decode cX3_countOrders 20 = .ok (.iconst 0, 1) := by decide +kernel
theorem dX3_countOrders_21 : decode cX3_countOrders 21 = .ok (.ireturn, 1) := by decide +kernel
theorem dX3_countOrders_22 : decode cX3_countOrders 22 = .ok (.aload_n 0, 1) := by decide +kernel
theorem dX3_countOrders_23 : decode cX3_countOrders 23 = .ok (.getfield 23, 3) := by decide +kernel
theorem dX3_countOrders_26 : decode cX3_countOrders 26 = .ok (.aload_n 0, 1) := by decide +kernel
theorem dX3_countOrders_27 : decode cX3_countOrders 27 = .ok (.getfield 19, 3) := by decide +kernel
theorem dX3_countOrders_30 : decode cX3_countOrders 30 = .ok (.if_icmp .ne 5, 3) := by decide +kernel
theorem dX3_countOrders_33 : decode cX3_countOrders 33 = .ok (.iload_n 1, 1) := by decide +kernel
theorem dX3_countOrders_34 : decode cX3_countOrders 34 = .ok (.ireturn, 1) := by decide +kernel
theorem dX3_countOrders_35 : decode cX3_countOrders 35 = .ok (.aload_n 0, 1) := by decide +kernel
theorem dX3_countOrders_36 : decode cX3_countOrders 36 = .ok (.bipush 59, 2) := by decide +kernel
theorem dX3_countOrders_38 : decode cX3_countOrders 38 = .ok (.invokevirtual 30, 3) := by decide +kernel
theorem dX3_countOrders_41 : decode cX3_countOrders 41 = .ok (.ifCond .ne 5, 3) := by decide +kernel
theorem dX3_countOrders_44 : decode cX3_countOrders 44 = .ok (.iconst 0, 1) := by decide +kernel
theorem dX3_countOrders_45 : decode cX3_countOrders 45 = .ok (.ireturn, 1) := by decide +kernel
theorem dX3_countOrders_46 : decode cX3_countOrders 46 = .ok (.iinc 1 1, 3) := by decide +kernel
theorem dX3_countOrders_49 : decode cX3_countOrders 49 = .ok (.goto (-42), 3) := by decide +kernel
theorem dX3_countOrders_52 : decode cX3_countOrders 52 = .ok (.iconst 0, 1) := by decide +kernel
theorem dX3_countOrders_53 : decode cX3_countOrders 53 = .ok (.ireturn, 1) := by decide +kernel
set_option maxRecDepth 20000 in
theorem ggX3_readOrder_X3_readSign : GoodIn wsX3_readOrder wsX3_readSign := goodIn_r _ [6, 7, 8, 9, 42, 43, 44, 45, 46, 47, 48, 49] (by decide +kernel) (by decide +kernel)
set_option maxRecDepth 20000 in
theorem gX3_readOrder_X3_readSign : GoodIn wsX3_readOrder (wsV RX3 30 RX3 yX3_readSign wsX3_readSign) := goodIn_app (goodIn_of _ (by decide +kernel)) ggX3_readOrder_X3_readSign
set_option maxRecDepth 20000 in
theorem ggX3_readOrder_X3_readPlot : GoodIn wsX3_readOrder wsX3_readPlot := goodIn_r _ [13, 14, 15, 16, 17, 18, 19, 20, 21, 5, 22, 7, 8, 9, 42, 43, 44, 45, 46, 47, 48, 49] (by decide +kernel) (by decide +kernel)
set_option maxRecDepth 20000 in
theorem gX3_readOrder_X3_readPlot : GoodIn wsX3_readOrder (wsV RX3 37 RX3 yX3_readPlot wsX3_readPlot) := goodIn_app (goodIn_of _ (by decide +kernel)) ggX3_readOrder_X3_readPlot
set_option maxRecDepth 20000 in
theorem ggX3_readOrder_X3_readDigits : GoodIn wsX3_readOrder wsX3_readDigits := goodIn_r _ [26, 27, 19, 20, 21, 5, 22, 7, 8, 9, 42, 43, 44, 45, 46, 47, 48, 49] (by decide +kernel) (by decide +kernel)
set_option maxRecDepth 20000 in
theorem gX3_readOrder_X3_readDigits : GoodIn wsX3_readOrder (wsV RX3 40 RX3 yX3_readDigits wsX3_readDigits) := goodIn_app (goodIn_of _ (by decide +kernel)) ggX3_readOrder_X3_readDigits
set_option maxRecDepth 20000 in
theorem ggX3_readOrder_X3_readCousin : GoodIn wsX3_readOrder wsX3_readCousin := goodIn_r _ [31, 14, 19, 20, 21, 5, 22, 7, 8, 9, 42, 43, 44, 45, 46, 47, 48, 49] (by decide +kernel) (by decide +kernel)
set_option maxRecDepth 20000 in
theorem gX3_readOrder_X3_readCousin : GoodIn wsX3_readOrder (wsV RX3 44 RX3 yX3_readCousin wsX3_readCousin) := goodIn_app (goodIn_of _ (by decide +kernel)) ggX3_readOrder_X3_readCousin
set_option maxRecDepth 20000 in
theorem ggX3_readOrder_X3_readOther : GoodIn wsX3_readOrder wsX3_readOther := goodIn_r _ [35, 14, 36, 19, 20, 21, 5, 22, 7, 8, 9, 42, 43, 44, 45, 46, 47, 48, 49] (by decide +kernel) (by decide +kernel)
set_option maxRecDepth 20000 in
theorem gX3_readOrder_X3_readOther : GoodIn wsX3_readOrder (wsV RX3 47 RX3 yX3_readOther wsX3_readOther) := goodIn_app (goodIn_of _ (by decide +kernel)) ggX3_readOrder_X3_readOther
set_option maxRecDepth 20000 in
theorem ggX3_readOrder_X3_readParty : GoodIn wsX3_readOrder wsX3_readParty := goodIn_r _ [40, 41, 19, 20, 21, 5, 22, 7, 8, 9, 42, 43, 44, 45, 46, 47, 48, 49] (by decide +kernel) (by decide +kernel)
set_option maxRecDepth 20000 in
theorem gX3_readOrder_X3_readParty : GoodIn wsX3_readOrder (wsV RX3 50 RX3 yX3_readParty wsX3_readParty) := goodIn_app (goodIn_of _ (by decide +kernel)) ggX3_readOrder_X3_readParty
theorem dX3_readOrder_0 : decode cX3_readOrder 0 = .ok (.aload_n 0, 1) := by decide +kernel
theorem dX3_readOrder_1 : decode cX3_readOrder 1 = .ok (.bipush 112, 2) := by decide +kernel
theorem dX3_readOrder_3 : decode cX3_readOrder 3 = .ok (.invokevirtual 30, 3) := by decide +kernel
theorem dX3_readOrder_6 : decode cX3_readOrder 6 = .ok (.ifCond .eq 38, 3) := by decide +kernel
theorem dX3_readOrder_9 : decode cX3_readOrder 9 = .ok (.aload_n 0, 1) := by decide +kernel
theorem dX3_readOrder_10 : decode cX3_readOrder 10 = .ok (.iconst 0, 1) := by decide +kernel
theorem dX3_readOrder_11 : decode cX3_readOrder 11 = .ok (.putfield 34, 3) := by decide +kernel
theorem dX3_readOrder_14 : decode cX3_readOrder 14 = .ok (.aload_n 0, 1) := by decide +kernel
theorem dX3_readOrder_15 : decode cX3_readOrder 15 = .ok (.invokevirtual 37, 3) := by decide +kernel
theorem dX3_readOrder_18 : decode cX3_readOrder 18 = .ok (.ifCond .eq 24, 3) := by decide +kernel
theorem dX3_readOrder_21 : decode cX3_readOrder 21 = .ok (.aload_n 0, 1) := by decide +kernel
theorem dX3_readOrder_22 : decode cX3_readOrder 22 = .ok (.bipush 61, 2) := by decide +kernel
theorem dX3_readOrder_24 : decode cX3_readOrder 24 = .ok (.invokevirtual 30, 3) := by decide +kernel
theorem dX3_readOrder_27 : decode cX3_readOrder 27 = .ok (.ifCond .eq 15, 3) := by decide +kernel
theorem dX3_readOrder_30 : decode cX3_readOrder 30 = .ok (.aload_n 0, 1) := by decide +kernel
theorem dX3_readOrder_31 : decode cX3_readOrder 31 = .ok (.iconst 4, 1) := by decide +kernel
theorem dX3_readOrder_32 : decode cX3_readOrder 32 = .ok (.invokevirtual 40, 3) := by decide +kernel
theorem dX3_readOrder_35 : decode cX3_readOrder 35 = .ok (.ifCond .eq 7, 3) := by decide +kernel
theorem dX3_readOrder_38 : decode cX3_readOrder 38 = .ok (.iconst 1, 1) := by decide +kernel
theorem dX3_readOrder_39 : decode cX3_readOrder 39 = .ok (.goto 4, 3) := by decide +kernel
theorem dX3_readOrder_42 : decode cX3_readOrder 42 = .ok (.iconst 0, 1) := by decide +kernel
theorem dX3_readOrder_43 : decode cX3_readOrder 43 = .ok (.ireturn, 1) := by decide +kernel
theorem dX3_readOrder_44 : decode cX3_readOrder 44 = .ok (.aload_n 0, 1) := by decide +kernel
theorem dX3_readOrder_45 : decode cX3_readOrder 45 = .ok (.bipush 119, 2) := by decide +kernel
theorem dX3_readOrder_47 : decode cX3_readOrder 47 = .ok (.invokevirtual 30, 3) := by decide +kernel
theorem dX3_readOrder_50 : decode cX3_readOrder 50 = .ok (.ifCond .eq 38, 3) := by decide +kernel
theorem dX3_readOrder_53 : decode cX3_readOrder 53 = .ok (.aload_n 0, 1) := by decide +kernel
theorem dX3_readOrder_54 : decode cX3_readOrder 54 = .ok (.iconst 1, 1) := by decide +kernel
theorem dX3_readOrder_55 : decode cX3_readOrder 55 = .ok (.putfield 34, 3) := by decide +kernel
theorem dX3_readOrder_58 : decode cX3_readOrder 58 = .ok (.aload_n 0, 1) := by decide +kernel
theorem dX3_readOrder_59 : decode cX3_readOrder 59 = .ok (.invokevirtual 44, 3) := by decide +kernel
theorem dX3_readOrder_62 : decode cX3_readOrder 62 = .ok (.ifCond .eq 24, 3) := by decide +kernel
theorem dX3_readOrder_65 : decode cX3_readOrder 65 = .ok (.aload_n 0, 1) := by decide +kernel
theorem dX3_readOrder_66 : decode cX3_readOrder 66 = .ok (.bipush 61, 2) := by decide +kernel
theorem dX3_readOrder_68 : decode cX3_readOrder 68 = .ok (.invokevirtual 30, 3) := by decide +kernel
theorem dX3_readOrder_71 : decode cX3_readOrder 71 = .ok (.ifCond .eq 15, 3) := by decide +kernel
theorem dX3_readOrder_74 : decode cX3_readOrder 74 = .ok (.aload_n 0, 1) := by decide +kernel
theorem dX3_readOrder_75 : decode cX3_readOrder 75 = .ok (.iconst 4, 1) := by decide +kernel
theorem dX3_readOrder_76 : decode cX3_readOrder 76 = .ok (.invokevirtual 40, 3) := by decide +kernel
theorem dX3_readOrder_79 : decode cX3_readOrder 79 = .ok (.ifCond .eq 7, 3) := by decide +kernel
theorem dX3_readOrder_82 : decode cX3_readOrder 82 = .ok (.iconst 1, 1) := by decide +kernel
theorem dX3_readOrder_83 : decode cX3_readOrder 83 = .ok (.goto 4, 3) := by decide +kernel
theorem dX3_readOrder_86 : decode cX3_readOrder 86 = .ok (.iconst 0, 1) := by decide +kernel
theorem dX3_readOrder_87 : decode cX3_readOrder 87 = .ok (.ireturn, 1) := by decide +kernel
theorem dX3_readOrder_88 : decode cX3_readOrder 88 = .ok (.aload_n 0, 1) := by decide +kernel
theorem dX3_readOrder_89 : decode cX3_readOrder 89 = .ok (.bipush 103, 2) := by decide +kernel
theorem dX3_readOrder_91 : decode cX3_readOrder 91 = .ok (.invokevirtual 30, 3) := by decide +kernel
theorem dX3_readOrder_94 : decode cX3_readOrder 94 = .ok (.ifCond .eq 45, 3) := by decide +kernel
theorem dX3_readOrder_97 : decode cX3_readOrder 97 = .ok (.aload_n 0, 1) := by decide +kernel
theorem dX3_readOrder_98 : decode cX3_readOrder 98 = .ok (.iconst 2, 1) := by decide +kernel
theorem dX3_readOrder_99 : decode cX3_readOrder 99 = .ok (.putfield 34, 3) := by decide +kernel
theorem dX3_readOrder_102 : decode cX3_readOrder 102 = .ok (.aload_n 0, 1) := by decide +kernel
theorem dX3_readOrder_103 : decode cX3_readOrder 103 = .ok (.invokevirtual 44, 3) := by decide +kernel
theorem dX3_readOrder_106 : decode cX3_readOrder 106 = .ok (.ifCond .eq 31, 3) := by decide +kernel
theorem dX3_readOrder_109 : decode cX3_readOrder 109 = .ok (.aload_n 0, 1) := by decide +kernel
theorem dX3_readOrder_110 : decode cX3_readOrder 110 = .ok (.invokevirtual 47, 3) := by decide +kernel
theorem dX3_readOrder_113 : decode cX3_readOrder 113 = .ok (.ifCond .eq 24, 3) := by decide +kernel
theorem dX3_readOrder_116 : decode cX3_readOrder 116 = .ok (.aload_n 0, 1) := by decide +kernel
theorem dX3_readOrder_117 : decode cX3_readOrder 117 = .ok (.bipush 61, 2) := by decide +kernel
theorem dX3_readOrder_119 : decode cX3_readOrder 119 = .ok (.invokevirtual 30, 3) := by decide +kernel
theorem dX3_readOrder_122 : decode cX3_readOrder 122 = .ok (.ifCond .eq 15, 3) := by decide +kernel
theorem dX3_readOrder_125 : decode cX3_readOrder 125 = .ok (.aload_n 0, 1) := by decide +kernel
theorem dX3_readOrder_126 : decode cX3_readOrder 126 = .ok (.iconst 1, 1) := by decide +kernel
theorem dX3_readOrder_127 : decode cX3_readOrder 127 = .ok (.invokevirtual 40, 3) := by decide +kernel
theorem dX3_readOrder_130 : decode cX3_readOrder 130 = .ok (.ifCond .eq 7, 3) := by decide +kernel
theorem dX3_readOrder_133 : decode cX3_readOrder 133 = .ok (.iconst 1, 1) := by decide +kernel
theorem dX3_readOrder_134 : decode cX3_readOrder 134 = .ok (.goto 4, 3) := by decide +kernel
theorem dX3_readOrder_137 : decode cX3_readOrder 137 = .ok (.iconst 0, 1) := by decide +kernel
theorem dX3_readOrder_138 : decode cX3_readOrder 138 = .ok (.ireturn, 1) := by decide +kernel
theorem dX3_readOrder_139 : decode cX3_readOrder 139 = .ok (.aload_n 0, 1) := by decide +kernel
theorem dX3_readOrder_140 : decode cX3_readOrder 140 = .ok (.bipush 100, 2) := by decide +kernel
theorem dX3_readOrder_142 : decode cX3_readOrder 142 = .ok (.invokevirtual 30, 3) := by decide +kernel
theorem dX3_readOrder_145 : decode cX3_readOrder 145 = .ok (.ifCond .eq 13, 3) := by decide +kernel
theorem dX3_readOrder_148 : decode cX3_readOrder 148 = .ok (.aload_n 0, 1) := by decide +kernel
theorem dX3_readOrder_149 : decode cX3_readOrder 149 = .ok (.iconst 3, 1) := by decide +kernel
theorem dX3_readOrder_150 : decode cX3_readOrder 150 = .ok (.putfield 34, 3) := by decide +kernel
theorem dX3_readOrder_153 : decode cX3_readOrder 153 = .ok (.aload_n 0, 1) := by decide +kernel
theorem dX3_readOrder_154 : decode cX3_readOrder 154 = .ok (.invokevirtual 50, 3) := by decide +kernel
theorem dX3_readOrder_157 : decode cX3_readOrder 157 = .ok (.ireturn, 1) := by decide +kernel
theorem dX3_readOrder_158 : decode cX3_readOrder 158 = .ok (.iconst 0, 1) := by decide +kernel
theorem dX3_readOrder_159 : decode cX3_readOrder 159 = .ok (.ireturn, 1) := by decide +kernel
theorem dX3_readSign_0 : decode cX3_readSign 0 = .ok (.aload_n 0, 1) := by decide +kernel
theorem dX3_readSign_1 : decode cX3_readSign 1 = .ok (.getfield 23, 3) := by decide +kernel
theorem dX3_readSign_4 : decode cX3_readSign 4 = .ok (.aload_n 0, 1) := by decide +kernel
theorem dX3_readSign_5 : decode cX3_readSign 5 = .ok (.getfield 19, 3) := by decide +kernel
theorem dX3_readSign_8 : decode cX3_readSign 8 = .ok (.if_icmp .ge 28, 3) := by decide +kernel
theorem dX3_readSign_11 : decode cX3_readSign 11 = .ok (.aload_n 0, 1) := by decide +kernel
theorem dX3_readSign_12 : decode cX3_readSign 12 = .ok (.getfield 15, 3) := by decide +kernel
theorem dX3_readSign_15 : decode cX3_readSign 15 = .ok (.aload_n 0, 1) := by decide +kernel
theorem dX3_readSign_16 : decode cX3_readSign 16 = .ok (.getfield 23, 3) := by decide +kernel
theorem dX3_readSign_19 : decode cX3_readSign 19 = .ok (.caload, 1) := by decide +kernel
theorem dX3_readSign_20 : decode cX3_readSign 20 = .ok (.iload_n 1, 1) := by decide +kernel
theorem dX3_readSign_21 : decode cX3_readSign 21 = .ok (.if_icmp .ne 15, 3) := by decide +kernel
theorem dX3_readSign_24 : decode cX3_readSign 24 = .ok (.aload_n 0, 1) := by decide +kernel
theorem dX3_readSign_25 : decode cX3_readSign 25 = .ok (.dup, 1) := by decide +kernel
theorem dX3_readSign_26 : decode cX3_readSign 26 = .ok (.getfield 23, 3) := by decide +kernel
theorem dX3_readSign_29 : decode cX3_readSign 29 = .ok (.iconst 1, 1) := by decide +kernel
theorem dX3_readSign_30 : decode cX3_readSign 30 = .ok (.iadd, 1) := by decide +kernel
theorem dX3_readSign_31 : decode cX3_readSign 31 = .ok (.putfield 23, 3) := by decide +kernel
theorem dX3_readSign_34 : decode cX3_readSign 34 = .ok (.iconst 1, 1) := by decide +kernel
theorem dX3_readSign_35 : decode cX3_readSign 35 = .ok (.ireturn, 1) := by decide +kernel
theorem dX3_readSign_36 : decode cX3_readSign 36 = .ok (.iconst 0, 1) := by decide +kernel
theorem dX3_readSign_37 : decode cX3_readSign 37 = .ok (.ireturn, 1) := by decide +kernel
theorem dX3_readDigit_0 : decode cX3_readDigit 0 = .ok (.aload_n 0, 1) := by decide +kernel
theorem dX3_readDigit_1 : decode cX3_readDigit 1 = .ok (.getfield 23, 3) := by decide +kernel
theorem dX3_readDigit_4 : decode cX3_readDigit 4 = .ok (.aload_n 0, 1) := by decide +kernel
theorem dX3_readDigit_5 : decode cX3_readDigit 5 = .ok (.getfield 19, 3) := by decide +kernel
theorem dX3_readDigit_8 : decode cX3_readDigit 8 = .ok (.if_icmp .lt 5, 3) := by decide +kernel
theorem dX3_readDigit_11 : decode cX3_readDigit 11 = .ok (.iconst (-1), 1) := by decide +kernel
theorem dX3_readDigit_12 : decode cX3_readDigit 12 = .ok (.ireturn, 1) := by decide +kernel
theorem dX3_readDigit_13 : decode cX3_readDigit 13 = .ok (.aload_n 0, 1) := by decide +kernel
theorem dX3_readDigit_14 : decode cX3_readDigit 14 = .ok (.getfield 15, 3) := by decide +kernel
theorem dX3_readDigit_17 : decode cX3_readDigit 17 = .ok (.aload_n 0, 1) := by decide +kernel
theorem dX3_readDigit_18 : decode cX3_readDigit 18 = .ok (.getfield 23, 3) := by decide +kernel
theorem dX3_readDigit_21 : decode cX3_readDigit 21 = .ok (.caload, 1) := by decide +kernel
theorem dX3_readDigit_22 : decode cX3_readDigit 22 = .ok (.bipush 48, 2) := by decide +kernel
theorem dX3_readDigit_24 : decode cX3_readDigit 24 = .ok (.isub, 1) := by decide +kernel
theorem dX3_readDigit_25 : decode cX3_readDigit 25 = .ok (.istore_n 3, 1) := by decide +kernel
theorem dX3_readDigit_26 : decode cX3_readDigit 26 = .ok (.iload_n 3, 1) := by decide +kernel
theorem dX3_readDigit_27 : decode cX3_readDigit 27 = .ok (.iload_n 1, 1) := by decide +kernel
theorem dX3_readDigit_28 : decode cX3_readDigit 28 = .ok (.if_icmp .lt 8, 3) := by decide +kernel
theorem dX3_readDigit_31 : decode cX3_readDigit 31 = .ok (.iload_n 3, 1) := by decide +kernel
theorem dX3_readDigit_32 : decode cX3_readDigit 32 = .ok (.iload_n 2, 1) := by decide +kernel
theorem dX3_readDigit_33 : decode cX3_readDigit 33 = .ok (.if_icmp .le 5, 3) := by decide +kernel
theorem dX3_readDigit_36 : decode cX3_readDigit 36 = .ok (.iconst (-1), 1) := by decide +kernel
theorem dX3_readDigit_37 : decode cX3_readDigit 37 = .ok (.ireturn, 1) := by decide +kernel
theorem dX3_readDigit_38 : decode cX3_readDigit 38 = .ok (.aload_n 0, 1) := by decide +kernel
theorem dX3_readDigit_39 : decode cX3_readDigit 39 = .ok (.dup, 1) := by decide +kernel
theorem dX3_readDigit_40 : decode cX3_readDigit 40 = .ok (.getfield 23, 3) := by decide +kernel
theorem dX3_readDigit_43 : decode cX3_readDigit 43 = .ok (.iconst 1, 1) := by decide +kernel
theorem dX3_readDigit_44 : decode cX3_readDigit 44 = .ok (.iadd, 1) := by decide +kernel
theorem dX3_readDigit_45 : decode cX3_readDigit 45 = .ok (.putfield 23, 3) := by decide +kernel
theorem dX3_readDigit_48 : decode cX3_readDigit 48 = .ok (.iload_n 3, 1) := by decide +kernel
theorem dX3_readDigit_49 : decode cX3_readDigit 49 = .ok (.ireturn, 1) := by decide +kernel
set_option maxRecDepth 20000 in
theorem ggX3_readPlot_X3_readDigit : GoodIn wsX3_readPlot wsX3_readDigit := goodIn_r _ [10, 11, 12, 13, 14, 15, 16, 17, 18, 19, 20, 21] (by decide +kernel) (by decide +kernel)
set_option maxRecDepth 20000 in
theorem gX3_readPlot_X3_readDigit : GoodIn wsX3_readPlot (wsV RX3 53 RX3 yX3_readDigit wsX3_readDigit) := goodIn_app (goodIn_of _ (by decide +kernel)) ggX3_readPlot_X3_readDigit
theorem dX3_readPlot_0 : decode cX3_readPlot 0 = .ok (.aload_n 0, 1) := by decide +kernel
theorem dX3_readPlot_1 : decode cX3_readPlot 1 = .ok (.aload_n 0, 1) := by decide +kernel
theorem dX3_readPlot_2 : decode cX3_readPlot 2 = .ok (.iconst 0, 1) := by decide +kernel
theorem dX3_readPlot_3 : decode cX3_readPlot 3 = .ok (.bipush 9, 2) := by decide +kernel
theorem dX3_readPlot_5 : decode cX3_readPlot 5 = .ok (.invokevirtual 53, 3) := by decide +kernel
theorem dX3_readPlot_8 : decode cX3_readPlot 8 = .ok (.putfield 57, 3) := by decide +kernel
theorem dX3_readPlot_11 : decode cX3_readPlot 11 = .ok (.aload_n 0, 1) := by decide +kernel
theorem dX3_readPlot_12 : decode cX3_readPlot 12 = .ok (.getfield 57, 3) := by decide +kernel
theorem dX3_readPlot_15 : decode cX3_readPlot 15 = .ok (.ifCond .le 41, 3) := by decide +kernel
theorem dX3_readPlot_18 : decode cX3_readPlot 18 = .ok (.aload_n 0, 1) := by decide +kernel
theorem dX3_readPlot_19 : decode cX3_readPlot 19 = .ok (.iconst 0, 1) := by decide +kernel
theorem dX3_readPlot_20 : decode cX3_readPlot 20 = .ok (.bipush 9, 2) := by decide +kernel
theorem dX3_readPlot_22 : decode cX3_readPlot 22 = .ok (.bipush 23, 2) := by decide +kernel
theorem dX3_readPlot_24 : decode cX3_readPlot 24 = .ok (.bipush 10, 2) := by decide +kernel
theorem dX3_readPlot_26 : decode cX3_readPlot 26 = .ok (.aload_n 0, 1) := by decide +kernel
theorem dX3_readPlot_27 : decode cX3_readPlot 27 = .ok (.getfield 57, 3) := by decide +kernel
theorem dX3_readPlot_30 : decode cX3_readPlot 30 = .ok (.imul, 1) := by decide +kernel
theorem dX3_readPlot_31 : decode cX3_readPlot 31 = .ok (.isub, 1) := by decide +kernel
theorem dX3_readPlot_32 : decode cX3_readPlot 32 = .ok (.invokestatic 60, 3) := by decide +kernel
theorem dX3_readPlot_35 : decode cX3_readPlot 35 = .ok (.invokevirtual 53, 3) := by decide +kernel
theorem dX3_readPlot_38 : decode cX3_readPlot 38 = .ok (.istore_n 1, 1) := by decide +kernel
theorem dX3_readPlot_39 : decode cX3_readPlot 39 = .ok (.iload_n 1, 1) := by decide +kernel
theorem dX3_readPlot_40 : decode cX3_readPlot 40 = .ok (.ifCond .lt 16, 3) := by decide +kernel
theorem dX3_readPlot_43 : decode cX3_readPlot 43 = .ok (.aload_n 0, 1) := by decide +kernel
theorem dX3_readPlot_44 : decode cX3_readPlot 44 = .ok (.bipush 10, 2) := by decide +kernel
theorem dX3_readPlot_46 : decode cX3_readPlot 46 = .ok (.aload_n 0, 1) := by decide +kernel
theorem dX3_readPlot_47 : decode cX3_readPlot 47 = .ok (.getfield 57, 3) := by decide +kernel
theorem dX3_readPlot_50 : decode cX3_readPlot 50 = .ok (.imul, 1) := by decide +kernel
theorem dX3_readPlot_51 : decode cX3_readPlot 51 = .ok (.iload_n 1, 1) := by decide +kernel
theorem dX3_readPlot_52 : decode cX3_readPlot 52 = .ok (.iadd, 1) := by decide +kernel
theorem dX3_readPlot_53 : decode cX3_readPlot 53 = .ok (.putfield 57, 3) := by decide +kernel
theorem dX3_readPlot_56 : decode cX3_readPlot 56 = .ok (.aload_n 0, 1) := by decide +kernel
theorem dX3_readPlot_57 : decode cX3_readPlot 57 = .ok (.getfield 57, 3) := by decide +kernel
theorem dX3_readPlot_60 : decode cX3_readPlot 60 = .ok (.ifCond .lt 7, 3) := by decide +kernel
theorem dX3_readPlot_63 : decode cX3_readPlot 63 = .ok (.iconst 1, 1) := by decide +kernel
theorem dX3_readPlot_64 : decode cX3_readPlot 64 = .ok (.goto 4, 3) := by decide +kernel
theorem dX3_readPlot_67 : decode cX3_readPlot 67 = .ok (.iconst 0, 1) := by decide +kernel
theorem dX3_readPlot_68 : decode cX3_readPlot 68 = .ok (.ireturn, 1) := by decide +kernel
set_option maxRecDepth 20000 in
theorem ggX3_readCousin_X3_readDigit : GoodIn wsX3_readCousin wsX3_readDigit := goodIn_r _ [6, 7, 8, 9, 10, 11, 12, 13, 14, 15, 16, 17] (by decide +kernel) (by decide +kernel)
set_option maxRecDepth 20000 in
theorem gX3_readCousin_X3_readDigit : GoodIn wsX3_readCousin (wsV RX3 53 RX3 yX3_readDigit wsX3_readDigit) := goodIn_app (goodIn_of _ (by decide +kernel)) ggX3_readCousin_X3_readDigit
theorem dX3_readCousin_0 : decode cX3_readCousin 0 = .ok (.aload_n 0, 1) := by decide +kernel
theorem dX3_readCousin_1 : decode cX3_readCousin 1 = .ok (.aload_n 0, 1) := by decide +kernel
theorem dX3_readCousin_2 : decode cX3_readCousin 2 = .ok (.iconst 0, 1) := by decide +kernel
theorem dX3_readCousin_3 : decode cX3_readCousin 3 = .ok (.bipush 6, 2) := by decide +kernel
theorem dX3_readCousin_5 : decode cX3_readCousin 5 = .ok (.invokevirtual 53, 3) := by decide +kernel
theorem dX3_readCousin_8 : decode cX3_readCousin 8 = .ok (.putfield 57, 3) := by decide +kernel
theorem dX3_readCousin_11 : decode cX3_readCousin 11 = .ok (.aload_n 0, 1) := by decide +kernel
theorem dX3_readCousin_12 : decode cX3_readCousin 12 = .ok (.getfield 57, 3) := by decide +kernel
theorem dX3_readCousin_15 : decode cX3_readCousin 15 = .ok (.ifCond .lt 7, 3) := by decide +kernel
theorem dX3_readCousin_18 : decode cX3_readCousin 18 = .ok (.iconst 1, 1) := by decide +kernel
theorem dX3_readCousin_19 : decode cX3_readCousin 19 = .ok (.goto 4, 3) := by decide +kernel
theorem dX3_readCousin_22 : decode cX3_readCousin 22 = .ok (.iconst 0, 1) := by decide +kernel
theorem dX3_readCousin_23 : decode cX3_readCousin 23 = .ok (.ireturn, 1) := by decide +kernel
set_option maxRecDepth 20000 in
theorem ggX3_readOther_X3_readDigit : GoodIn wsX3_readOther wsX3_readDigit := goodIn_r _ [7, 8, 9, 10, 11, 12, 13, 14, 15, 16, 17, 18] (by decide +kernel) (by decide +kernel)
set_option maxRecDepth 20000 in
theorem gX3_readOther_X3_readDigit : GoodIn wsX3_readOther (wsV RX3 53 RX3 yX3_readDigit wsX3_readDigit) := goodIn_app (goodIn_of _ (by decide +kernel)) ggX3_readOther_X3_readDigit
theorem dX3_readOther_0 : decode cX3_readOther 0 = .ok (.aload_n 0, 1) := by decide +kernel
theorem dX3_readOther_1 : decode cX3_readOther 1 = .ok (.aload_n 0, 1) := by decide +kernel
theorem dX3_readOther_2 : decode cX3_readOther 2 = .ok (.iconst 0, 1) := by decide +kernel
theorem dX3_readOther_3 : decode cX3_readOther 3 = .ok (.aload_n 0, 1) := by decide +kernel
theorem dX3_readOther_4 : decode cX3_readOther 4 = .ok (.getfield 57, 3) := by decide +kernel
theorem dX3_readOther_7 : decode cX3_readOther 7 = .ok (.iconst 1, 1) := by decide +kernel
theorem dX3_readOther_8 : decode cX3_readOther 8 = .ok (.isub, 1) := by decide +kernel
theorem dX3_readOther_9 : decode cX3_readOther 9 = .ok (.invokevirtual 53, 3) := by decide +kernel
theorem dX3_readOther_12 : decode cX3_readOther 12 = .ok (.putfield 65, 3) := by decide +kernel
theorem dX3_readOther_15 : decode cX3_readOther 15 = .ok (.aload_n 0, 1) := by decide +kernel
theorem dX3_readOther_16 : decode cX3_readOther 16 = .ok (.getfield 65, 3) := by decide +kernel
theorem dX3_readOther_19 : decode cX3_readOther 19 = .ok (.ifCond .ge 19, 3) := by decide +kernel
theorem dX3_readOther_22 : decode cX3_readOther 22 = .ok (.aload_n 0, 1) := by decide +kernel
theorem dX3_readOther_23 : decode cX3_readOther 23 = .ok (.aload_n 0, 1) := by decide +kernel
theorem dX3_readOther_24 : decode cX3_readOther 24 = .ok (.aload_n 0, 1) := by decide +kernel
theorem dX3_readOther_25 : decode cX3_readOther 25 = .ok (.getfield 57, 3) := by decide +kernel
theorem dX3_readOther_28 : decode cX3_readOther 28 = .ok (.iconst 1, 1) := by decide +kernel
theorem dX3_readOther_29 : decode cX3_readOther 29 = .ok (.iadd, 1) := by decide +kernel
theorem dX3_readOther_30 : decode cX3_readOther 30 = .ok (.bipush 6, 2) := by decide +kernel
theorem dX3_readOther_32 : decode cX3_readOther 32 = .ok (.invokevirtual 53, 3) := by decide +kernel
theorem dX3_readOther_35 : decode cX3_readOther 35 = .ok (.putfield 65, 3) := by decide +kernel
theorem dX3_readOther_38 : decode cX3_readOther 38 = .ok (.aload_n 0, 1) := by decide +kernel
theorem dX3_readOther_39 : decode cX3_readOther 39 = .ok (.getfield 65, 3) := by decide +kernel
theorem dX3_readOther_42 : decode cX3_readOther 42 = .ok (.ifCond .lt 7, 3) := by decide +kernel
theorem dX3_readOther_45 : decode cX3_readOther 45 = .ok (.iconst 1, 1) := by decide +kernel
theorem dX3_readOther_46 : decode cX3_readOther 46 = .ok (.goto 4, 3) := by decide +kernel
theorem dX3_readOther_49 : decode cX3_readOther 49 = .ok (.iconst 0, 1) := by decide +kernel
theorem dX3_readOther_50 : decode cX3_readOther 50 = .ok (.ireturn, 1) := by decide +kernel
set_option maxRecDepth 20000 in
theorem ggX3_readDigits_X3_readDigit : GoodIn wsX3_readDigits wsX3_readDigit := goodIn_r _ [6, 7, 8, 9, 10, 11, 12, 13, 14, 15, 16, 17] (by decide +kernel) (by decide +kernel)
set_option maxRecDepth 20000 in
theorem gX3_readDigits_X3_readDigit : GoodIn wsX3_readDigits (wsV RX3 53 RX3 yX3_readDigit wsX3_readDigit) := goodIn_app (goodIn_of _ (by decide +kernel)) ggX3_readDigits_X3_readDigit
theorem dX3_readDigits_0 : decode cX3_readDigits 0 = .ok (.iconst 0, 1) := by decide +kernel
theorem dX3_readDigits_1 : decode cX3_readDigits 1 = .ok (.istore_n 2, 1) := by decide +kernel
theorem dX3_readDigits_2 : decode cX3_readDigits 2 = .ok (.iload_n 2, 1) := by decide +kernel
theorem dX3_readDigits_3 : decode cX3_readDigits 3 = .ok (.iload_n 1, 1) := by decide +kernel
theorem dX3_readDigits_4 : decode cX3_readDigits 4 = .ok (.if_icmp .ge 35, 3) := by decide +kernel
theorem dX3_readDigits_7 : decode cX3_readDigits 7 = .ok (.iload_n 2, 1) := by decide +kernel
theorem dX3_readDigits_8 : decode cX3_readDigits 8 = .ok (.iconst 4, 1) := by decide +kernel
theorem dX3_readDigits_9 : decode cX3_readDigits 9 = .ok (.if_icmp .ge 30, 3) := by decide +kernel
theorem dX3_readDigits_12 : decode cX3_readDigits 12 = .ok (.aload_n 0, 1) := by decide +kernel
theorem dX3_readDigits_13 : decode cX3_readDigits 13 = .ok (.iconst 0, 1) := by decide +kernel
theorem dX3_readDigits_14 : decode cX3_readDigits 14 = .ok (.bipush 9, 2) := by decide +kernel
theorem dX3_readDigits_16 : decode cX3_readDigits 16 = .ok (.invokevirtual 53, 3) := by decide +kernel
theorem dX3_readDigits_19 : decode cX3_readDigits 19 = .ok (.istore_n 3, 1) := by decide +kernel
theorem dX3_readDigits_20 : decode cX3_readDigits 20 = .ok (.iload_n 3, 1) := by decide +kernel
theorem dX3_readDigits_21 : decode cX3_readDigits 21 = .ok (.ifCond .ge 5, 3) := by decide +kernel
theorem dX3_readDigits_24 : decode cX3_readDigits 24 = .ok (.iconst 0, 1) := by decide +kernel
theorem dX3_readDigits_25 : decode cX3_readDigits 25 = .ok (.ireturn, 1) := by decide +kernel
theorem dX3_readDigits_26 : decode cX3_readDigits 26 = .ok (.aload_n 0, 1) := by decide +kernel
theorem dX3_readDigits_27 : decode cX3_readDigits 27 = .ok (.getfield 9, 3) := by decide +kernel
theorem dX3_readDigits_30 : decode cX3_readDigits 30 = .ok (.iload_n 2, 1) := by decide +kernel
theorem dX3_readDigits_31 : decode cX3_readDigits 31 = .ok (.iload_n 3, 1) := by decide +kernel
theorem dX3_readDigits_32 : decode cX3_readDigits 32 = .ok (.iastore, 1) := by decide +kernel
theorem dX3_readDigits_33 : decode cX3_readDigits 33 = .ok (.iinc 2 1, 3) := by decide +kernel
theorem dX3_readDigits_36 : decode cX3_readDigits 36 = .ok (.goto (-34), 3) := by decide +kernel
theorem dX3_readDigits_39 : decode cX3_readDigits 39 = .ok (.iconst 1, 1) := by decide +kernel
theorem dX3_readDigits_40 : decode cX3_readDigits 40 = .ok (.ireturn, 1) := by decide +kernel
set_option maxRecDepth 20000 in
theorem ggX3_readParty_X3_readDigit : GoodIn wsX3_readParty wsX3_readDigit := goodIn_r _ [6, 7, 8, 9, 10, 11, 12, 13, 14, 15, 16, 17] (by decide +kernel) (by decide +kernel)
set_option maxRecDepth 20000 in
theorem gX3_readParty_X3_readDigit : GoodIn wsX3_readParty (wsV RX3 53 RX3 yX3_readDigit wsX3_readDigit) := goodIn_app (goodIn_of _ (by decide +kernel)) ggX3_readParty_X3_readDigit
theorem dX3_readParty_0 : decode cX3_readParty 0 = .ok (.aload_n 0, 1) := by decide +kernel
theorem dX3_readParty_1 : decode cX3_readParty 1 = .ok (.iconst 0, 1) := by decide +kernel
theorem dX3_readParty_2 : decode cX3_readParty 2 = .ok (.putfield 68, 3) := by decide +kernel
theorem dX3_readParty_5 : decode cX3_readParty 5 = .ok (.iconst 0, 1) := by decide +kernel
theorem dX3_readParty_6 : decode cX3_readParty 6 = .ok (.istore_n 1, 1) := by decide +kernel
theorem dX3_readParty_7 : decode cX3_readParty 7 = .ok (.iconst 0, 1) := by decide +kernel
theorem dX3_readParty_8 : decode cX3_readParty 8 = .ok (.istore_n 2, 1) := by decide +kernel
theorem dX3_readParty_9 : decode cX3_readParty 9 = .ok (.iload_n 2, 1) := by decide +kernel
theorem dX3_readParty_10 : decode cX3_readParty 10 = .ok (.bipush 7, 2) := by decide +kernel
theorem dX3_readParty_12 : decode cX3_readParty 12 = .ok (.if_icmp .ge 40, 3) := by decide +kernel
theorem dX3_readParty_15 : decode cX3_readParty 15 = .ok (.aload_n 0, 1) := by decide +kernel
theorem dX3_readParty_16 : decode cX3_readParty 16 = .ok (.iload_n 1, 1) := by decide +kernel
theorem dX3_readParty_17 : decode cX3_readParty 17 = .ok (.bipush 6, 2) := by decide +kernel
theorem dX3_readParty_19 : decode cX3_readParty 19 = .ok (.invokevirtual 53, 3) := by decide +kernel
theorem dX3_readParty_22 : decode cX3_readParty 22 = .ok (.istore_n 3, 1) := by decide +kernel
theorem dX3_readParty_23 : decode cX3_readParty 23 = .ok (.iload_n 3, 1) := by decide +kernel
theorem dX3_readParty_24 : decode cX3_readParty 24 = .ok (.ifCond .ge 6, 3) := by decide +kernel
theorem dX3_readParty_27 : decode cX3_readParty 27 = .ok (.goto 25, 3) := by decide +kernel
theorem dX3_readParty_30 : decode cX3_readParty 30 = .ok (.aload_n 0, 1) := by decide +kernel
theorem dX3_readParty_31 : decode cX3_readParty 31 = .ok (.dup, 1) := by decide +kernel
theorem dX3_readParty_32 : decode cX3_readParty 32 = .ok (.getfield 68, 3) := by decide +kernel
theorem dX3_readParty_35 : decode cX3_readParty 35 = .ok (.iconst 1, 1) := by decide +kernel
theorem dX3_readParty_36 : decode cX3_readParty 36 = .ok (.iload_n 3, 1) := by decide +kernel
theorem dX3_readParty_37 : decode cX3_readParty 37 = .ok (.ishl, 1) := by decide +kernel
theorem dX3_readParty_38 : decode cX3_readParty 38 = .ok (.ior, 1) := by decide +kernel
theorem dX3_readParty_39 : decode cX3_readParty 39 = .ok (.putfield 68, 3) := by decide +kernel
theorem dX3_readParty_42 : decode cX3_readParty 42 = .ok (.iload_n 3, 1) := by decide +kernel
theorem dX3_readParty_43 : decode cX3_readParty 43 = .ok (.iconst 1, 1) := by decide +kernel
theorem dX3_readParty_44 : decode cX3_readParty 44 = .ok (.iadd, 1) := by decide +kernel
theorem dX3_readParty_45 : decode cX3_readParty 45 = .ok (.istore_n 1, 1) := by decide +kernel
theorem dX3_readParty_46 : decode cX3_readParty 46 = .ok (.iinc 2 1, 3) := by decide +kernel
theorem dX3_readParty_49 : decode cX3_readParty 49 = .ok (.goto (-40), 3) := by decide +kernel
theorem dX3_readParty_52 : decode cX3_readParty 52 = .ok (.aload_n 0, 1) := by decide +kernel
theorem dX3_readParty_53 : decode cX3_readParty 53 = .ok (.getfield 68, 3) := by decide +kernel
theorem dX3_readParty_56 : decode cX3_readParty 56 = .ok (.ifCond .eq 7, 3) := by decide +kernel
theorem dX3_readParty_59 : decode cX3_readParty 59 = .ok (.iconst 1, 1) := by decide +kernel
theorem dX3_readParty_60 : decode cX3_readParty 60 = .ok (.goto 4, 3) := by decide +kernel
theorem dX3_readParty_63 : decode cX3_readParty 63 = .ok (.iconst 0, 1) := by decide +kernel
theorem dX3_readParty_64 : decode cX3_readParty 64 = .ok (.ireturn, 1) := by decide +kernel
theorem dX4_init_0 : decode cX4_init 0 = .ok (.aload_n 0, 1) := by decide +kernel
theorem dX4_init_1 : decode cX4_init 1 = .ok (.invokespecial 3, 3) := by decide +kernel
theorem dX4_init_4 : decode cX4_init 4 = .ok (.aload_n 0, 1) := by decide +kernel
theorem dX4_init_5 : decode cX4_init 5 = .ok (.bipush 49, 2) := by decide +kernel
theorem dX4_init_7 : decode cX4_init 7 = .ok (.newarray .int, 2) := by decide +kernel
theorem dX4_init_9 : decode cX4_init 9 = .ok (.putfield 9, 3) := by decide +kernel
theorem dX4_init_12 : decode cX4_init 12 = .ok (.aload_n 0, 1) := by decide +kernel
theorem dX4_init_13 : decode cX4_init 13 = .ok (.aload_n 1, 1) := by decide +kernel
theorem dX4_init_14 : decode cX4_init 14 = .ok (.putfield 15, 3) := by decide +kernel
theorem dX4_init_17 : decode cX4_init 17 = .ok (.return_, 1) := by decide +kernel
set_option maxRecDepth 20000 in
theorem ggX4_measure_X5_isCousin : GoodIn wsX4_measure wsX5_isCousin := goodIn_r _ [5] (by decide +kernel) (by decide +kernel)
set_option maxRecDepth 20000 in
theorem gX4_measure_X5_isCousin_n19 : GoodIn wsX4_measure (wsX5_isCousin) := ggX4_measure_X5_isCousin
set_option maxRecDepth 20000 in
theorem ggX4_measure_X1_worthOf : GoodIn wsX4_measure wsX1_worthOf := goodIn_r _ [10, 11, 17, 18, 19, 20, 21, 22, 23, 24, 25] (by decide +kernel) (by decide +kernel)
set_option maxRecDepth 20000 in
theorem gX4_measure_X1_worthOf : GoodIn wsX4_measure (wsV RX4 23 RX1 yX1_worthOf wsX1_worthOf) := goodIn_app (goodIn_of _ (by decide +kernel)) ggX4_measure_X1_worthOf
theorem dX4_measure_0 : decode cX4_measure 0 = .ok (.iconst 0, 1) := by decide +kernel
theorem dX4_measure_1 : decode cX4_measure 1 = .ok (.istore_n 2, 1) := by decide +kernel
theorem dX4_measure_2 : decode cX4_measure 2 = .ok (.iload_n 2, 1) := by decide +kernel
theorem dX4_measure_3 : decode cX4_measure 3 = .ok (.bipush 49, 2) := by decide +kernel
theorem dX4_measure_5 : decode cX4_measure 5 = .ok (.if_icmp .ge 16, 3) := by decide +kernel
theorem dX4_measure_8 : decode cX4_measure 8 = .ok (.aload_n 0, 1) := by decide +kernel
theorem dX4_measure_9 : decode cX4_measure 9 = .ok (.getfield 9, 3) := by decide +kernel
theorem dX4_measure_12 : decode cX4_measure 12 = .ok (.iload_n 2, 1) := by decide +kernel
theorem dX4_measure_13 : decode cX4_measure 13 = .ok (.iconst 0, 1) := by decide +kernel
theorem dX4_measure_14 : decode cX4_measure 14 = .ok (.iastore, 1) := by decide +kernel
theorem dX4_measure_15 : decode cX4_measure 15 = .ok (.iinc 2 1, 3) := by decide +kernel
theorem dX4_measure_18 : decode cX4_measure 18 = .ok (.goto (-16), 3) := by decide +kernel
theorem dX4_measure_21 : decode cX4_measure 21 = .ok (.iconst 0, 1) := by decide +kernel
theorem dX4_measure_22 : decode cX4_measure 22 = .ok (.istore_n 2, 1) := by decide +kernel
theorem dX4_measure_23 : decode cX4_measure 23 = .ok (.iload_n 2, 1) := by decide +kernel
theorem dX4_measure_24 : decode cX4_measure 24 = .ok (.bipush 24, 2) := by decide +kernel
theorem dX4_measure_26 : decode cX4_measure 26 = .ok (.if_icmp .ge 61, 3) := by decide +kernel
theorem dX4_measure_29 : decode cX4_measure 29 = .ok (.aload_n 1, 1) := by decide +kernel
theorem dX4_measure_30 : decode cX4_measure 30 = .ok (.iload_n 2, 1) := by decide +kernel
theorem dX4_measure_31 : decode cX4_measure 31 = .ok (.iaload, 1) := by decide +kernel
theorem dX4_measure_32 : decode cX4_measure 32 = .ok (.istore_n 3, 1) := by decide +kernel
theorem dX4_measure_33 : decode cX4_measure 33 = .ok (.iload_n 3, 1) := by decide +kernel
theorem dX4_measure_34 : decode cX4_measure 34 = .ok (.invokestatic 19, 3) := by decide +kernel
theorem dX4_measure_37 : decode cX4_measure 37 = .ok (.ifCond .eq 44, 3) := by decide +kernel
theorem dX4_measure_40 : decode cX4_measure 40 = .ok (.iconst 0, 1) := by decide +kernel
theorem dX4_measure_41 : decode cX4_measure 41 = .ok (.istore 4, 2) := by decide +kernel
theorem dX4_measure_43 : decode cX4_measure 43 = .ok (.iload 4, 2) := by decide +kernel
theorem dX4_measure_45 : decode cX4_measure 45 = .ok (.bipush 7, 2) := by decide +kernel
theorem dX4_measure_47 : decode cX4_measure 47 = .ok (.if_icmp .ge 34, 3) := by decide +kernel
theorem dX4_measure_50 : decode cX4_measure 50 = .ok (.aload_n 0, 1) := by decide +kernel
theorem dX4_measure_51 : decode cX4_measure 51 = .ok (.getfield 9, 3) := by decide +kernel
theorem dX4_measure_54 : decode cX4_measure 54 = .ok (.iload 4, 2) := by decide +kernel
theorem dX4_measure_56 : decode cX4_measure 56 = .ok (.bipush 7, 2) := by decide +kernel
theorem dX4_measure_58 : decode cX4_measure 58 = .ok (.imul, 1) := by decide +kernel
theorem dX4_measure_59 : decode cX4_measure 59 = .ok (.iload_n 3, 1) := by decide +kernel
theorem dX4_measure_60 : decode cX4_measure 60 = .ok (.iadd, 1) := by decide +kernel
theorem dX4_measure_61 : decode cX4_measure 61 = .ok (.dup2, 1) := by decide +kernel
theorem dX4_measure_62 : decode cX4_measure 62 = .ok (.iaload, 1) := by decide +kernel
theorem dX4_measure_63 : decode cX4_measure 63 = .ok (.aload_n 0, 1) := by decide +kernel
theorem dX4_measure_64 : decode cX4_measure 64 = .ok (.getfield 15, 3) := by decide +kernel
theorem dX4_measure_67 : decode cX4_measure 67 = .ok (.iload_n 2, 1) := by decide +kernel
theorem dX4_measure_68 : decode cX4_measure 68 = .ok (.iload 4, 2) := by decide +kernel
theorem dX4_measure_70 : decode cX4_measure 70 = .ok (.invokevirtual 23, 3) := by decide +kernel
theorem dX4_measure_73 : decode cX4_measure 73 = .ok (.iadd, 1) := by decide +kernel
theorem dX4_measure_74 : decode cX4_measure 74 = .ok (.iastore, 1) := by decide +kernel
theorem dX4_measure_75 : decode cX4_measure 75 = .ok (.iinc 4 1, 3) := by decide +kernel
theorem dX4_measure_78 : decode cX4_measure 78 = .ok (.goto (-35), 3) := by decide +kernel
theorem dX4_measure_81 : decode cX4_measure 81 = .ok (.iinc 2 1, 3) := by decide +kernel
theorem dX4_measure_84 : decode cX4_measure 84 = .ok (.goto (-61), 3) := by decide +kernel
theorem dX4_measure_87 : decode cX4_measure 87 = .ok (.return_, 1) := by decide +kernel
theorem dX4_exchange_0 : decode cX4_exchange 0 = .ok (.iconst 0, 1) := by decide +kernel
theorem dX4_exchange_1 : decode cX4_exchange 1 = .ok (.istore_n 3, 1) := by decide +kernel
theorem dX4_exchange_2 : decode cX4_exchange 2 = .ok (.iload_n 3, 1) := by decide +kernel
theorem dX4_exchange_3 : decode cX4_exchange 3 = .ok (.bipush 49, 2) := by decide +kernel
theorem dX4_exchange_5 : decode cX4_exchange 5 = .ok (.if_icmp .ge 45, 3) := by decide +kernel
theorem dX4_exchange_8 : decode cX4_exchange 8 = .ok (.aload_n 0, 1) := by decide +kernel
theorem dX4_exchange_9 : decode cX4_exchange 9 = .ok (.getfield 9, 3) := by decide +kernel
theorem dX4_exchange_12 : decode cX4_exchange 12 = .ok (.iload_n 3, 1) := by decide +kernel
theorem dX4_exchange_13 : decode cX4_exchange 13 = .ok (.iload_n 1, 1) := by decide +kernel
theorem dX4_exchange_14 : decode cX4_exchange 14 = .ok (.iadd, 1) := by decide +kernel
theorem dX4_exchange_15 : decode cX4_exchange 15 = .ok (.iaload, 1) := by decide +kernel
theorem dX4_exchange_16 : decode cX4_exchange 16 = .ok (.istore 4, 2) := by decide +kernel
theorem dX4_exchange_18 : decode cX4_exchange 18 = .ok (.aload_n 0, 1) := by decide +kernel
theorem dX4_exchange_19 : decode cX4_exchange 19 = .ok (.getfield 9, 3) := by decide +kernel
theorem dX4_exchange_22 : decode cX4_exchange 22 = .ok (.iload_n 3, 1) := by decide +kernel
theorem dX4_exchange_23 : decode cX4_exchange 23 = .ok (.iload_n 1, 1) := by decide +kernel
theorem dX4_exchange_24 : decode cX4_exchange 24 = .ok (.iadd, 1) := by decide +kernel
theorem dX4_exchange_25 : decode cX4_exchange 25 = .ok (.aload_n 0, 1) := by decide +kernel
theorem dX4_exchange_26 : decode cX4_exchange 26 = .ok (.getfield 9, 3) := by decide +kernel
theorem dX4_exchange_29 : decode cX4_exchange 29 = .ok (.iload_n 3, 1) := by decide +kernel
theorem dX4_exchange_30 : decode cX4_exchange 30 = .ok (.iload_n 2, 1) := by decide +kernel
theorem dX4_exchange_31 : decode cX4_exchange 31 = .ok (.iadd, 1) := by decide +kernel
theorem dX4_exchange_32 : decode cX4_exchange 32 = .ok (.iaload, 1) := by decide +kernel
theorem dX4_exchange_33 : decode cX4_exchange 33 = .ok (.iastore, 1) := by decide +kernel
theorem dX4_exchange_34 : decode cX4_exchange 34 = .ok (.aload_n 0, 1) := by decide +kernel
theorem dX4_exchange_35 : decode cX4_exchange 35 = .ok (.getfield 9, 3) := by decide +kernel
theorem dX4_exchange_38 : decode cX4_exchange 38 = .ok (.iload_n 3, 1) := by decide +kernel
theorem dX4_exchange_39 : decode cX4_exchange 39 = .ok (.iload_n 2, 1) := by decide +kernel
theorem dX4_exchange_40 : decode cX4_exchange 40 = .ok (.iadd, 1) := by decide +kernel
theorem dX4_exchange_41 : decode cX4_exchange 41 = .ok (.iload 4, 2) := by decide +kernel
theorem dX4_exchange_43 : decode cX4_exchange 43 = .ok (.iastore, 1) := by decide +kernel
theorem dX4_exchange_44 : decode cX4_exchange 44 = .ok (.iinc 3 7, 3) := by decide +kernel
theorem dX4_exchange_47 : decode cX4_exchange 47 = .ok (.goto (-45), 3) := by decide +kernel
theorem dX4_exchange_50 : decode cX4_exchange 50 = .ok (.return_, 1) := by decide +kernel
theorem dX4_worthOf_0 : decode cX4_worthOf 0 = .ok (.aload_n 0, 1) := by decide +kernel
theorem dX4_worthOf_1 : decode cX4_worthOf 1 = .ok (.getfield 9, 3) := by decide +kernel
theorem dX4_worthOf_4 : decode cX4_worthOf 4 = .ok (.iload_n 1, 1) := by decide +kernel
theorem dX4_worthOf_5 : decode cX4_worthOf 5 = .ok (.bipush 7, 2) := by decide +kernel
theorem dX4_worthOf_7 : decode cX4_worthOf 7 = .ok (.imul, 1) := by decide +kernel
theorem dX4_worthOf_8 : decode cX4_worthOf 8 = .ok (.iload_n 2, 1) := by decide +kernel
theorem dX4_worthOf_9 : decode cX4_worthOf 9 = .ok (.iadd, 1) := by decide +kernel
theorem dX4_worthOf_10 : decode cX4_worthOf 10 = .ok (.iaload, 1) := by decide +kernel
theorem dX4_worthOf_11 : decode cX4_worthOf 11 = .ok (.ireturn, 1) := by decide +kernel
theorem dX4_seeming_0 : decode cX4_seeming 0 = .ok (.iload_n 1, 1) := by decide +kernel
theorem dX4_seeming_1 : decode cX4_seeming 1 = .ok (.bipush 7, 2) := by decide +kernel
theorem dX4_seeming_3 : decode cX4_seeming 3 = .ok (.imul, 1) := by decide +kernel
theorem dX4_seeming_4 : decode cX4_seeming 4 = .ok (.iload_n 2, 1) := by decide +kernel
theorem dX4_seeming_5 : decode cX4_seeming 5 = .ok (.iadd, 1) := by decide +kernel
theorem dX4_seeming_6 : decode cX4_seeming 6 = .ok (.istore_n 3, 1) := by decide +kernel
theorem dX4_seeming_7 : decode cX4_seeming 7 = .ok (.aload_n 0, 1) := by decide +kernel
theorem dX4_seeming_8 : decode cX4_seeming 8 = .ok (.getfield 9, 3) := by decide +kernel
theorem dX4_seeming_11 : decode cX4_seeming 11 = .ok (.iload_n 3, 1) := by decide +kernel
theorem dX4_seeming_12 : decode cX4_seeming 12 = .ok (.iaload, 1) := by decide +kernel
theorem dX4_seeming_13 : decode cX4_seeming 13 = .ok (.bipush 10, 2) := by decide +kernel
theorem dX4_seeming_15 : decode cX4_seeming 15 = .ok (.aload_n 0, 1) := by decide +kernel
theorem dX4_seeming_16 : decode cX4_seeming 16 = .ok (.getfield 15, 3) := by decide +kernel
theorem dX4_seeming_19 : decode cX4_seeming 19 = .ok (.getfield 29, 3) := by decide +kernel
theorem dX4_seeming_22 : decode cX4_seeming 22 = .ok (.iload_n 3, 1) := by decide +kernel
theorem dX4_seeming_23 : decode cX4_seeming 23 = .ok (.iaload, 1) := by decide +kernel
theorem dX4_seeming_24 : decode cX4_seeming 24 = .ok (.iadd, 1) := by decide +kernel
theorem dX4_seeming_25 : decode cX4_seeming 25 = .ok (.imul, 1) := by decide +kernel
theorem dX4_seeming_26 : decode cX4_seeming 26 = .ok (.bipush 10, 2) := by decide +kernel
theorem dX4_seeming_28 : decode cX4_seeming 28 = .ok (.idiv, 1) := by decide +kernel
theorem dX4_seeming_29 : decode cX4_seeming 29 = .ok (.ireturn, 1) := by decide +kernel
set_option maxRecDepth 20000 in
theorem ggX4_envy_X4_seeming : GoodIn wsX4_envy wsX4_seeming := goodIn_r _ [9, 10, 11, 12, 17, 18, 19, 20, 21, 22, 23, 24, 25, 26, 27, 28, 29, 30] (by decide +kernel) (by decide +kernel)
set_option maxRecDepth 20000 in
theorem gX4_envy_X4_seeming : GoodIn wsX4_envy (wsV RX4 32 RX4 yX4_seeming wsX4_seeming) := goodIn_app (goodIn_of _ (by decide +kernel)) ggX4_envy_X4_seeming
set_option maxRecDepth 20000 in
theorem ggX4_envy_X4_worthOf : GoodIn wsX4_envy wsX4_worthOf := goodIn_r _ [16, 10, 17, 18, 19, 20, 21] (by decide +kernel) (by decide +kernel)
set_option maxRecDepth 20000 in
theorem gX4_envy_X4_worthOf : GoodIn wsX4_envy (wsV RX4 35 RX4 yX4_worthOf wsX4_worthOf) := goodIn_app (goodIn_of _ (by decide +kernel)) ggX4_envy_X4_worthOf
theorem dX4_envy_0 : decode cX4_envy 0 = .ok (.iload_n 1, 1) := by decide +kernel
theorem dX4_envy_1 : decode cX4_envy 1 = .ok (.iload_n 2, 1) := by decide +kernel
theorem dX4_envy_2 : decode cX4_envy 2 = .ok (.if_icmp .ne 5, 3) := by decide +kernel
theorem dX4_envy_5 : decode cX4_envy 5 = .ok (.iconst 0, 1) := by decide +kernel
theorem dX4_envy_6 : decode cX4_envy 6 = .ok (.ireturn, 1) := by decide +kernel
theorem dX4_envy_7 : decode cX4_envy 7 = .ok (.iconst 0, 1) := by decide +kernel
theorem dX4_envy_8 : decode cX4_envy 8 = .ok (.aload_n 0, 1) := by decide +kernel
theorem dX4_envy_9 : decode cX4_envy 9 = .ok (.iload_n 1, 1) := by decide +kernel
theorem dX4_envy_10 : decode cX4_envy 10 = .ok (.iload_n 2, 1) := by decide +kernel
theorem dX4_envy_11 : decode cX4_envy 11 = .ok (.invokevirtual 32, 3) := by decide +kernel
theorem dX4_envy_14 : decode cX4_envy 14 = .ok (.aload_n 0, 1) := by decide +kernel
theorem dX4_envy_15 : decode cX4_envy 15 = .ok (.iload_n 1, 1) := by decide +kernel
theorem dX4_envy_16 : decode cX4_envy 16 = .ok (.iload_n 1, 1) := by decide +kernel
theorem dX4_envy_17 : decode cX4_envy 17 = .ok (.invokevirtual 35, 3) := by decide +kernel
theorem dX4_envy_20 : decode cX4_envy 20 = .ok (.isub, 1) := by decide +kernel
theorem dX4_envy_21 : decode cX4_envy 21 = .ok (.invokestatic 36, 3) := by decide +kernel
theorem dX4_envy_24 : decode cX4_envy 24 = .ok (.ireturn, 1) := by decide +kernel
set_option maxRecDepth 20000 in
theorem ggX4_enviesOf_X5_contains : GoodIn wsX4_enviesOf wsX5_contains := goodIn_r _ [3] (by decide +kernel) (by decide +kernel)
set_option maxRecDepth 20000 in
theorem gX4_enviesOf_X5_contains_n41 : GoodIn wsX4_enviesOf (wsX5_contains) := ggX4_enviesOf_X5_contains
set_option maxRecDepth 20000 in
theorem ggX4_enviesOf_X4_envy : GoodIn wsX4_enviesOf wsX4_envy := goodIn_r _ [8, 9, 10, 11, 12, 13, 14, 15, 7, 16, 17, 18, 19, 20, 21, 22, 23, 24, 25, 26, 27, 28, 29, 30, 31, 32, 33, 34, 35, 36, 37] (by decide +kernel) (by decide +kernel)
set_option maxRecDepth 20000 in
theorem gX4_enviesOf_X4_envy : GoodIn wsX4_enviesOf (wsV RX4 45 RX4 yX4_envy wsX4_envy) := goodIn_app (goodIn_of _ (by decide +kernel)) ggX4_enviesOf_X4_envy
theorem dX4_enviesOf_0 : decode cX4_enviesOf 0 = .ok (.iconst 0, 1) := by decide +kernel
theorem dX4_enviesOf_1 : decode cX4_enviesOf 1 = .ok (.istore_n 3, 1) := by decide +kernel
theorem dX4_enviesOf_2 : decode cX4_enviesOf 2 = .ok (.iconst 0, 1) := by decide +kernel
theorem dX4_enviesOf_3 : decode cX4_enviesOf 3 = .ok (.istore 4, 2) := by decide +kernel
theorem dX4_enviesOf_5 : decode cX4_enviesOf 5 = .ok (.iload 4, 2) := by decide +kernel
theorem dX4_enviesOf_7 : decode cX4_enviesOf 7 = .ok (.bipush 7, 2) := by decide +kernel
theorem dX4_enviesOf_9 : decode cX4_enviesOf 9 = .ok (.if_icmp .ge 28, 3) := by decide +kernel
theorem dX4_enviesOf_12 : decode cX4_enviesOf 12 = .ok (.iload_n 2, 1) := by decide +kernel
theorem dX4_enviesOf_13 : decode cX4_enviesOf 13 = .ok (.iload 4, 2) := by decide +kernel
theorem dX4_enviesOf_15 : decode cX4_enviesOf 15 = .ok (.invokestatic 41, 3) := by decide +kernel
theorem dX4_enviesOf_18 : decode cX4_enviesOf 18 = .ok (.ifCond .eq 13, 3) := by decide +kernel
theorem dX4_enviesOf_21 : decode cX4_enviesOf 21 = .ok (.iload_n 3, 1) := by decide +kernel
theorem dX4_enviesOf_22 : decode cX4_enviesOf 22 = .ok (.aload_n 0, 1) := by decide +kernel
theorem dX4_enviesOf_23 : decode cX4_enviesOf 23 = .ok (.iload_n 1, 1) := by decide +kernel
theorem dX4_enviesOf_24 : decode cX4_enviesOf 24 = .ok (.iload 4, 2) := by decide +kernel
theorem dX4_enviesOf_26 : decode cX4_enviesOf 26 = .ok (.invokevirtual 45, 3) := by decide +kernel
theorem dX4_enviesOf_29 : decode cX4_enviesOf 29 = .ok (.iadd, 1) := by decide +kernel
theorem dX4_enviesOf_30 : decode cX4_enviesOf 30 = .ok (.istore_n 3, 1) := by decide +kernel
theorem dX4_enviesOf_31 : decode cX4_enviesOf 31 = .ok (.iinc 4 1, 3) := by decide +kernel
theorem dX4_enviesOf_34 : decode cX4_enviesOf 34 = .ok (.goto (-29), 3) := by decide +kernel
theorem dX4_enviesOf_37 : decode cX4_enviesOf 37 = .ok (.iload_n 3, 1) := by decide +kernel
theorem dX4_enviesOf_38 : decode cX4_enviesOf 38 = .ok (.ireturn, 1) := by decide +kernel
set_option maxRecDepth 20000 in
theorem ggX4_enviesAmong_X5_contains : GoodIn wsX4_enviesAmong wsX5_contains := goodIn_r _ [3] (by decide +kernel) (by decide +kernel)
set_option maxRecDepth 20000 in
theorem gX4_enviesAmong_X5_contains_n41 : GoodIn wsX4_enviesAmong (wsX5_contains) := ggX4_enviesAmong_X5_contains
set_option maxRecDepth 20000 in
theorem ggX4_enviesAmong_X4_enviesOf : GoodIn wsX4_enviesAmong wsX4_enviesOf := goodIn_r _ [8, 1, 2, 3, 9, 10, 11, 7, 12, 13, 14, 15, 16, 17, 18, 19, 20, 21, 22, 23, 24, 25, 26, 27, 28, 29, 30, 31, 32, 33, 34, 35, 36, 37, 38, 39, 40, 41] (by decide +kernel) (by decide +kernel)
set_option maxRecDepth 20000 in
theorem gX4_enviesAmong_X4_enviesOf : GoodIn wsX4_enviesAmong (wsV RX4 48 RX4 yX4_enviesOf wsX4_enviesOf) := goodIn_app (goodIn_of _ (by decide +kernel)) ggX4_enviesAmong_X4_enviesOf
theorem dX4_enviesAmong_0 : decode cX4_enviesAmong 0 = .ok (.iconst 0, 1) := by decide +kernel
theorem dX4_enviesAmong_1 : decode cX4_enviesAmong 1 = .ok (.istore_n 2, 1) := by decide +kernel
theorem dX4_enviesAmong_2 : decode cX4_enviesAmong 2 = .ok (.iconst 0, 1) := by decide +kernel
theorem dX4_enviesAmong_3 : decode cX4_enviesAmong 3 = .ok (.istore_n 3, 1) := by decide +kernel
theorem dX4_enviesAmong_4 : decode cX4_enviesAmong 4 = .ok (.iload_n 3, 1) := by decide +kernel
theorem dX4_enviesAmong_5 : decode cX4_enviesAmong 5 = .ok (.bipush 7, 2) := by decide +kernel
theorem dX4_enviesAmong_7 : decode cX4_enviesAmong 7 = .ok (.if_icmp .ge 26, 3) := by decide +kernel
theorem dX4_enviesAmong_10 : decode cX4_enviesAmong 10 = .ok (.iload_n 1, 1) := by decide +kernel
theorem dX4_enviesAmong_11 : decode cX4_enviesAmong 11 = .ok (.iload_n 3, 1) := by decide +kernel
theorem dX4_enviesAmong_12 : decode cX4_enviesAmong 12 = .ok (.invokestatic 41, 3) := by decide +kernel
theorem dX4_enviesAmong_15 : decode cX4_enviesAmong 15 = .ok (.ifCond .eq 12, 3) := by decide +kernel
theorem dX4_enviesAmong_18 : decode cX4_enviesAmong 18 = .ok (.iload_n 2, 1) := by decide +kernel
theorem dX4_enviesAmong_19 : decode cX4_enviesAmong 19 = .ok (.aload_n 0, 1) := by decide +kernel
theorem dX4_enviesAmong_20 : decode cX4_enviesAmong 20 = .ok (.iload_n 3, 1) := by decide +kernel
theorem dX4_enviesAmong_21 : decode cX4_enviesAmong 21 = .ok (.iload_n 1, 1) := by decide +kernel
theorem dX4_enviesAmong_22 : decode cX4_enviesAmong 22 = .ok (.invokevirtual 48, 3) := by decide +kernel
theorem dX4_enviesAmong_25 : decode cX4_enviesAmong 25 = .ok (.iadd, 1) := by decide +kernel
theorem dX4_enviesAmong_26 : decode cX4_enviesAmong 26 = .ok (.istore_n 2, 1) := by decide +kernel
theorem dX4_enviesAmong_27 : decode cX4_enviesAmong 27 = .ok (.iinc 3 1, 3) := by decide +kernel
theorem dX4_enviesAmong_30 : decode cX4_enviesAmong 30 = .ok (.goto (-26), 3) := by decide +kernel
theorem dX4_enviesAmong_33 : decode cX4_enviesAmong 33 = .ok (.iload_n 2, 1) := by decide +kernel
theorem dX4_enviesAmong_34 : decode cX4_enviesAmong 34 = .ok (.ireturn, 1) := by decide +kernel
set_option maxRecDepth 20000 in
theorem ggX4_greatestEnvyOf_X4_envy : GoodIn wsX4_greatestEnvyOf wsX4_envy := goodIn_r _ [9, 1, 2, 3, 4, 10, 11, 12, 8, 13, 14, 15, 16, 17, 18, 19, 20, 21, 22, 23, 24, 25, 26, 27, 28, 29, 30, 31, 32, 33, 34] (by decide +kernel) (by decide +kernel)
set_option maxRecDepth 20000 in
theorem gX4_greatestEnvyOf_X4_envy : GoodIn wsX4_greatestEnvyOf (wsV RX4 45 RX4 yX4_envy wsX4_envy) := goodIn_app (goodIn_of _ (by decide +kernel)) ggX4_greatestEnvyOf_X4_envy
theorem dX4_greatestEnvyOf_0 : decode cX4_greatestEnvyOf 0 = .ok (.iconst 0, 1) := by decide +kernel
theorem dX4_greatestEnvyOf_1 : decode cX4_greatestEnvyOf 1 = .ok (.istore_n 2, 1) := by decide +kernel
theorem dX4_greatestEnvyOf_2 : decode cX4_greatestEnvyOf 2 = .ok (.iconst 0, 1) := by decide +kernel
theorem dX4_greatestEnvyOf_3 : decode cX4_greatestEnvyOf 3 = .ok (.istore_n 3, 1) := by decide +kernel
theorem dX4_greatestEnvyOf_4 : decode cX4_greatestEnvyOf 4 = .ok (.iload_n 3, 1) := by decide +kernel
theorem dX4_greatestEnvyOf_5 : decode cX4_greatestEnvyOf 5 = .ok (.bipush 7, 2) := by decide +kernel
theorem dX4_greatestEnvyOf_7 : decode cX4_greatestEnvyOf 7 = .ok (.if_icmp .ge 20, 3) := by decide +kernel
theorem dX4_greatestEnvyOf_10 : decode cX4_greatestEnvyOf 10 = .ok (.iload_n 2, 1) := by decide +kernel
theorem dX4_greatestEnvyOf_11 : decode cX4_greatestEnvyOf 11 = .ok (.aload_n 0, 1) := by decide +kernel
theorem dX4_greatestEnvyOf_12 : decode cX4_greatestEnvyOf 12 = .ok (.iload_n 1, 1) := by decide +kernel
theorem dX4_greatestEnvyOf_13 : decode cX4_greatestEnvyOf 13 = .ok (.iload_n 3, 1) := by decide +kernel
theorem dX4_greatestEnvyOf_14 : decode cX4_greatestEnvyOf 14 = .ok (.invokevirtual 45, 3) := by decide +kernel
theorem dX4_greatestEnvyOf_17 : decode cX4_greatestEnvyOf 17 = .ok (.invokestatic 36, 3) := by decide +kernel
theorem dX4_greatestEnvyOf_20 : decode cX4_greatestEnvyOf 20 = .ok (.istore_n 2, 1) := by decide +kernel
theorem dX4_greatestEnvyOf_21 : decode cX4_greatestEnvyOf 21 = .ok (.iinc 3 1, 3) := by decide +kernel
theorem dX4_greatestEnvyOf_24 : decode cX4_greatestEnvyOf 24 = .ok (.goto (-20), 3) := by decide +kernel
theorem dX4_greatestEnvyOf_27 : decode cX4_greatestEnvyOf 27 = .ok (.iload_n 2, 1) := by decide +kernel
theorem dX4_greatestEnvyOf_28 : decode cX4_greatestEnvyOf 28 = .ok (.ireturn, 1) := by decide +kernel
set_option maxRecDepth 20000 in
theorem ggX4_enviesTowards_X4_envy : GoodIn wsX4_enviesTowards wsX4_envy := goodIn_r _ [5, 6, 7, 8, 9, 10, 11, 12, 4, 13, 14, 15, 16, 17, 18, 19, 20, 21, 22, 23, 24, 25, 26, 27, 28, 29, 30, 31, 32, 33, 34] (by decide +kernel) (by decide +kernel)
set_option maxRecDepth 20000 in
theorem gX4_enviesTowards_X4_envy : GoodIn wsX4_enviesTowards (wsV RX4 45 RX4 yX4_envy wsX4_envy) := goodIn_app (goodIn_of _ (by decide +kernel)) ggX4_enviesTowards_X4_envy
theorem dX4_enviesTowards_0 : decode cX4_enviesTowards 0 = .ok (.iconst 0, 1) := by decide +kernel
theorem dX4_enviesTowards_1 : decode cX4_enviesTowards 1 = .ok (.istore_n 2, 1) := by decide +kernel
theorem dX4_enviesTowards_2 : decode cX4_enviesTowards 2 = .ok (.iconst 0, 1) := by decide +kernel
theorem dX4_enviesTowards_3 : decode cX4_enviesTowards 3 = .ok (.istore_n 3, 1) := by decide +kernel
theorem dX4_enviesTowards_4 : decode cX4_enviesTowards 4 = .ok (.iload_n 3, 1) := by decide +kernel
theorem dX4_enviesTowards_5 : decode cX4_enviesTowards 5 = .ok (.bipush 7, 2) := by decide +kernel
theorem dX4_enviesTowards_7 : decode cX4_enviesTowards 7 = .ok (.if_icmp .ge 18, 3) := by decide +kernel
theorem dX4_enviesTowards_10 : decode cX4_enviesTowards 10 = .ok (.iload_n 2, 1) := by decide +kernel
theorem dX4_enviesTowards_11 : decode cX4_enviesTowards 11 = .ok (.aload_n 0, 1) := by decide +kernel
theorem dX4_enviesTowards_12 : decode cX4_enviesTowards 12 = .ok (.iload_n 3, 1) := by decide +kernel
theorem dX4_enviesTowards_13 : decode cX4_enviesTowards 13 = .ok (.iload_n 1, 1) := by decide +kernel
theorem dX4_enviesTowards_14 : decode cX4_enviesTowards 14 = .ok (.invokevirtual 45, 3) := by decide +kernel
theorem dX4_enviesTowards_17 : decode cX4_enviesTowards 17 = .ok (.iadd, 1) := by decide +kernel
theorem dX4_enviesTowards_18 : decode cX4_enviesTowards 18 = .ok (.istore_n 2, 1) := by decide +kernel
theorem dX4_enviesTowards_19 : decode cX4_enviesTowards 19 = .ok (.iinc 3 1, 3) := by decide +kernel
theorem dX4_enviesTowards_22 : decode cX4_enviesTowards 22 = .ok (.goto (-18), 3) := by decide +kernel
theorem dX4_enviesTowards_25 : decode cX4_enviesTowards 25 = .ok (.iload_n 2, 1) := by decide +kernel
theorem dX4_enviesTowards_26 : decode cX4_enviesTowards 26 = .ok (.ireturn, 1) := by decide +kernel
set_option maxRecDepth 20000 in
theorem ggX4_contentCousins_X4_greatestEnvyOf : GoodIn wsX4_contentCousins wsX4_greatestEnvyOf := goodIn_r _ [5, 6, 7, 8, 9, 10, 11, 12, 4, 13, 14, 15, 16, 17, 18, 19, 20, 21, 22, 23, 24, 25, 26, 27, 28, 29, 30, 31, 32, 33, 34, 35, 36, 37, 38] (by decide +kernel) (by decide +kernel)
set_option maxRecDepth 20000 in
theorem gX4_contentCousins_X4_greatestEnvyOf : GoodIn wsX4_contentCousins (wsV RX4 51 RX4 yX4_greatestEnvyOf wsX4_greatestEnvyOf) := goodIn_app (goodIn_of _ (by decide +kernel)) ggX4_contentCousins_X4_greatestEnvyOf
theorem dX4_contentCousins_0 : decode cX4_contentCousins 0 = .ok (.iconst 0, 1) := by decide +kernel
theorem dX4_contentCousins_1 : decode cX4_contentCousins 1 = .ok (.istore_n 1, 1) := by decide +kernel
theorem dX4_contentCousins_2 : decode cX4_contentCousins 2 = .ok (.iconst 0, 1) := by decide +kernel
theorem dX4_contentCousins_3 : decode cX4_contentCousins 3 = .ok (.istore_n 2, 1) := by decide +kernel
theorem dX4_contentCousins_4 : decode cX4_contentCousins 4 = .ok (.iload_n 2, 1) := by decide +kernel
theorem dX4_contentCousins_5 : decode cX4_contentCousins 5 = .ok (.bipush 7, 2) := by decide +kernel
theorem dX4_contentCousins_7 : decode cX4_contentCousins 7 = .ok (.if_icmp .ge 20, 3) := by decide +kernel
theorem dX4_contentCousins_10 : decode cX4_contentCousins 10 = .ok (.aload_n 0, 1) := by decide +kernel
theorem dX4_contentCousins_11 : decode cX4_contentCousins 11 = .ok (.iload_n 2, 1) := by decide +kernel
theorem dX4_contentCousins_12 : decode cX4_contentCousins 12 = .ok (.invokevirtual 51, 3) := by decide +kernel
theorem dX4_contentCousins_15 : decode cX4_contentCousins 15 = .ok (.ifCond .ne 6, 3) := by decide +kernel
theorem dX4_contentCousins_18 : decode cX4_contentCousins 18 = .ok (.iinc 1 1, 3) := by decide +kernel
theorem dX4_contentCousins_21 : decode cX4_contentCousins 21 = .ok (.iinc 2 1, 3) := by decide +kernel
theorem dX4_contentCousins_24 : decode cX4_contentCousins 24 = .ok (.goto (-20), 3) := by decide +kernel
theorem dX4_contentCousins_27 : decode cX4_contentCousins 27 = .ok (.iload_n 1, 1) := by decide +kernel
theorem dX4_contentCousins_28 : decode cX4_contentCousins 28 = .ok (.ireturn, 1) := by decide +kernel
set_option maxRecDepth 20000 in
theorem ggX4_whyNoTrade_X1_grudgeOf : GoodIn wsX4_whyNoTrade wsX1_grudgeOf := goodIn_r _ [7, 8, 20, 21, 22, 23, 24, 25, 26, 27, 28] (by decide +kernel) (by decide +kernel)
set_option maxRecDepth 20000 in
theorem gX4_whyNoTrade_X1_grudgeOf : GoodIn wsX4_whyNoTrade (wsV RX4 58 RX1 yX1_grudgeOf wsX1_grudgeOf) := goodIn_app (goodIn_of _ (by decide +kernel)) ggX4_whyNoTrade_X1_grudgeOf
set_option maxRecDepth 20000 in
theorem ggX4_whyNoTrade_X4_worthOf : GoodIn wsX4_whyNoTrade wsX4_worthOf := goodIn_r _ [13, 14, 15, 16, 17, 18, 19] (by decide +kernel) (by decide +kernel)
set_option maxRecDepth 20000 in
theorem gX4_whyNoTrade_X4_worthOf : GoodIn wsX4_whyNoTrade (wsV RX4 35 RX4 yX4_worthOf wsX4_worthOf) := goodIn_app (goodIn_of _ (by decide +kernel)) ggX4_whyNoTrade_X4_worthOf
theorem dX4_whyNoTrade_0 : decode cX4_whyNoTrade 0 = .ok (.aload_n 0, 1) := by decide +kernel
theorem dX4_whyNoTrade_1 : decode cX4_whyNoTrade 1 = .ok (.getfield 15, 3) := by decide +kernel
theorem dX4_whyNoTrade_4 : decode cX4_whyNoTrade 4 = .ok (.getfield 55, 3) := by decide +kernel
theorem dX4_whyNoTrade_7 : decode cX4_whyNoTrade 7 = .ok (.iconst 1, 1) := by decide +kernel
theorem dX4_whyNoTrade_8 : decode cX4_whyNoTrade 8 = .ok (.iaload, 1) := by decide +kernel
theorem dX4_whyNoTrade_9 : decode cX4_whyNoTrade 9 = .ok (.istore_n 3, 1) := by decide +kernel
theorem dX4_whyNoTrade_10 : decode cX4_whyNoTrade 10 = .ok (.aload_n 0, 1) := by decide +kernel
theorem dX4_whyNoTrade_11 : decode cX4_whyNoTrade 11 = .ok (.getfield 15, 3) := by decide +kernel
theorem dX4_whyNoTrade_14 : decode cX4_whyNoTrade 14 = .ok (.iload_n 1, 1) := by decide +kernel
theorem dX4_whyNoTrade_15 : decode cX4_whyNoTrade 15 = .ok (.iload_n 2, 1) := by decide +kernel
theorem dX4_whyNoTrade_16 : decode cX4_whyNoTrade 16 = .ok (.invokevirtual 58, 3) := by decide +kernel
theorem dX4_whyNoTrade_19 : decode cX4_whyNoTrade 19 = .ok (.iload_n 3, 1) := by decide +kernel
theorem dX4_whyNoTrade_20 : decode cX4_whyNoTrade 20 = .ok (.if_icmp .ge 16, 3) := by decide +kernel
theorem dX4_whyNoTrade_23 : decode cX4_whyNoTrade 23 = .ok (.aload_n 0, 1) := by decide +kernel
theorem dX4_whyNoTrade_24 : decode cX4_whyNoTrade 24 = .ok (.getfield 15, 3) := by decide +kernel
theorem dX4_whyNoTrade_27 : decode cX4_whyNoTrade 27 = .ok (.iload_n 2, 1) := by decide +kernel
theorem dX4_whyNoTrade_28 : decode cX4_whyNoTrade 28 = .ok (.iload_n 1, 1) := by decide +kernel
theorem dX4_whyNoTrade_29 : decode cX4_whyNoTrade 29 = .ok (.invokevirtual 58, 3) := by decide +kernel
theorem dX4_whyNoTrade_32 : decode cX4_whyNoTrade 32 = .ok (.iload_n 3, 1) := by decide +kernel
theorem dX4_whyNoTrade_33 : decode cX4_whyNoTrade 33 = .ok (.if_icmp .lt 5, 3) := by decide +kernel
theorem dX4_whyNoTrade_36 : decode cX4_whyNoTrade 36 = .ok (.iconst 1, 1) := by decide +kernel
theorem dX4_whyNoTrade_37 : decode cX4_whyNoTrade 37 = .ok (.ireturn, 1) := by decide +kernel
theorem dX4_whyNoTrade_38 : decode cX4_whyNoTrade 38 = .ok (.aload_n 0, 1) := by decide +kernel
theorem dX4_whyNoTrade_39 : decode cX4_whyNoTrade 39 = .ok (.iload_n 1, 1) := by decide +kernel
theorem dX4_whyNoTrade_40 : decode cX4_whyNoTrade 40 = .ok (.iload_n 2, 1) := by decide +kernel
theorem dX4_whyNoTrade_41 : decode cX4_whyNoTrade 41 = .ok (.invokevirtual 35, 3) := by decide +kernel
theorem dX4_whyNoTrade_44 : decode cX4_whyNoTrade 44 = .ok (.aload_n 0, 1) := by decide +kernel
theorem dX4_whyNoTrade_45 : decode cX4_whyNoTrade 45 = .ok (.iload_n 1, 1) := by decide +kernel
theorem dX4_whyNoTrade_46 : decode cX4_whyNoTrade 46 = .ok (.iload_n 1, 1) := by decide +kernel
theorem dX4_whyNoTrade_47 : decode cX4_whyNoTrade 47 = .ok (.invokevirtual 35, 3) := by decide +kernel
theorem dX4_whyNoTrade_50 : decode cX4_whyNoTrade 50 = .ok (.if_icmp .gt 5, 3) := by decide +kernel
theorem dX4_whyNoTrade_53 : decode cX4_whyNoTrade 53 = .ok (.iconst 2, 1) := by decide +kernel
theorem dX4_whyNoTrade_54 : decode cX4_whyNoTrade 54 = .ok (.ireturn, 1) := by decide +kernel
theorem dX4_whyNoTrade_55 : decode cX4_whyNoTrade 55 = .ok (.aload_n 0, 1) := by decide +kernel
theorem dX4_whyNoTrade_56 : decode cX4_whyNoTrade 56 = .ok (.iload_n 2, 1) := by decide +kernel
theorem dX4_whyNoTrade_57 : decode cX4_whyNoTrade 57 = .ok (.iload_n 1, 1) := by decide +kernel
theorem dX4_whyNoTrade_58 : decode cX4_whyNoTrade 58 = .ok (.invokevirtual 35, 3) := by decide +kernel
theorem dX4_whyNoTrade_61 : decode cX4_whyNoTrade 61 = .ok (.aload_n 0, 1) := by decide +kernel
theorem dX4_whyNoTrade_62 : decode cX4_whyNoTrade 62 = .ok (.iload_n 2, 1) := by decide +kernel
theorem dX4_whyNoTrade_63 : decode cX4_whyNoTrade 63 = .ok (.iload_n 2, 1) := by decide +kernel
theorem dX4_whyNoTrade_64 : decode cX4_whyNoTrade 64 = .ok (.invokevirtual 35, 3) := by decide +kernel
theorem dX4_whyNoTrade_67 : decode cX4_whyNoTrade 67 = .ok (.if_icmp .gt 5, 3) := by decide +kernel
theorem dX4_whyNoTrade_70 : decode cX4_whyNoTrade 70 = .ok (.iconst 3, 1) := by decide +kernel
theorem dX4_whyNoTrade_71 : decode cX4_whyNoTrade 71 = .ok (.ireturn, 1) := by decide +kernel
theorem dX4_whyNoTrade_72 : decode cX4_whyNoTrade 72 = .ok (.iconst 0, 1) := by decide +kernel
theorem dX4_whyNoTrade_73 : decode cX4_whyNoTrade 73 = .ok (.ireturn, 1) := by decide +kernel
set_option maxRecDepth 20000 in
theorem ggX4_tradingPairs_X4_whyNoTrade : GoodIn wsX4_tradingPairs wsX4_whyNoTrade := goodIn_r _ [5, 6, 7, 8, 9, 10, 11, 12, 13, 14, 15, 16, 4, 17, 18, 19, 20, 21, 22, 23, 24, 25, 26, 27, 28, 29, 30, 31, 32] (by decide +kernel) (by decide +kernel)
set_option maxRecDepth 20000 in
theorem gX4_tradingPairs_X4_whyNoTrade : GoodIn wsX4_tradingPairs (wsV RX4 61 RX4 yX4_whyNoTrade wsX4_whyNoTrade) := goodIn_app (goodIn_of _ (by decide +kernel)) ggX4_tradingPairs_X4_whyNoTrade
theorem dX4_tradingPairs_0 : decode cX4_tradingPairs 0 = .ok (.iconst 0, 1) := by decide +kernel
theorem dX4_tradingPairs_1 : decode cX4_tradingPairs 1 = .ok (.istore_n 1, 1) := by decide +kernel
theorem dX4_tradingPairs_2 : decode cX4_tradingPairs 2 = .ok (.iconst 0, 1) := by decide +kernel
theorem dX4_tradingPairs_3 : decode cX4_tradingPairs 3 = .ok (.istore_n 2, 1) := by decide +kernel
theorem dX4_tradingPairs_4 : decode cX4_tradingPairs 4 = .ok (.iload_n 2, 1) := by decide +kernel
theorem dX4_tradingPairs_5 : decode cX4_tradingPairs 5 = .ok (.bipush 7, 2) := by decide +kernel
theorem dX4_tradingPairs_7 : decode cX4_tradingPairs 7 = .ok (.if_icmp .ge 37, 3) := by decide +kernel
theorem dX4_tradingPairs_10 : decode cX4_tradingPairs 10 = .ok (.iload_n 2, 1) := by decide +kernel
theorem dX4_tradingPairs_11 : decode cX4_tradingPairs 11 = .ok (.iconst 1, 1) := by decide +kernel
theorem dX4_tradingPairs_12 : decode cX4_tradingPairs 12 = .ok (.iadd, 1) := by decide +kernel
theorem dX4_tradingPairs_13 : decode cX4_tradingPairs 13 = .ok (.istore_n 3, 1) := by decide +kernel
theorem dX4_tradingPairs_14 : decode cX4_tradingPairs 14 = .ok (.iload_n 3, 1) := by decide +kernel
theorem dX4_tradingPairs_15 : decode cX4_tradingPairs 15 = .ok (.bipush 7, 2) := by decide +kernel
theorem dX4_tradingPairs_17 : decode cX4_tradingPairs 17 = .ok (.if_icmp .ge 21, 3) := by decide +kernel
theorem dX4_tradingPairs_20 : decode cX4_tradingPairs 20 = .ok (.aload_n 0, 1) := by decide +kernel
theorem dX4_tradingPairs_21 : decode cX4_tradingPairs 21 = .ok (.iload_n 2, 1) := by decide +kernel
theorem dX4_tradingPairs_22 : decode cX4_tradingPairs 22 = .ok (.iload_n 3, 1) := by decide +kernel
theorem dX4_tradingPairs_23 : decode cX4_tradingPairs 23 = .ok (.invokevirtual 61, 3) := by decide +kernel
theorem dX4_tradingPairs_26 : decode cX4_tradingPairs 26 = .ok (.ifCond .ne 6, 3) := by decide +kernel
theorem dX4_tradingPairs_29 : decode cX4_tradingPairs 29 = .ok (.iinc 1 1, 3) := by decide +kernel
theorem dX4_tradingPairs_32 : decode cX4_tradingPairs 32 = .ok (.iinc 3 1, 3) := by decide +kernel
theorem dX4_tradingPairs_35 : decode cX4_tradingPairs 35 = .ok (.goto (-21), 3) := by decide +kernel
theorem dX4_tradingPairs_38 : decode cX4_tradingPairs 38 = .ok (.iinc 2 1, 3) := by decide +kernel
theorem dX4_tradingPairs_41 : decode cX4_tradingPairs 41 = .ok (.goto (-37), 3) := by decide +kernel
theorem dX4_tradingPairs_44 : decode cX4_tradingPairs 44 = .ok (.iload_n 1, 1) := by decide +kernel
theorem dX4_tradingPairs_45 : decode cX4_tradingPairs 45 = .ok (.ireturn, 1) := by decide +kernel
set_option maxRecDepth 20000 in
theorem ggX4_findBestTrade_X4_whyNoTrade : GoodIn wsX4_findBestTrade wsX4_whyNoTrade := goodIn_r _ [8, 9, 10, 11, 12, 13, 14, 15, 16, 17, 18, 19, 7, 20, 21, 54, 55, 56, 57, 58, 59, 60, 61, 62, 63, 64, 65, 66, 67] (by decide +kernel) (by decide +kernel)
set_option maxRecDepth 20000 in
theorem gX4_findBestTrade_X4_whyNoTrade : GoodIn wsX4_findBestTrade (wsV RX4 61 RX4 yX4_whyNoTrade wsX4_whyNoTrade) := goodIn_app (goodIn_of _ (by decide +kernel)) ggX4_findBestTrade_X4_whyNoTrade
set_option maxRecDepth 20000 in
theorem ggX4_findBestTrade_X4_enviesAfterTrade : GoodIn wsX4_findBestTrade wsX4_enviesAfterTrade := goodIn_r _ [25, 26, 27, 28, 7, 29, 21, 30, 31, 32, 33, 34, 35, 36, 37, 38, 39, 40, 41, 42, 43, 44, 45, 46, 47, 48, 49, 50, 51, 52, 9, 53, 17, 18, 19, 20, 54, 55, 56, 57, 58, 59, 60, 61, 62, 63, 64, 65, 66, 67] (by decide +kernel) (by decide +kernel)
set_option maxRecDepth 20000 in
theorem gX4_findBestTrade_X4_enviesAfterTrade : GoodIn wsX4_findBestTrade (wsV RX4 64 RX4 yX4_enviesAfterTrade wsX4_enviesAfterTrade) := goodIn_app (goodIn_of _ (by decide +kernel)) ggX4_findBestTrade_X4_enviesAfterTrade
theorem dX4_findBestTrade_0 : decode cX4_findBestTrade 0 = .ok (.iconst 0, 1) := by decide +kernel
theorem dX4_findBestTrade_1 : decode cX4_findBestTrade 1 = .ok (.istore_n 1, 1) := by decide +kernel
theorem dX4_findBestTrade_2 : decode cX4_findBestTrade 2 = .ok (.iconst 0, 1) := by decide +kernel
theorem dX4_findBestTrade_3 : decode cX4_findBestTrade 3 = .ok (.istore_n 2, 1) := by decide +kernel
theorem dX4_findBestTrade_4 : decode cX4_findBestTrade 4 = .ok (.iload_n 2, 1) := by decide +kernel
theorem dX4_findBestTrade_5 : decode cX4_findBestTrade 5 = .ok (.bipush 7, 2) := by decide +kernel
theorem dX4_findBestTrade_7 : decode cX4_findBestTrade 7 = .ok (.if_icmp .ge 73, 3) := by decide +kernel
theorem dX4_findBestTrade_10 : decode cX4_findBestTrade 10 = .ok (.iload_n 2, 1) := by decide +kernel
theorem dX4_findBestTrade_11 : decode cX4_findBestTrade 11 = .ok (.iconst 1, 1) := by decide +kernel
theorem dX4_findBestTrade_12 : decode cX4_findBestTrade 12 = .ok (.iadd, 1) := by decide +kernel
theorem dX4_findBestTrade_13 : decode cX4_findBestTrade 13 = .ok (.istore_n 3, 1) := by decide +kernel
theorem dX4_findBestTrade_14 : decode cX4_findBestTrade 14 = .ok (.iload_n 3, 1) := by decide +kernel
theorem dX4_findBestTrade_15 : decode cX4_findBestTrade 15 = .ok (.bipush 7, 2) := by decide +kernel
theorem dX4_findBestTrade_17 : decode cX4_findBestTrade 17 = .ok (.if_icmp .ge 57, 3) := by decide +kernel
theorem dX4_findBestTrade_20 : decode cX4_findBestTrade 20 = .ok (.aload_n 0, 1) := by decide +kernel
theorem dX4_findBestTrade_21 : decode cX4_findBestTrade 21 = .ok (.iload_n 2, 1) := by decide +kernel
theorem dX4_findBestTrade_22 : decode cX4_findBestTrade 22 = .ok (.iload_n 3, 1) := by decide +kernel
theorem dX4_findBestTrade_23 : decode cX4_findBestTrade 23 = .ok (.invokevirtual 61, 3) := by decide +kernel
theorem dX4_findBestTrade_26 : decode cX4_findBestTrade 26 = .ok (.ifCond .ne 42, 3) := by decide +kernel
theorem dX4_findBestTrade_29 : decode cX4_findBestTrade 29 = .ok (.aload_n 0, 1) := by decide +kernel
theorem dX4_findBestTrade_30 : decode cX4_findBestTrade 30 = .ok (.iload_n 2, 1) := by decide +kernel
theorem dX4_findBestTrade_31 : decode cX4_findBestTrade 31 = .ok (.iload_n 3, 1) := by decide +kernel
theorem dX4_findBestTrade_32 : decode cX4_findBestTrade 32 = .ok (.invokevirtual 64, 3) := by decide +kernel
theorem dX4_findBestTrade_35 : decode cX4_findBestTrade 35 = .ok (.istore 4, 2) := by decide +kernel
theorem dX4_findBestTrade_37 : decode cX4_findBestTrade 37 = .ok (.iload_n 1, 1) := by decide +kernel
theorem dX4_findBestTrade_38 : decode cX4_findBestTrade 38 = .ok (.ifCond .eq 12, 3) := by decide +kernel
theorem dX4_findBestTrade_41 : decode cX4_findBestTrade 41 = .ok (.iload 4, 2) := by decide +kernel
theorem dX4_findBestTrade_43 : decode cX4_findBestTrade 43 = .ok (.aload_n 0, 1) := by decide +kernel
theorem dX4_findBestTrade_44 : decode cX4_findBestTrade 44 = .ok (.getfield 67, 3) := by decide +kernel
theorem dX4_findBestTrade_47 : decode cX4_findBestTrade 47 = .ok (.if_icmp .ge 21, 3) := by decide +kernel
theorem dX4_findBestTrade_50 : decode cX4_findBestTrade 50 = .ok (.iconst 1, 1) := by decide +kernel
theorem dX4_findBestTrade_51 : decode cX4_findBestTrade 51 = .ok (.istore_n 1, 1) := by decide +kernel
theorem dX4_findBestTrade_52 : decode cX4_findBestTrade 52 = .ok (.aload_n 0, 1) := by decide +kernel
theorem dX4_findBestTrade_53 : decode cX4_findBestTrade 53 = .ok (.iload_n 2, 1) := by decide +kernel
theorem dX4_findBestTrade_54 : decode cX4_findBestTrade 54 = .ok (.putfield 71, 3) := by decide +kernel
theorem dX4_findBestTrade_57 : decode cX4_findBestTrade 57 = .ok (.aload_n 0, 1) := by decide +kernel
theorem dX4_findBestTrade_58 : decode cX4_findBestTrade 58 = .ok (.iload_n 3, 1) := by decide +kernel
theorem dX4_findBestTrade_59 : decode cX4_findBestTrade 59 = .ok (.putfield 74, 3) := by decide +kernel
theorem dX4_findBestTrade_62 : decode cX4_findBestTrade 62 = .ok (.aload_n 0, 1) := by decide +kernel
theorem dX4_findBestTrade_63 : decode cX4_findBestTrade 63 = .ok (.iload 4, 2) := by decide +kernel
theorem dX4_findBestTrade_65 : decode cX4_findBestTrade 65 = .ok (.putfield 67, 3) := by decide +kernel
theorem dX4_findBestTrade_68 : decode cX4_findBestTrade 68 = .ok (.iinc 3 1, 3) := by decide +kernel
theorem dX4_findBestTrade_71 : decode cX4_findBestTrade 71 = .ok (.goto (-57), 3) := by decide +kernel
theorem dX4_findBestTrade_74 : decode cX4_findBestTrade 74 = .ok (.iinc 2 1, 3) := by decide +kernel
theorem dX4_findBestTrade_77 : decode cX4_findBestTrade 77 = .ok (.goto (-73), 3) := by decide +kernel
theorem dX4_findBestTrade_80 : decode cX4_findBestTrade 80 = .ok (.iload_n 1, 1) := by decide +kernel
theorem dX4_findBestTrade_81 : decode cX4_findBestTrade 81 = .ok (.ireturn, 1) := by decide +kernel
set_option maxRecDepth 20000 in
theorem ggX4_enviesAfterTrade_X4_exchange : GoodIn wsX4_enviesAfterTrade wsX4_exchange := goodIn_r _ [5, 6, 36, 37, 38, 39, 40] (by decide +kernel) (by decide +kernel)
set_option maxRecDepth 20000 in
theorem gX4_enviesAfterTrade_X4_exchange : GoodIn wsX4_enviesAfterTrade (wsV RX4 77 RX4 yX4_exchange wsX4_exchange) := goodIn_app (goodIn_of _ (by decide +kernel)) ggX4_enviesAfterTrade_X4_exchange
set_option maxRecDepth 20000 in
theorem ggX4_enviesAfterTrade_X4_enviesAmong : GoodIn wsX4_enviesAfterTrade wsX4_enviesAmong := goodIn_r _ [10, 11, 12, 13, 14, 15, 16, 4, 17, 18, 19, 20, 21, 22, 23, 24, 25, 26, 27, 28, 29, 6, 30, 31, 32, 33, 34, 35, 36, 37, 38, 39, 40, 41, 42, 43, 44, 45, 46, 47, 48, 49] (by decide +kernel) (by decide +kernel)
set_option maxRecDepth 20000 in
theorem gX4_enviesAfterTrade_X4_enviesAmong : GoodIn wsX4_enviesAfterTrade (wsV RX4 81 RX4 yX4_enviesAmong wsX4_enviesAmong) := goodIn_app (goodIn_of _ (by decide +kernel)) ggX4_enviesAfterTrade_X4_enviesAmong
theorem dX4_enviesAfterTrade_0 : decode cX4_enviesAfterTrade 0 = .ok (.aload_n 0, 1) := by decide +kernel
theorem dX4_enviesAfterTrade_1 : decode cX4_enviesAfterTrade 1 = .ok (.iload_n 1, 1) := by decide +kernel
theorem dX4_enviesAfterTrade_2 : decode cX4_enviesAfterTrade 2 = .ok (.iload_n 2, 1) := by decide +kernel
theorem dX4_enviesAfterTrade_3 : decode cX4_enviesAfterTrade 3 = .ok (.invokevirtual 77, 3) := by decide +kernel
theorem dX4_enviesAfterTrade_6 : decode cX4_enviesAfterTrade 6 = .ok (.aload_n 0, 1) := by decide +kernel
theorem dX4_enviesAfterTrade_7 : decode cX4_enviesAfterTrade 7 = .ok (.bipush 127, 2) := by decide +kernel
theorem dX4_enviesAfterTrade_9 : decode cX4_enviesAfterTrade 9 = .ok (.invokevirtual 81, 3) := by decide +kernel
theorem dX4_enviesAfterTrade_12 : decode cX4_enviesAfterTrade 12 = .ok (.istore_n 3, 1) := by decide +kernel
theorem dX4_enviesAfterTrade_13 : decode cX4_enviesAfterTrade 13 = .ok (.aload_n 0, 1) := by decide +kernel
theorem dX4_enviesAfterTrade_14 : decode cX4_enviesAfterTrade 14 = .ok (.iload_n 1, 1) := by decide +kernel
theorem dX4_enviesAfterTrade_15 : decode cX4_enviesAfterTrade 15 = .ok (.iload_n 2, 1) := by decide +kernel
theorem dX4_enviesAfterTrade_16 : decode cX4_enviesAfterTrade 16 = .ok (.invokevirtual 77, 3) := by decide +kernel
theorem dX4_enviesAfterTrade_19 : decode cX4_enviesAfterTrade 19 = .ok (.iload_n 3, 1) := by decide +kernel
theorem dX4_enviesAfterTrade_20 : decode cX4_enviesAfterTrade 20 = .ok (.ireturn, 1) := by decide +kernel
set_option maxRecDepth 20000 in
theorem ggX5_init_X1_init : GoodIn wsX5_init wsX1_init := goodIn_r _ [28, 29, 2, 3, 30, 31, 32, 33, 34, 35, 36, 37, 38, 39, 6, 40, 41, 42, 43, 44, 71, 72, 73, 74, 75, 76, 77, 78, 79] (by decide +kernel) (by decide +kernel)
set_option maxRecDepth 20000 in
theorem gX5_init_X1_init : GoodIn wsX5_init (wsX1_init) := ggX5_init_X1_init
set_option maxRecDepth 20000 in
theorem ggX5_init_X0_init : GoodIn wsX5_init wsX0_init := goodIn_r _ [47, 48, 2, 3, 30, 49, 50, 51, 87, 88, 89, 90, 91, 92, 93, 94] (by decide +kernel) (by decide +kernel)
set_option maxRecDepth 20000 in
theorem gX5_init_X0_init : GoodIn wsX5_init (wsX0_init) := ggX5_init_X0_init
set_option maxRecDepth 20000 in
theorem ggX5_init_X4_init : GoodIn wsX5_init wsX4_init := goodIn_r _ [54, 55, 2, 3, 30, 56, 57, 95, 96, 97, 98, 99] (by decide +kernel) (by decide +kernel)
set_option maxRecDepth 20000 in
theorem gX5_init_X4_init : GoodIn wsX5_init (wsX4_init) := ggX5_init_X4_init
set_option maxRecDepth 20000 in
theorem ggX5_init_X3_init : GoodIn wsX5_init wsX3_init := goodIn_r _ [59, 60, 2, 3, 30, 61, 62, 63, 100, 101, 102, 103, 104, 105, 106, 107] (by decide +kernel) (by decide +kernel)
set_option maxRecDepth 20000 in
theorem gX5_init_X3_init_n34 : GoodIn wsX5_init (wsX3_init) := ggX5_init_X3_init
set_option maxRecDepth 20000 in
theorem ggX5_init_X2_init : GoodIn wsX5_init wsX2_init := goodIn_r _ [66, 67, 2, 3, 68, 69, 5, 6, 70, 27, 28, 29, 30, 31, 32, 33, 34, 35, 36, 37, 38, 39, 40, 41, 42, 43, 44, 108, 109, 71, 72, 73, 74, 75, 76, 77, 78, 79] (by decide +kernel) (by decide +kernel)
set_option maxRecDepth 20000 in
theorem gX5_init_X2_init : GoodIn wsX5_init (wsX2_init) := ggX5_init_X2_init
theorem dX5_init_0 : decode cX5_init 0 = .ok (.aload_n 0, 1) := by decide +kernel
theorem dX5_init_1 : decode cX5_init 1 = .ok (.invokespecial 3, 3) := by decide +kernel
theorem dX5_init_4 : decode cX5_init 4 = .ok (.aload_n 0, 1) := by decide +kernel
theorem dX5_init_5 : decode cX5_init 5 = .ok (.new 9, 3) := by decide +kernel
theorem dX5_init_8 : decode cX5_init 8 = .ok (.dup, 1) := by decide +kernel
theorem dX5_init_9 : decode cX5_init 9 = .ok (.invokespecial 11, 3) := by decide +kernel
theorem dX5_init_12 : decode cX5_init 12 = .ok (.putfield 12, 3) := by decide +kernel
theorem dX5_init_15 : decode cX5_init 15 = .ok (.aload_n 0, 1) := by decide +kernel
theorem dX5_init_16 : decode cX5_init 16 = .ok (.new 16, 3) := by decide +kernel
theorem dX5_init_19 : decode cX5_init 19 = .ok (.dup, 1) := by decide +kernel
theorem dX5_init_20 : decode cX5_init 20 = .ok (.aload_n 0, 1) := by decide +kernel
theorem dX5_init_21 : decode cX5_init 21 = .ok (.getfield 12, 3) := by decide +kernel
theorem dX5_init_24 : decode cX5_init 24 = .ok (.invokespecial 18, 3) := by decide +kernel
theorem dX5_init_27 : decode cX5_init 27 = .ok (.putfield 21, 3) := by decide +kernel
theorem dX5_init_30 : decode cX5_init 30 = .ok (.aload_n 0, 1) := by decide +kernel
theorem dX5_init_31 : decode cX5_init 31 = .ok (.new 25, 3) := by decide +kernel
theorem dX5_init_34 : decode cX5_init 34 = .ok (.dup, 1) := by decide +kernel
theorem dX5_init_35 : decode cX5_init 35 = .ok (.aload_n 0, 1) := by decide +kernel
theorem dX5_init_36 : decode cX5_init 36 = .ok (.getfield 12, 3) := by decide +kernel
theorem dX5_init_39 : decode cX5_init 39 = .ok (.invokespecial 27, 3) := by decide +kernel
theorem dX5_init_42 : decode cX5_init 42 = .ok (.putfield 28, 3) := by decide +kernel
theorem dX5_init_45 : decode cX5_init 45 = .ok (.aload_n 0, 1) := by decide +kernel
theorem dX5_init_46 : decode cX5_init 46 = .ok (.new 32, 3) := by decide +kernel
theorem dX5_init_49 : decode cX5_init 49 = .ok (.dup, 1) := by decide +kernel
theorem dX5_init_50 : decode cX5_init 50 = .ok (.invokespecial 34, 3) := by decide +kernel
theorem dX5_init_53 : decode cX5_init 53 = .ok (.putfield 35, 3) := by decide +kernel
theorem dX5_init_56 : decode cX5_init 56 = .ok (.aload_n 0, 1) := by decide +kernel
theorem dX5_init_57 : decode cX5_init 57 = .ok (.new 39, 3) := by decide +kernel
theorem dX5_init_60 : decode cX5_init 60 = .ok (.dup, 1) := by decide +kernel
theorem dX5_init_61 : decode cX5_init 61 = .ok (.invokespecial 41, 3) := by decide +kernel
theorem dX5_init_64 : decode cX5_init 64 = .ok (.putfield 42, 3) := by decide +kernel
theorem dX5_init_67 : decode cX5_init 67 = .ok (.aload_n 0, 1) := by decide +kernel
theorem dX5_init_68 : decode cX5_init 68 = .ok (.new 9, 3) := by decide +kernel
theorem dX5_init_71 : decode cX5_init 71 = .ok (.dup, 1) := by decide +kernel
theorem dX5_init_72 : decode cX5_init 72 = .ok (.invokespecial 11, 3) := by decide +kernel
theorem dX5_init_75 : decode cX5_init 75 = .ok (.putfield 46, 3) := by decide +kernel
theorem dX5_init_78 : decode cX5_init 78 = .ok (.aload_n 0, 1) := by decide +kernel
theorem dX5_init_79 : decode cX5_init 79 = .ok (.iconst 0, 1) := by decide +kernel
theorem dX5_init_80 : decode cX5_init 80 = .ok (.putfield 49, 3) := by decide +kernel
theorem dX5_init_83 : decode cX5_init 83 = .ok (.return_, 1) := by decide +kernel
set_option maxRecDepth 20000 in
theorem ggX5_plant_X5_isPlot : GoodIn wsX5_plant wsX5_isPlot := goodIn_r _ [7] (by decide +kernel) (by decide +kernel)
set_option maxRecDepth 20000 in
theorem gX5_plant_X5_isPlot : GoodIn wsX5_plant (va_wsS RX5 53 yX5_isPlot wsX5_isPlot) := goodIn_app (goodIn_of _ (by decide +kernel)) ggX5_plant_X5_isPlot
set_option maxRecDepth 20000 in
theorem ggX5_plant_X5_isCrop : GoodIn wsX5_plant wsX5_isCrop := goodIn_r _ [10] (by decide +kernel) (by decide +kernel)
set_option maxRecDepth 20000 in
theorem gX5_plant_X5_isCrop : GoodIn wsX5_plant (va_wsS RX5 57 yX5_isCrop wsX5_isCrop) := goodIn_app (goodIn_of _ (by decide +kernel)) ggX5_plant_X5_isCrop
set_option maxRecDepth 20000 in
theorem ggX5_plant_X5_isDigit : GoodIn wsX5_plant wsX5_isDigit := goodIn_r _ [13] (by decide +kernel) (by decide +kernel)
set_option maxRecDepth 20000 in
theorem gX5_plant_X5_isDigit : GoodIn wsX5_plant (va_wsS RX5 60 yX5_isDigit wsX5_isDigit) := goodIn_app (goodIn_of _ (by decide +kernel)) ggX5_plant_X5_isDigit
set_option maxRecDepth 20000 in
theorem ggX5_plant_X2_record : GoodIn wsX5_plant wsX2_record := goodIn_r _ [18, 19, 20, 21, 22, 23, 17, 24, 25, 26, 27, 28, 29, 30, 31, 32, 33, 34, 35, 36, 37, 38, 39, 40, 41, 42, 67, 68, 58, 59, 60, 61, 62, 63, 64, 65, 66] (by decide +kernel) (by decide +kernel)
set_option maxRecDepth 20000 in
theorem gX5_plant_X2_record : GoodIn wsX5_plant (wsV RX5 67 RX2 yX2_record wsX2_record) := goodIn_app (goodIn_of _ (by decide +kernel)) ggX5_plant_X2_record
set_option maxRecDepth 20000 in
theorem ggX5_plant_X1_putAmount : GoodIn wsX5_plant wsX1_putAmount := goodIn_r _ [46, 30, 47, 48, 49, 28, 50, 35, 39, 58, 59, 60, 61, 62, 63, 64, 65, 66] (by decide +kernel) (by decide +kernel)
set_option maxRecDepth 20000 in
theorem gX5_plant_X1_putAmount : GoodIn wsX5_plant (wsV RX5 70 RX1 yX1_putAmount wsX1_putAmount) := goodIn_app (goodIn_of _ (by decide +kernel)) ggX5_plant_X1_putAmount
theorem dX5_plant_0 : decode cX5_plant 0 = .ok (.iload_n 1, 1) := by decide +kernel
theorem dX5_plant_1 : decode cX5_plant 1 = .ok (.invokestatic 53, 3) := by decide +kernel
theorem dX5_plant_4 : decode cX5_plant 4 = .ok (.ifCond .eq 10, 3) := by decide +kernel
theorem dX5_plant_7 : decode cX5_plant 7 = .ok (.iload_n 2, 1) := by decide +kernel
theorem dX5_plant_8 : decode cX5_plant 8 = .ok (.invokestatic 57, 3) := by decide +kernel
theorem dX5_plant_11 : decode cX5_plant 11 = .ok (.ifCond .ne 5, 3) := by decide +kernel
theorem dX5_plant_14 : decode cX5_plant 14 = .ok (.iconst (-1), 1) := by decide +kernel
theorem dX5_plant_15 : decode cX5_plant 15 = .ok (.ireturn, 1) := by decide +kernel
theorem dX5_plant_16 : decode cX5_plant 16 = .ok (.iload_n 3, 1) := by decide +kernel
theorem dX5_plant_17 : decode cX5_plant 17 = .ok (.invokestatic 60, 3) := by decide +kernel
theorem dX5_plant_20 : decode cX5_plant 20 = .ok (.ifCond .ne 6, 3) := by decide +kernel
theorem dX5_plant_23 : decode cX5_plant 23 = .ok (.bipush (-2), 2) := by decide +kernel
theorem dX5_plant_25 : decode cX5_plant 25 = .ok (.ireturn, 1) := by decide +kernel
theorem dX5_plant_26 : decode cX5_plant 26 = .ok (.aload_n 0, 1) := by decide +kernel
theorem dX5_plant_27 : decode cX5_plant 27 = .ok (.getfield 12, 3) := by decide +kernel
theorem dX5_plant_30 : decode cX5_plant 30 = .ok (.getfield 63, 3) := by decide +kernel
theorem dX5_plant_33 : decode cX5_plant 33 = .ok (.iload_n 1, 1) := by decide +kernel
theorem dX5_plant_34 : decode cX5_plant 34 = .ok (.iconst 4, 1) := by decide +kernel
theorem dX5_plant_35 : decode cX5_plant 35 = .ok (.imul, 1) := by decide +kernel
theorem dX5_plant_36 : decode cX5_plant 36 = .ok (.iload_n 2, 1) := by decide +kernel
theorem dX5_plant_37 : decode cX5_plant 37 = .ok (.iadd, 1) := by decide +kernel
theorem dX5_plant_38 : decode cX5_plant 38 = .ok (.iaload, 1) := by decide +kernel
theorem dX5_plant_39 : decode cX5_plant 39 = .ok (.istore 4, 2) := by decide +kernel
theorem dX5_plant_41 : decode cX5_plant 41 = .ok (.iload 4, 2) := by decide +kernel
theorem dX5_plant_43 : decode cX5_plant 43 = .ok (.iload_n 3, 1) := by decide +kernel
theorem dX5_plant_44 : decode cX5_plant 44 = .ok (.if_icmp .ne 6, 3) := by decide +kernel
theorem dX5_plant_47 : decode cX5_plant 47 = .ok (.bipush (-5), 2) := by decide +kernel
theorem dX5_plant_49 : decode cX5_plant 49 = .ok (.ireturn, 1) := by decide +kernel
theorem dX5_plant_50 : decode cX5_plant 50 = .ok (.aload_n 0, 1) := by decide +kernel
theorem dX5_plant_51 : decode cX5_plant 51 = .ok (.getfield 42, 3) := by decide +kernel
theorem dX5_plant_54 : decode cX5_plant 54 = .ok (.aload_n 0, 1) := by decide +kernel
theorem dX5_plant_55 : decode cX5_plant 55 = .ok (.getfield 12, 3) := by decide +kernel
theorem dX5_plant_58 : decode cX5_plant 58 = .ok (.invokevirtual 67, 3) := by decide +kernel
theorem dX5_plant_61 : decode cX5_plant 61 = .ok (.aload_n 0, 1) := by decide +kernel
theorem dX5_plant_62 : decode cX5_plant 62 = .ok (.getfield 12, 3) := by decide +kernel
theorem dX5_plant_65 : decode cX5_plant 65 = .ok (.iload_n 1, 1) := by decide +kernel
theorem dX5_plant_66 : decode cX5_plant 66 = .ok (.iload_n 2, 1) := by decide +kernel
theorem dX5_plant_67 : decode cX5_plant 67 = .ok (.iload_n 3, 1) := by decide +kernel
theorem dX5_plant_68 : decode cX5_plant 68 = .ok (.invokevirtual 70, 3) := by decide +kernel
theorem dX5_plant_71 : decode cX5_plant 71 = .ok (.iload 4, 2) := by decide +kernel
theorem dX5_plant_73 : decode cX5_plant 73 = .ok (.ireturn, 1) := by decide +kernel
set_option maxRecDepth 20000 in
theorem ggX5_weigh_X5_isCousin : GoodIn wsX5_weigh wsX5_isCousin := goodIn_r _ [7] (by decide +kernel) (by decide +kernel)
set_option maxRecDepth 20000 in
theorem gX5_weigh_X5_isCousin : GoodIn wsX5_weigh (va_wsS RX5 74 yX5_isCousin wsX5_isCousin) := goodIn_app (goodIn_of _ (by decide +kernel)) ggX5_weigh_X5_isCousin
set_option maxRecDepth 20000 in
theorem ggX5_weigh_X5_isCrop : GoodIn wsX5_weigh wsX5_isCrop := goodIn_r _ [10] (by decide +kernel) (by decide +kernel)
set_option maxRecDepth 20000 in
theorem gX5_weigh_X5_isCrop : GoodIn wsX5_weigh (va_wsS RX5 57 yX5_isCrop wsX5_isCrop) := goodIn_app (goodIn_of _ (by decide +kernel)) ggX5_weigh_X5_isCrop
set_option maxRecDepth 20000 in
theorem ggX5_weigh_X5_isDigit : GoodIn wsX5_weigh wsX5_isDigit := goodIn_r _ [13] (by decide +kernel) (by decide +kernel)
set_option maxRecDepth 20000 in
theorem gX5_weigh_X5_isDigit : GoodIn wsX5_weigh (va_wsS RX5 60 yX5_isDigit wsX5_isDigit) := goodIn_app (goodIn_of _ (by decide +kernel)) ggX5_weigh_X5_isDigit
set_option maxRecDepth 20000 in
theorem ggX5_weigh_X2_record : GoodIn wsX5_weigh wsX2_record := goodIn_r _ [18, 19, 20, 21, 22, 23, 17, 24, 25, 26, 27, 28, 29, 30, 31, 32, 33, 34, 35, 36, 37, 38, 39, 40, 41, 42, 71, 72, 62, 63, 64, 65, 66, 67, 68, 69, 70] (by decide +kernel) (by decide +kernel)
set_option maxRecDepth 20000 in
theorem gX5_weigh_X2_record : GoodIn wsX5_weigh (wsV RX5 67 RX2 yX2_record wsX2_record) := goodIn_app (goodIn_of _ (by decide +kernel)) ggX5_weigh_X2_record
set_option maxRecDepth 20000 in
theorem ggX5_weigh_X1_putWeight : GoodIn wsX5_weigh wsX1_putWeight := goodIn_r _ [46, 35, 47, 48, 49, 28, 50, 51, 52, 53, 54, 30, 39, 62, 63, 64, 65, 66, 67, 68, 69, 70] (by decide +kernel) (by decide +kernel)
set_option maxRecDepth 20000 in
theorem gX5_weigh_X1_putWeight : GoodIn wsX5_weigh (wsV RX5 80 RX1 yX1_putWeight wsX1_putWeight) := goodIn_app (goodIn_of _ (by decide +kernel)) ggX5_weigh_X1_putWeight
theorem dX5_weigh_0 : decode cX5_weigh 0 = .ok (.iload_n 1, 1) := by decide +kernel
theorem dX5_weigh_1 : decode cX5_weigh 1 = .ok (.invokestatic 74, 3) := by decide +kernel
theorem dX5_weigh_4 : decode cX5_weigh 4 = .ok (.ifCond .eq 10, 3) := by decide +kernel
theorem dX5_weigh_7 : decode cX5_weigh 7 = .ok (.iload_n 2, 1) := by decide +kernel
theorem dX5_weigh_8 : decode cX5_weigh 8 = .ok (.invokestatic 57, 3) := by decide +kernel
theorem dX5_weigh_11 : decode cX5_weigh 11 = .ok (.ifCond .ne 5, 3) := by decide +kernel
theorem dX5_weigh_14 : decode cX5_weigh 14 = .ok (.iconst (-1), 1) := by decide +kernel
theorem dX5_weigh_15 : decode cX5_weigh 15 = .ok (.ireturn, 1) := by decide +kernel
theorem dX5_weigh_16 : decode cX5_weigh 16 = .ok (.iload_n 3, 1) := by decide +kernel
theorem dX5_weigh_17 : decode cX5_weigh 17 = .ok (.invokestatic 60, 3) := by decide +kernel
theorem dX5_weigh_20 : decode cX5_weigh 20 = .ok (.ifCond .ne 6, 3) := by decide +kernel
theorem dX5_weigh_23 : decode cX5_weigh 23 = .ok (.bipush (-2), 2) := by decide +kernel
theorem dX5_weigh_25 : decode cX5_weigh 25 = .ok (.ireturn, 1) := by decide +kernel
theorem dX5_weigh_26 : decode cX5_weigh 26 = .ok (.aload_n 0, 1) := by decide +kernel
theorem dX5_weigh_27 : decode cX5_weigh 27 = .ok (.getfield 12, 3) := by decide +kernel
theorem dX5_weigh_30 : decode cX5_weigh 30 = .ok (.getfield 77, 3) := by decide +kernel
theorem dX5_weigh_33 : decode cX5_weigh 33 = .ok (.iload_n 1, 1) := by decide +kernel
theorem dX5_weigh_34 : decode cX5_weigh 34 = .ok (.iconst 4, 1) := by decide +kernel
theorem dX5_weigh_35 : decode cX5_weigh 35 = .ok (.imul, 1) := by decide +kernel
theorem dX5_weigh_36 : decode cX5_weigh 36 = .ok (.iload_n 2, 1) := by decide +kernel
theorem dX5_weigh_37 : decode cX5_weigh 37 = .ok (.iadd, 1) := by decide +kernel
theorem dX5_weigh_38 : decode cX5_weigh 38 = .ok (.iaload, 1) := by decide +kernel
theorem dX5_weigh_39 : decode cX5_weigh 39 = .ok (.istore 4, 2) := by decide +kernel
theorem dX5_weigh_41 : decode cX5_weigh 41 = .ok (.iload 4, 2) := by decide +kernel
theorem dX5_weigh_43 : decode cX5_weigh 43 = .ok (.iload_n 3, 1) := by decide +kernel
theorem dX5_weigh_44 : decode cX5_weigh 44 = .ok (.if_icmp .ne 6, 3) := by decide +kernel
theorem dX5_weigh_47 : decode cX5_weigh 47 = .ok (.bipush (-5), 2) := by decide +kernel
theorem dX5_weigh_49 : decode cX5_weigh 49 = .ok (.ireturn, 1) := by decide +kernel
theorem dX5_weigh_50 : decode cX5_weigh 50 = .ok (.aload_n 0, 1) := by decide +kernel
theorem dX5_weigh_51 : decode cX5_weigh 51 = .ok (.getfield 42, 3) := by decide +kernel
theorem dX5_weigh_54 : decode cX5_weigh 54 = .ok (.aload_n 0, 1) := by decide +kernel
theorem dX5_weigh_55 : decode cX5_weigh 55 = .ok (.getfield 12, 3) := by decide +kernel
theorem dX5_weigh_58 : decode cX5_weigh 58 = .ok (.invokevirtual 67, 3) := by decide +kernel
theorem dX5_weigh_61 : decode cX5_weigh 61 = .ok (.aload_n 0, 1) := by decide +kernel
theorem dX5_weigh_62 : decode cX5_weigh 62 = .ok (.getfield 12, 3) := by decide +kernel
theorem dX5_weigh_65 : decode cX5_weigh 65 = .ok (.iload_n 1, 1) := by decide +kernel
theorem dX5_weigh_66 : decode cX5_weigh 66 = .ok (.iload_n 2, 1) := by decide +kernel
theorem dX5_weigh_67 : decode cX5_weigh 67 = .ok (.iload_n 3, 1) := by decide +kernel
theorem dX5_weigh_68 : decode cX5_weigh 68 = .ok (.invokevirtual 80, 3) := by decide +kernel
theorem dX5_weigh_71 : decode cX5_weigh 71 = .ok (.iload 4, 2) := by decide +kernel
theorem dX5_weigh_73 : decode cX5_weigh 73 = .ok (.ireturn, 1) := by decide +kernel
set_option maxRecDepth 20000 in
theorem ggX5_grudge_X5_isCousin : GoodIn wsX5_grudge wsX5_isCousin := goodIn_r _ [6] (by decide +kernel) (by decide +kernel)
set_option maxRecDepth 20000 in
theorem gX5_grudge_X5_isCousin : GoodIn wsX5_grudge (va_wsS RX5 74 yX5_isCousin wsX5_isCousin) := goodIn_app (goodIn_of _ (by decide +kernel)) ggX5_grudge_X5_isCousin
set_option maxRecDepth 20000 in
theorem ggX5_grudge_X5_isDigit : GoodIn wsX5_grudge wsX5_isDigit := goodIn_r _ [9] (by decide +kernel) (by decide +kernel)
set_option maxRecDepth 20000 in
theorem gX5_grudge_X5_isDigit : GoodIn wsX5_grudge (va_wsS RX5 60 yX5_isDigit wsX5_isDigit) := goodIn_app (goodIn_of _ (by decide +kernel)) ggX5_grudge_X5_isDigit
set_option maxRecDepth 20000 in
theorem ggX5_grudge_X1_grudgeOf : GoodIn wsX5_grudge wsX1_grudgeOf := goodIn_r _ [14, 15, 54, 55, 56, 57, 58, 59, 60, 61, 62] (by decide +kernel) (by decide +kernel)
set_option maxRecDepth 20000 in
theorem gX5_grudge_X1_grudgeOf : GoodIn wsX5_grudge (wsV RX5 83 RX1 yX1_grudgeOf wsX1_grudgeOf) := goodIn_app (goodIn_of _ (by decide +kernel)) ggX5_grudge_X1_grudgeOf
set_option maxRecDepth 20000 in
theorem ggX5_grudge_X2_record : GoodIn wsX5_grudge wsX2_record := goodIn_r _ [20, 21, 22, 23, 24, 25, 19, 26, 27, 28, 29, 13, 30, 31, 32, 33, 34, 35, 36, 15, 37, 38, 39, 40, 41, 42, 63, 64, 54, 55, 56, 57, 58, 59, 60, 61, 62] (by decide +kernel) (by decide +kernel)
set_option maxRecDepth 20000 in
theorem gX5_grudge_X2_record : GoodIn wsX5_grudge (wsV RX5 67 RX2 yX2_record wsX2_record) := goodIn_app (goodIn_of _ (by decide +kernel)) ggX5_grudge_X2_record
set_option maxRecDepth 20000 in
theorem ggX5_grudge_X1_putGrudge : GoodIn wsX5_grudge wsX1_putGrudge := goodIn_r _ [46, 15, 54, 55, 56, 57, 58, 59, 60, 61, 62] (by decide +kernel) (by decide +kernel)
set_option maxRecDepth 20000 in
theorem gX5_grudge_X1_putGrudge : GoodIn wsX5_grudge (wsV RX5 87 RX1 yX1_putGrudge wsX1_putGrudge) := goodIn_app (goodIn_of _ (by decide +kernel)) ggX5_grudge_X1_putGrudge
theorem dX5_grudge_0 : decode cX5_grudge 0 = .ok (.iload_n 1, 1) := by decide +kernel
theorem dX5_grudge_1 : decode cX5_grudge 1 = .ok (.invokestatic 74, 3) := by decide +kernel
theorem dX5_grudge_4 : decode cX5_grudge 4 = .ok (.ifCond .eq 10, 3) := by decide +kernel
theorem dX5_grudge_7 : decode cX5_grudge 7 = .ok (.iload_n 2, 1) := by decide +kernel
theorem dX5_grudge_8 : decode cX5_grudge 8 = .ok (.invokestatic 74, 3) := by decide +kernel
theorem dX5_grudge_11 : decode cX5_grudge 11 = .ok (.ifCond .ne 5, 3) := by decide +kernel
theorem dX5_grudge_14 : decode cX5_grudge 14 = .ok (.iconst (-1), 1) := by decide +kernel
theorem dX5_grudge_15 : decode cX5_grudge 15 = .ok (.ireturn, 1) := by decide +kernel
theorem dX5_grudge_16 : decode cX5_grudge 16 = .ok (.iload_n 1, 1) := by decide +kernel
theorem dX5_grudge_17 : decode cX5_grudge 17 = .ok (.iload_n 2, 1) := by decide +kernel
theorem dX5_grudge_18 : decode cX5_grudge 18 = .ok (.if_icmp .eq 10, 3) := by decide +kernel
theorem dX5_grudge_21 : decode cX5_grudge 21 = .ok (.iload_n 3, 1) := by decide +kernel
theorem dX5_grudge_22 : decode cX5_grudge 22 = .ok (.invokestatic 60, 3) := by decide +kernel
theorem dX5_grudge_25 : decode cX5_grudge 25 = .ok (.ifCond .ne 6, 3) := by decide +kernel
theorem dX5_grudge_28 : decode cX5_grudge 28 = .ok (.bipush (-2), 2) := by decide +kernel
theorem dX5_grudge_30 : decode cX5_grudge 30 = .ok (.ireturn, 1) := by decide +kernel
theorem dX5_grudge_31 : decode cX5_grudge 31 = .ok (.aload_n 0, 1) := by decide +kernel
theorem dX5_grudge_32 : decode cX5_grudge 32 = .ok (.getfield 12, 3) := by decide +kernel
theorem dX5_grudge_35 : decode cX5_grudge 35 = .ok (.iload_n 1, 1) := by decide +kernel
theorem dX5_grudge_36 : decode cX5_grudge 36 = .ok (.iload_n 2, 1) := by decide +kernel
theorem dX5_grudge_37 : decode cX5_grudge 37 = .ok (.invokevirtual 83, 3) := by decide +kernel
theorem dX5_grudge_40 : decode cX5_grudge 40 = .ok (.istore 4, 2) := by decide +kernel
theorem dX5_grudge_42 : decode cX5_grudge 42 = .ok (.iload 4, 2) := by decide +kernel
theorem dX5_grudge_44 : decode cX5_grudge 44 = .ok (.iload_n 3, 1) := by decide +kernel
theorem dX5_grudge_45 : decode cX5_grudge 45 = .ok (.if_icmp .ne 6, 3) := by decide +kernel
theorem dX5_grudge_48 : decode cX5_grudge 48 = .ok (.bipush (-5), 2) := by decide +kernel
theorem dX5_grudge_50 : decode cX5_grudge 50 = .ok (.ireturn, 1) := by decide +kernel
theorem dX5_grudge_51 : decode cX5_grudge 51 = .ok (.aload_n 0, 1) := by decide +kernel
theorem dX5_grudge_52 : decode cX5_grudge 52 = .ok (.getfield 42, 3) := by decide +kernel
theorem dX5_grudge_55 : decode cX5_grudge 55 = .ok (.aload_n 0, 1) := by decide +kernel
theorem dX5_grudge_56 : decode cX5_grudge 56 = .ok (.getfield 12, 3) := by decide +kernel
theorem dX5_grudge_59 : decode cX5_grudge 59 = .ok (.invokevirtual 67, 3) := by decide +kernel
theorem dX5_grudge_62 : decode cX5_grudge 62 = .ok (.aload_n 0, 1) := by decide +kernel
theorem dX5_grudge_63 : decode cX5_grudge 63 = .ok (.getfield 12, 3) := by decide +kernel
theorem dX5_grudge_66 : decode cX5_grudge 66 = .ok (.iload_n 1, 1) := by decide +kernel
theorem dX5_grudge_67 : decode cX5_grudge 67 = .ok (.iload_n 2, 1) := by decide +kernel
theorem dX5_grudge_68 : decode cX5_grudge 68 = .ok (.iload_n 3, 1) := by decide +kernel
theorem dX5_grudge_69 : decode cX5_grudge 69 = .ok (.invokevirtual 87, 3) := by decide +kernel
theorem dX5_grudge_72 : decode cX5_grudge 72 = .ok (.iload 4, 2) := by decide +kernel
theorem dX5_grudge_74 : decode cX5_grudge 74 = .ok (.ireturn, 1) := by decide +kernel
set_option maxRecDepth 20000 in
theorem ggX5_set_X5_isSettingValue : GoodIn wsX5_set wsX5_isSettingValue := goodIn_r _ [7] (by decide +kernel) (by decide +kernel)
set_option maxRecDepth 20000 in
theorem gX5_set_X5_isSettingValue : GoodIn wsX5_set (va_wsS RX5 90 yX5_isSettingValue wsX5_isSettingValue) := goodIn_app (goodIn_of _ (by decide +kernel)) ggX5_set_X5_isSettingValue
set_option maxRecDepth 20000 in
theorem ggX5_set_X2_record : GoodIn wsX5_set wsX2_record := goodIn_r _ [12, 13, 14, 15, 16, 17, 11, 18, 19, 20, 21, 22, 23, 24, 25, 26, 27, 28, 29, 30, 31, 32, 33, 34, 35, 36, 53, 54, 44, 45, 46, 47, 48, 49, 50, 51, 52] (by decide +kernel) (by decide +kernel)
set_option maxRecDepth 20000 in
theorem gX5_set_X2_record : GoodIn wsX5_set (wsV RX5 67 RX2 yX2_record wsX2_record) := goodIn_app (goodIn_of _ (by decide +kernel)) ggX5_set_X2_record
theorem dX5_set_0 : decode cX5_set 0 = .ok (.iload_n 1, 1) := by decide +kernel
theorem dX5_set_1 : decode cX5_set 1 = .ok (.ifCond .lt 8, 3) := by decide +kernel
theorem dX5_set_4 : decode cX5_set 4 = .ok (.iload_n 1, 1) := by decide +kernel
theorem dX5_set_5 : decode cX5_set 5 = .ok (.iconst 2, 1) := by decide +kernel
theorem dX5_set_6 : decode cX5_set 6 = .ok (.if_icmp .lt 5, 3) := by decide +kernel
theorem dX5_set_9 : decode cX5_set 9 = .ok (.iconst (-1), 1) := by decide +kernel
theorem dX5_set_10 : decode cX5_set 10 = .ok (.ireturn, 1) := by decide +kernel
theorem dX5_set_11 : decode cX5_set 11 = .ok (.iload_n 1, 1) := by decide +kernel
theorem dX5_set_12 : decode cX5_set 12 = .ok (.iload_n 2, 1) := by decide +kernel
theorem dX5_set_13 : decode cX5_set 13 = .ok (.invokestatic 90, 3) := by decide +kernel
theorem dX5_set_16 : decode cX5_set 16 = .ok (.ifCond .ne 6, 3) := by decide +kernel
theorem dX5_set_19 : decode cX5_set 19 = .ok (.bipush (-2), 2) := by decide +kernel
theorem dX5_set_21 : decode cX5_set 21 = .ok (.ireturn, 1) := by decide +kernel
theorem dX5_set_22 : decode cX5_set 22 = .ok (.aload_n 0, 1) := by decide +kernel
theorem dX5_set_23 : decode cX5_set 23 = .ok (.getfield 12, 3) := by decide +kernel
theorem dX5_set_26 : decode cX5_set 26 = .ok (.getfield 94, 3) := by decide +kernel
theorem dX5_set_29 : decode cX5_set 29 = .ok (.iload_n 1, 1) := by decide +kernel
theorem dX5_set_30 : decode cX5_set 30 = .ok (.iaload, 1) := by decide +kernel
theorem dX5_set_31 : decode cX5_set 31 = .ok (.istore_n 3, 1) := by decide +kernel
theorem dX5_set_32 : decode cX5_set 32 = .ok (.iload_n 3, 1) := by decide +kernel
theorem dX5_set_33 : decode cX5_set 33 = .ok (.iload_n 2, 1) := by decide +kernel
theorem dX5_set_34 : decode cX5_set 34 = .ok (.if_icmp .ne 6, 3) := by decide +kernel
theorem dX5_set_37 : decode cX5_set 37 = .ok (.bipush (-5), 2) := by decide +kernel
theorem dX5_set_39 : decode cX5_set 39 = .ok (.ireturn, 1) := by decide +kernel
theorem dX5_set_40 : decode cX5_set 40 = .ok (.aload_n 0, 1) := by decide +kernel
theorem dX5_set_41 : decode cX5_set 41 = .ok (.getfield 42, 3) := by decide +kernel
theorem dX5_set_44 : decode cX5_set 44 = .ok (.aload_n 0, 1) := by decide +kernel
theorem dX5_set_45 : decode cX5_set 45 = .ok (.getfield 12, 3) := by decide +kernel
theorem dX5_set_48 : decode cX5_set 48 = .ok (.invokevirtual 67, 3) := by decide +kernel
theorem dX5_set_51 : decode cX5_set 51 = .ok (.aload_n 0, 1) := by decide +kernel
theorem dX5_set_52 : decode cX5_set 52 = .ok (.getfield 12, 3) := by decide +kernel
theorem dX5_set_55 : decode cX5_set 55 = .ok (.getfield 94, 3) := by decide +kernel
theorem dX5_set_58 : decode cX5_set 58 = .ok (.iload_n 1, 1) := by decide +kernel
theorem dX5_set_59 : decode cX5_set 59 = .ok (.iload_n 2, 1) := by decide +kernel
theorem dX5_set_60 : decode cX5_set 60 = .ok (.iastore, 1) := by decide +kernel
theorem dX5_set_61 : decode cX5_set 61 = .ok (.iload_n 3, 1) := by decide +kernel
theorem dX5_set_62 : decode cX5_set 62 = .ok (.ireturn, 1) := by decide +kernel
set_option maxRecDepth 20000 in
theorem ggX5_divide_X5_isParty : GoodIn wsX5_divide wsX5_isParty := goodIn_r _ [8] (by decide +kernel) (by decide +kernel)
set_option maxRecDepth 20000 in
theorem gX5_divide_X5_isParty : GoodIn wsX5_divide (va_wsS RX5 97 yX5_isParty wsX5_isParty) := goodIn_app (goodIn_of _ (by decide +kernel)) ggX5_divide_X5_isParty
set_option maxRecDepth 20000 in
theorem ggX5_divide_X2_record : GoodIn wsX5_divide wsX2_record := goodIn_r _ [13, 14, 15, 16, 17, 18, 12, 19, 20, 21, 22, 23, 24, 25, 26, 27, 28, 29, 30, 31, 32, 33, 34, 35, 36, 37, 136, 137, 138, 139, 140, 141, 142, 143, 144, 145, 146] (by decide +kernel) (by decide +kernel)
set_option maxRecDepth 20000 in
theorem gX5_divide_X2_record : GoodIn wsX5_divide (wsV RX5 67 RX2 yX2_record wsX2_record) := goodIn_app (goodIn_of _ (by decide +kernel)) ggX5_divide_X2_record
set_option maxRecDepth 20000 in
theorem ggX5_divide_X5_divideNow : GoodIn wsX5_divide wsX5_divideNow := goodIn_r _ [41, 3, 42, 2, 43, 44, 27, 28, 29, 45, 4, 46, 47, 48, 49, 50, 51, 52, 53, 54, 55, 56, 57, 58, 59, 60, 61, 62, 63, 64, 65, 66, 23, 67, 33, 68, 69, 70, 71, 31, 72, 73, 74, 75, 76, 77, 78, 79, 80, 81, 82, 83, 7, 84, 85, 86, 87, 88, 89, 90, 91, 92, 34, 93, 94, 95, 96, 97, 98, 99, 100, 101, 102, 103, 104, 105, 106, 107, 108, 109, 110, 111, 112, 113, 114, 115, 116, 117, 118, 119, 120, 121, 122, 123, 124, 125, 126, 127, 128, 129, 130, 131, 132, 133, 134, 135, 138, 139, 140, 141, 142, 143, 144, 145, 146] (by decide +kernel) (by decide +kernel)
set_option maxRecDepth 20000 in
theorem gX5_divide_X5_divideNow : GoodIn wsX5_divide (wsV RX5 100 RX5 yX5_divideNow wsX5_divideNow) := goodIn_app (goodIn_of _ (by decide +kernel)) ggX5_divide_X5_divideNow
theorem dX5_divide_0 : decode cX5_divide 0 = .ok (.iload_n 1, 1) := by decide +kernel
theorem dX5_divide_1 : decode cX5_divide 1 = .ok (.invokestatic 97, 3) := by decide +kernel
theorem dX5_divide_4 : decode cX5_divide 4 = .ok (.ifCond .ne 6, 3) := by decide +kernel
theorem dX5_divide_7 : decode cX5_divide 7 = .ok (.bipush (-2), 2) := by decide +kernel
theorem dX5_divide_9 : decode cX5_divide 9 = .ok (.ireturn, 1) := by decide +kernel
theorem dX5_divide_10 : decode cX5_divide 10 = .ok (.aload_n 0, 1) := by decide +kernel
theorem dX5_divide_11 : decode cX5_divide 11 = .ok (.getfield 42, 3) := by decide +kernel
theorem dX5_divide_14 : decode cX5_divide 14 = .ok (.aload_n 0, 1) := by decide +kernel
theorem dX5_divide_15 : decode cX5_divide 15 = .ok (.getfield 12, 3) := by decide +kernel
theorem dX5_divide_18 : decode cX5_divide 18 = .ok (.invokevirtual 67, 3) := by decide +kernel
theorem dX5_divide_21 : decode cX5_divide 21 = .ok (.aload_n 0, 1) := by decide +kernel
theorem dX5_divide_22 : decode cX5_divide 22 = .ok (.iload_n 1, 1) := by decide +kernel
theorem dX5_divide_23 : decode cX5_divide 23 = .ok (.invokevirtual 100, 3) := by decide +kernel
theorem dX5_divide_26 : decode cX5_divide 26 = .ok (.aload_n 0, 1) := by decide +kernel
theorem dX5_divide_27 : decode cX5_divide 27 = .ok (.getfield 21, 3) := by decide +kernel
theorem dX5_divide_30 : decode cX5_divide 30 = .ok (.getfield 104, 3) := by decide +kernel
theorem dX5_divide_33 : decode cX5_divide 33 = .ok (.ireturn, 1) := by decide +kernel
set_option maxRecDepth 20000 in
theorem ggX5_give_X5_isPlot : GoodIn wsX5_give wsX5_isPlot := goodIn_r _ [7] (by decide +kernel) (by decide +kernel)
set_option maxRecDepth 20000 in
theorem gX5_give_X5_isPlot : GoodIn wsX5_give (va_wsS RX5 53 yX5_isPlot wsX5_isPlot) := goodIn_app (goodIn_of _ (by decide +kernel)) ggX5_give_X5_isPlot
set_option maxRecDepth 20000 in
theorem ggX5_give_X5_isCousin : GoodIn wsX5_give wsX5_isCousin := goodIn_r _ [10] (by decide +kernel) (by decide +kernel)
set_option maxRecDepth 20000 in
theorem gX5_give_X5_isCousin : GoodIn wsX5_give (va_wsS RX5 74 yX5_isCousin wsX5_isCousin) := goodIn_app (goodIn_of _ (by decide +kernel)) ggX5_give_X5_isCousin
set_option maxRecDepth 20000 in
theorem ggX5_give_X2_record : GoodIn wsX5_give wsX2_record := goodIn_r _ [15, 16, 17, 18, 19, 20, 14, 21, 22, 23, 24, 25, 26, 27, 28, 29, 30, 31, 32, 33, 34, 35, 36, 37, 38, 39, 56, 57, 47, 48, 49, 50, 51, 52, 53, 54, 55] (by decide +kernel) (by decide +kernel)
set_option maxRecDepth 20000 in
theorem gX5_give_X2_record : GoodIn wsX5_give (wsV RX5 67 RX2 yX2_record wsX2_record) := goodIn_app (goodIn_of _ (by decide +kernel)) ggX5_give_X2_record
theorem dX5_give_0 : decode cX5_give 0 = .ok (.iload_n 1, 1) := by decide +kernel
theorem dX5_give_1 : decode cX5_give 1 = .ok (.invokestatic 53, 3) := by decide +kernel
theorem dX5_give_4 : decode cX5_give 4 = .ok (.ifCond .eq 16, 3) := by decide +kernel
theorem dX5_give_7 : decode cX5_give 7 = .ok (.iload_n 2, 1) := by decide +kernel
theorem dX5_give_8 : decode cX5_give 8 = .ok (.invokestatic 74, 3) := by decide +kernel
theorem dX5_give_11 : decode cX5_give 11 = .ok (.ifCond .ne 11, 3) := by decide +kernel
theorem dX5_give_14 : decode cX5_give 14 = .ok (.iload_n 2, 1) := by decide +kernel
theorem dX5_give_15 : decode cX5_give 15 = .ok (.bipush 7, 2) := by decide +kernel
theorem dX5_give_17 : decode cX5_give 17 = .ok (.if_icmp .eq 5, 3) := by decide +kernel
theorem dX5_give_20 : decode cX5_give 20 = .ok (.iconst (-1), 1) := by decide +kernel
theorem dX5_give_21 : decode cX5_give 21 = .ok (.ireturn, 1) := by decide +kernel
theorem dX5_give_22 : decode cX5_give 22 = .ok (.aload_n 0, 1) := by decide +kernel
theorem dX5_give_23 : decode cX5_give 23 = .ok (.getfield 12, 3) := by decide +kernel
theorem dX5_give_26 : decode cX5_give 26 = .ok (.getfield 108, 3) := by decide +kernel
theorem dX5_give_29 : decode cX5_give 29 = .ok (.iload_n 1, 1) := by decide +kernel
theorem dX5_give_30 : decode cX5_give 30 = .ok (.iaload, 1) := by decide +kernel
theorem dX5_give_31 : decode cX5_give 31 = .ok (.istore_n 3, 1) := by decide +kernel
theorem dX5_give_32 : decode cX5_give 32 = .ok (.iload_n 3, 1) := by decide +kernel
theorem dX5_give_33 : decode cX5_give 33 = .ok (.iload_n 2, 1) := by decide +kernel
theorem dX5_give_34 : decode cX5_give 34 = .ok (.if_icmp .ne 6, 3) := by decide +kernel
theorem dX5_give_37 : decode cX5_give 37 = .ok (.bipush (-5), 2) := by decide +kernel
theorem dX5_give_39 : decode cX5_give 39 = .ok (.ireturn, 1) := by decide +kernel
theorem dX5_give_40 : decode cX5_give 40 = .ok (.aload_n 0, 1) := by decide +kernel
theorem dX5_give_41 : decode cX5_give 41 = .ok (.getfield 42, 3) := by decide +kernel
theorem dX5_give_44 : decode cX5_give 44 = .ok (.aload_n 0, 1) := by decide +kernel
theorem dX5_give_45 : decode cX5_give 45 = .ok (.getfield 12, 3) := by decide +kernel
theorem dX5_give_48 : decode cX5_give 48 = .ok (.invokevirtual 67, 3) := by decide +kernel
theorem dX5_give_51 : decode cX5_give 51 = .ok (.aload_n 0, 1) := by decide +kernel
theorem dX5_give_52 : decode cX5_give 52 = .ok (.getfield 12, 3) := by decide +kernel
theorem dX5_give_55 : decode cX5_give 55 = .ok (.getfield 108, 3) := by decide +kernel
theorem dX5_give_58 : decode cX5_give 58 = .ok (.iload_n 1, 1) := by decide +kernel
theorem dX5_give_59 : decode cX5_give 59 = .ok (.iload_n 2, 1) := by decide +kernel
theorem dX5_give_60 : decode cX5_give 60 = .ok (.iastore, 1) := by decide +kernel
theorem dX5_give_61 : decode cX5_give 61 = .ok (.iload_n 3, 1) := by decide +kernel
theorem dX5_give_62 : decode cX5_give 62 = .ok (.ireturn, 1) := by decide +kernel
set_option maxRecDepth 20000 in
theorem ggX5_trade_X5_isCousin : GoodIn wsX5_trade wsX5_isCousin := goodIn_r _ [8] (by decide +kernel) (by decide +kernel)
set_option maxRecDepth 20000 in
theorem gX5_trade_X5_isCousin : GoodIn wsX5_trade (va_wsS RX5 74 yX5_isCousin wsX5_isCousin) := goodIn_app (goodIn_of _ (by decide +kernel)) ggX5_trade_X5_isCousin
set_option maxRecDepth 20000 in
theorem ggX5_trade_X4_measure : GoodIn wsX5_trade wsX4_measure := goodIn_r _ [13, 14, 15, 6, 7, 8, 16, 17, 18, 19, 20, 21, 114, 115, 116, 117, 118, 105, 106, 107, 108, 109, 110, 111, 112, 113] (by decide +kernel) (by decide +kernel)
set_option maxRecDepth 20000 in
theorem gX5_trade_X4_measure : GoodIn wsX5_trade (wsV RX5 111 RX4 yX4_measure wsX4_measure) := goodIn_app (goodIn_of _ (by decide +kernel)) ggX5_trade_X4_measure
set_option maxRecDepth 20000 in
theorem ggX5_trade_X4_whyNoTrade : GoodIn wsX5_trade wsX4_whyNoTrade := goodIn_r _ [25, 15, 26, 27, 28, 29, 19, 30, 31, 32, 33, 34, 12, 35, 14, 114, 115, 116, 117, 118, 105, 106, 107, 108, 109, 110, 111, 112, 113] (by decide +kernel) (by decide +kernel)
set_option maxRecDepth 20000 in
theorem gX5_trade_X4_whyNoTrade : GoodIn wsX5_trade (wsV RX5 115 RX4 yX4_whyNoTrade wsX4_whyNoTrade) := goodIn_app (goodIn_of _ (by decide +kernel)) ggX5_trade_X4_whyNoTrade
set_option maxRecDepth 20000 in
theorem ggX5_trade_X2_record : GoodIn wsX5_trade wsX2_record := goodIn_r _ [40, 41, 42, 43, 44, 45, 39, 46, 47, 48, 49, 19, 50, 51, 52, 53, 54, 55, 56, 31, 57, 58, 21, 59, 60, 61, 119, 120, 105, 106, 107, 108, 109, 110, 111, 112, 113] (by decide +kernel) (by decide +kernel)
set_option maxRecDepth 20000 in
theorem gX5_trade_X2_record : GoodIn wsX5_trade (wsV RX5 67 RX2 yX2_record wsX2_record) := goodIn_app (goodIn_of _ (by decide +kernel)) ggX5_trade_X2_record
set_option maxRecDepth 20000 in
theorem ggX5_trade_X5_tradeNow : GoodIn wsX5_trade wsX5_tradeNow := goodIn_r _ [65, 2, 66, 1, 67, 68, 69, 19, 70, 57, 71, 72, 73, 12, 74, 14, 98, 99, 100, 101, 102, 103, 104, 105, 106, 107, 108, 109, 110, 111, 112, 113, 114, 115, 116, 117, 118] (by decide +kernel) (by decide +kernel)
set_option maxRecDepth 20000 in
theorem gX5_trade_X5_tradeNow : GoodIn wsX5_trade (wsV RX5 118 RX5 yX5_tradeNow wsX5_tradeNow) := goodIn_app (goodIn_of _ (by decide +kernel)) ggX5_trade_X5_tradeNow
set_option maxRecDepth 20000 in
theorem ggX5_trade_X4_enviesAmong : GoodIn wsX5_trade wsX4_enviesAmong := goodIn_r _ [78, 79, 7, 80, 81, 82, 83, 12, 84, 85, 86, 87, 88, 89, 90, 91, 92, 93, 94, 95, 96, 14, 15, 97, 32, 33, 34, 35, 114, 115, 116, 117, 118, 105, 106, 107, 108, 109, 110, 111, 112, 113] (by decide +kernel) (by decide +kernel)
set_option maxRecDepth 20000 in
theorem gX5_trade_X4_enviesAmong : GoodIn wsX5_trade (wsV RX5 122 RX4 yX4_enviesAmong wsX4_enviesAmong) := goodIn_app (goodIn_of _ (by decide +kernel)) ggX5_trade_X4_enviesAmong
theorem dX5_trade_0 : decode cX5_trade 0 = .ok (.iload_n 1, 1) := by decide +kernel
theorem dX5_trade_1 : decode cX5_trade 1 = .ok (.invokestatic 74, 3) := by decide +kernel
theorem dX5_trade_4 : decode cX5_trade 4 = .ok (.ifCond .eq 10, 3) := by decide +kernel
theorem dX5_trade_7 : decode cX5_trade 7 = .ok (.iload_n 2, 1) := by decide +kernel
theorem dX5_trade_8 : decode cX5_trade 8 = .ok (.invokestatic 74, 3) := by decide +kernel
theorem dX5_trade_11 : decode cX5_trade 11 = .ok (.ifCond .ne 5, 3) := by decide +kernel
theorem dX5_trade_14 : decode cX5_trade 14 = .ok (.iconst (-1), 1) := by decide +kernel
theorem dX5_trade_15 : decode cX5_trade 15 = .ok (.ireturn, 1) := by decide +kernel
theorem dX5_trade_16 : decode cX5_trade 16 = .ok (.iload_n 1, 1) := by decide +kernel
theorem dX5_trade_17 : decode cX5_trade 17 = .ok (.iload_n 2, 1) := by decide +kernel
theorem dX5_trade_18 : decode cX5_trade 18 = .ok (.if_icmp .ne 6, 3) := by decide +kernel
theorem dX5_trade_21 : decode cX5_trade 21 = .ok (.bipush (-2), 2) := by decide +kernel
theorem dX5_trade_23 : decode cX5_trade 23 = .ok (.ireturn, 1) := by decide +kernel
theorem dX5_trade_24 : decode cX5_trade 24 = .ok (.aload_n 0, 1) := by decide +kernel
theorem dX5_trade_25 : decode cX5_trade 25 = .ok (.getfield 28, 3) := by decide +kernel
theorem dX5_trade_28 : decode cX5_trade 28 = .ok (.aload_n 0, 1) := by decide +kernel
theorem dX5_trade_29 : decode cX5_trade 29 = .ok (.getfield 12, 3) := by decide +kernel
theorem dX5_trade_32 : decode cX5_trade 32 = .ok (.getfield 108, 3) := by decide +kernel
theorem dX5_trade_35 : decode cX5_trade 35 = .ok (.invokevirtual 111, 3) := by decide +kernel
theorem dX5_trade_38 : decode cX5_trade 38 = .ok (.aload_n 0, 1) := by decide +kernel
theorem dX5_trade_39 : decode cX5_trade 39 = .ok (.getfield 28, 3) := by decide +kernel
theorem dX5_trade_42 : decode cX5_trade 42 = .ok (.iload_n 1, 1) := by decide +kernel
theorem dX5_trade_43 : decode cX5_trade 43 = .ok (.iload_n 2, 1) := by decide +kernel
theorem dX5_trade_44 : decode cX5_trade 44 = .ok (.invokevirtual 115, 3) := by decide +kernel
theorem dX5_trade_47 : decode cX5_trade 47 = .ok (.istore_n 3, 1) := by decide +kernel
theorem dX5_trade_48 : decode cX5_trade 48 = .ok (.iload_n 3, 1) := by decide +kernel
theorem dX5_trade_49 : decode cX5_trade 49 = .ok (.ifCond .eq 8, 3) := by decide +kernel
theorem dX5_trade_52 : decode cX5_trade 52 = .ok (.bipush (-10), 2) := by decide +kernel
theorem dX5_trade_54 : decode cX5_trade 54 = .ok (.iload_n 3, 1) := by decide +kernel
theorem dX5_trade_55 : decode cX5_trade 55 = .ok (.isub, 1) := by decide +kernel
theorem dX5_trade_56 : decode cX5_trade 56 = .ok (.ireturn, 1) := by decide +kernel
theorem dX5_trade_57 : decode cX5_trade 57 = .ok (.aload_n 0, 1) := by decide +kernel
theorem dX5_trade_58 : decode cX5_trade 58 = .ok (.getfield 42, 3) := by decide +kernel
theorem dX5_trade_61 : decode cX5_trade 61 = .ok (.aload_n 0, 1) := by decide +kernel
theorem dX5_trade_62 : decode cX5_trade 62 = .ok (.getfield 12, 3) := by decide +kernel
theorem dX5_trade_65 : decode cX5_trade 65 = .ok (.invokevirtual 67, 3) := by decide +kernel
theorem dX5_trade_68 : decode cX5_trade 68 = .ok (.aload_n 0, 1) := by decide +kernel
theorem dX5_trade_69 : decode cX5_trade 69 = .ok (.iload_n 1, 1) := by decide +kernel
theorem dX5_trade_70 : decode cX5_trade 70 = .ok (.iload_n 2, 1) := by decide +kernel
theorem dX5_trade_71 : decode cX5_trade 71 = .ok (.invokevirtual 118, 3) := by decide +kernel
theorem dX5_trade_74 : decode cX5_trade 74 = .ok (.aload_n 0, 1) := by decide +kernel
theorem dX5_trade_75 : decode cX5_trade 75 = .ok (.getfield 28, 3) := by decide +kernel
theorem dX5_trade_78 : decode cX5_trade 78 = .ok (.bipush 127, 2) := by decide +kernel
theorem dX5_trade_80 : decode cX5_trade 80 = .ok (.invokevirtual 122, 3) := by decide +kernel
theorem dX5_trade_83 : decode cX5_trade 83 = .ok (.ireturn, 1) := by decide +kernel
set_option maxRecDepth 20000 in
theorem ggX5_settle_X4_measure : GoodIn wsX5_settle wsX4_measure := goodIn_r _ [11, 12, 13, 14, 15, 16, 17, 18, 19, 20, 21, 22, 127, 128, 129, 130, 131, 118, 119, 120, 121, 122, 123, 124, 125, 126] (by decide +kernel) (by decide +kernel)
set_option maxRecDepth 20000 in
theorem gX5_settle_X4_measure : GoodIn wsX5_settle (wsV RX5 111 RX4 yX4_measure wsX4_measure) := goodIn_app (goodIn_of _ (by decide +kernel)) ggX5_settle_X4_measure
set_option maxRecDepth 20000 in
theorem ggX5_settle_X4_findBestTrade : GoodIn wsX5_settle wsX4_findBestTrade := goodIn_r _ [26, 27, 28, 29, 30, 31, 32, 10, 33, 13, 34, 35, 36, 37, 20, 38, 39, 40, 41, 42, 43, 12, 44, 45, 46, 47, 48, 49, 50, 51, 52, 53, 54, 55, 56, 15, 57, 58, 59, 60, 61, 62, 63, 64, 65, 66, 67, 68, 69, 70, 71, 72, 73, 74, 127, 128, 129, 130, 131, 118, 119, 120, 121, 122, 123, 124, 125, 126] (by decide +kernel) (by decide +kernel)
set_option maxRecDepth 20000 in
theorem gX5_settle_X4_findBestTrade : GoodIn wsX5_settle (wsV RX5 126 RX4 yX4_findBestTrade wsX4_findBestTrade) := goodIn_app (goodIn_of _ (by decide +kernel)) ggX5_settle_X4_findBestTrade
set_option maxRecDepth 20000 in
theorem ggX5_settle_X2_record : GoodIn wsX5_settle wsX2_record := goodIn_r _ [79, 80, 81, 82, 83, 84, 78, 85, 86, 87, 88, 20, 89, 90, 91, 92, 93, 94, 95, 39, 96, 97, 22, 98, 99, 100, 132, 133, 118, 119, 120, 121, 122, 123, 124, 125, 126] (by decide +kernel) (by decide +kernel)
set_option maxRecDepth 20000 in
theorem gX5_settle_X2_record : GoodIn wsX5_settle (wsV RX5 67 RX2 yX2_record wsX2_record) := goodIn_app (goodIn_of _ (by decide +kernel)) ggX5_settle_X2_record
set_option maxRecDepth 20000 in
theorem ggX5_settle_X5_tradeNow : GoodIn wsX5_settle wsX5_tradeNow := goodIn_r _ [104, 2, 105, 1, 106, 107, 108, 20, 109, 96, 110, 49, 50, 10, 51, 12, 111, 112, 113, 114, 115, 116, 117, 118, 119, 120, 121, 122, 123, 124, 125, 126, 127, 128, 129, 130, 131] (by decide +kernel) (by decide +kernel)
set_option maxRecDepth 20000 in
theorem gX5_settle_X5_tradeNow : GoodIn wsX5_settle (wsV RX5 118 RX5 yX5_tradeNow wsX5_tradeNow) := goodIn_app (goodIn_of _ (by decide +kernel)) ggX5_settle_X5_tradeNow
theorem dX5_settle_0 : decode cX5_settle 0 = .ok (.aload_n 0, 1) := by decide +kernel
theorem dX5_settle_1 : decode cX5_settle 1 = .ok (.getfield 28, 3) := by decide +kernel
theorem dX5_settle_4 : decode cX5_settle 4 = .ok (.aload_n 0, 1) := by decide +kernel
theorem dX5_settle_5 : decode cX5_settle 5 = .ok (.getfield 12, 3) := by decide +kernel
theorem dX5_settle_8 : decode cX5_settle 8 = .ok (.getfield 108, 3) := by decide +kernel
theorem dX5_settle_11 : decode cX5_settle 11 = .ok (.invokevirtual 111, 3) := by decide +kernel
theorem dX5_settle_14 : decode cX5_settle 14 = .ok (.aload_n 0, 1) := by decide +kernel
theorem dX5_settle_15 : decode cX5_settle 15 = .ok (.getfield 28, 3) := by decide +kernel
theorem dX5_settle_18 : decode cX5_settle 18 = .ok (.invokevirtual 126, 3) := by decide +kernel
theorem dX5_settle_21 : decode cX5_settle 21 = .ok (.ifCond .ne 6, 3) := by decide +kernel
theorem dX5_settle_24 : decode cX5_settle 24 = .ok (.bipush (-5), 2) := by decide +kernel
theorem dX5_settle_26 : decode cX5_settle 26 = .ok (.ireturn, 1) := by decide +kernel
theorem dX5_settle_27 : decode cX5_settle 27 = .ok (.aload_n 0, 1) := by decide +kernel
theorem dX5_settle_28 : decode cX5_settle 28 = .ok (.getfield 42, 3) := by decide +kernel
theorem dX5_settle_31 : decode cX5_settle 31 = .ok (.aload_n 0, 1) := by decide +kernel
theorem dX5_settle_32 : decode cX5_settle 32 = .ok (.getfield 12, 3) := by decide +kernel
theorem dX5_settle_35 : decode cX5_settle 35 = .ok (.invokevirtual 67, 3) := by decide +kernel
theorem dX5_settle_38 : decode cX5_settle 38 = .ok (.iconst 0, 1) := by decide +kernel
theorem dX5_settle_39 : decode cX5_settle 39 = .ok (.istore_n 1, 1) := by decide +kernel
theorem dX5_settle_40 : decode cX5_settle 40 = .ok (.aload_n 0, 1) := by decide +kernel
theorem dX5_settle_41 : decode cX5_settle 41 = .ok (.aload_n 0, 1) := by decide +kernel
theorem dX5_settle_42 : decode cX5_settle 42 = .ok (.getfield 28, 3) := by decide +kernel
theorem dX5_settle_45 : decode cX5_settle 45 = .ok (.getfield 130, 3) := by decide +kernel
theorem dX5_settle_48 : decode cX5_settle 48 = .ok (.aload_n 0, 1) := by decide +kernel
theorem dX5_settle_49 : decode cX5_settle 49 = .ok (.getfield 28, 3) := by decide +kernel
theorem dX5_settle_52 : decode cX5_settle 52 = .ok (.getfield 133, 3) := by decide +kernel
theorem dX5_settle_55 : decode cX5_settle 55 = .ok (.invokevirtual 118, 3) := by decide +kernel
theorem dX5_settle_58 : decode cX5_settle 58 = .ok (.iinc 1 1, 3) := by decide +kernel
theorem dX5_settle_61 : decode cX5_settle 61 = .ok (.iload_n 1, 1) := by decide +kernel
theorem dX5_settle_62 : decode cX5_settle 62 = .ok (.bipush 21, 2) := by decide +kernel
theorem dX5_settle_64 : decode cX5_settle 64 = .ok (.if_icmp .ge 13, 3) := by decide +kernel
theorem dX5_settle_67 : decode cX5_settle 67 = .ok (.aload_n 0, 1) := by decide +kernel
theorem dX5_settle_68 : decode cX5_settle 68 = .ok (.getfield 28, 3) := by decide +kernel
theorem dX5_settle_71 : decode cX5_settle 71 = .ok (.invokevirtual 126, 3) := by decide +kernel
theorem dX5_settle_74 : decode cX5_settle 74 = .ok (.ifCond .ne (-34), 3) := by decide +kernel
theorem dX5_settle_77 : decode cX5_settle 77 = .ok (.iload_n 1, 1) := by decide +kernel
theorem dX5_settle_78 : decode cX5_settle 78 = .ok (.ireturn, 1) := by decide +kernel
set_option maxRecDepth 20000 in
theorem ggX5_type_X3_append : GoodIn wsX5_type wsX3_append := goodIn_r _ [7, 8, 9, 17, 18, 19, 20, 21, 22, 23, 24] (by decide +kernel) (by decide +kernel)
set_option maxRecDepth 20000 in
theorem gX5_type_X3_append : GoodIn wsX5_type (wsV RX5 139 RX3 yX3_append wsX3_append) := goodIn_app (goodIn_of _ (by decide +kernel)) ggX5_type_X3_append
theorem dX5_type_0 : decode cX5_type 0 = .ok (.aload_n 0, 1) := by decide +kernel
theorem dX5_type_1 : decode cX5_type 1 = .ok (.getfield 35, 3) := by decide +kernel
theorem dX5_type_4 : decode cX5_type 4 = .ok (.getfield 136, 3) := by decide +kernel
theorem dX5_type_7 : decode cX5_type 7 = .ok (.bipush 60, 2) := by decide +kernel
theorem dX5_type_9 : decode cX5_type 9 = .ok (.if_icmp .lt 6, 3) := by decide +kernel
theorem dX5_type_12 : decode cX5_type 12 = .ok (.bipush (-3), 2) := by decide +kernel
theorem dX5_type_14 : decode cX5_type 14 = .ok (.ireturn, 1) := by decide +kernel
theorem dX5_type_15 : decode cX5_type 15 = .ok (.aload_n 0, 1) := by decide +kernel
theorem dX5_type_16 : decode cX5_type 16 = .ok (.getfield 35, 3) := by decide +kernel
theorem dX5_type_19 : decode cX5_type 19 = .ok (.iload_n 1, 1) := by decide +kernel
theorem dX5_type_20 : decode cX5_type 20 = .ok (.invokevirtual 139, 3) := by decide +kernel
theorem dX5_type_23 : decode cX5_type 23 = .ok (.aload_n 0, 1) := by decide +kernel
theorem dX5_type_24 : decode cX5_type 24 = .ok (.getfield 35, 3) := by decide +kernel
theorem dX5_type_27 : decode cX5_type 27 = .ok (.getfield 136, 3) := by decide +kernel
theorem dX5_type_30 : decode cX5_type 30 = .ok (.ireturn, 1) := by decide +kernel
theorem dX5_clearText_0 : decode cX5_clearText 0 = .ok (.aload_n 0, 1) := by decide +kernel
theorem dX5_clearText_1 : decode cX5_clearText 1 = .ok (.getfield 35, 3) := by decide +kernel
theorem dX5_clearText_4 : decode cX5_clearText 4 = .ok (.getfield 136, 3) := by decide +kernel
theorem dX5_clearText_7 : decode cX5_clearText 7 = .ok (.istore_n 1, 1) := by decide +kernel
theorem dX5_clearText_8 : decode cX5_clearText 8 = .ok (.aload_n 0, 1) := by decide +kernel
theorem dX5_clearText_9 : decode cX5_clearText 9 = .ok (.getfield 35, 3) := by decide +kernel
theorem dX5_clearText_12 : decode cX5_clearText 12 = .ok (.iconst 0, 1) := by decide +kernel
theorem dX5_clearText_13 : decode cX5_clearText 13 = .ok (.putfield 136, 3) := by decide +kernel
theorem dX5_clearText_16 : decode cX5_clearText 16 = .ok (.iload_n 1, 1) := by decide +kernel
theorem dX5_clearText_17 : decode cX5_clearText 17 = .ok (.ireturn, 1) := by decide +kernel
set_option maxRecDepth 20000 in
theorem ggX5_perform_X3_countOrders : GoodIn wsX5_perform wsX3_countOrders := goodIn_r _ [9, 10, 11, 12, 13, 14, 8, 15, 16, 17, 18, 19, 20, 21, 22, 23, 24, 25, 26, 27, 28, 29, 30, 31, 32, 33, 34, 35, 36, 37, 38, 39, 40, 41, 42, 43, 44, 45, 46, 47, 48, 49, 50, 51, 52, 53, 207, 208, 209, 210, 211, 212, 213, 214] (by decide +kernel) (by decide +kernel)
set_option maxRecDepth 20000 in
theorem gX5_perform_X3_countOrders : GoodIn wsX5_perform (wsV RX5 143 RX3 yX3_countOrders wsX3_countOrders) := goodIn_app (goodIn_of _ (by decide +kernel)) ggX5_perform_X3_countOrders
set_option maxRecDepth 20000 in
theorem ggX5_perform_X2_record : GoodIn wsX5_perform wsX2_record := goodIn_r _ [58, 59, 60, 61, 62, 63, 57, 64, 65, 66, 67, 68, 69, 70, 71, 72, 73, 74, 75, 76, 77, 78, 79, 80, 81, 82, 215, 216, 217, 218, 219, 220, 221, 222, 223, 224, 225] (by decide +kernel) (by decide +kernel)
set_option maxRecDepth 20000 in
theorem gX5_perform_X2_record : GoodIn wsX5_perform (wsV RX5 67 RX2 yX2_record wsX2_record) := goodIn_app (goodIn_of _ (by decide +kernel)) ggX5_perform_X2_record
set_option maxRecDepth 20000 in
theorem ggX5_perform_X3_readOrder : GoodIn wsX5_perform wsX3_readOrder := goodIn_r _ [15, 16, 17, 18, 19, 8, 20, 10, 11, 21, 22, 23, 24, 25, 26, 27, 28, 29, 30, 31, 32, 33, 34, 35, 36, 37, 38, 39, 40, 41, 42, 43, 44, 45, 46, 47, 48, 49, 50, 51, 52, 53, 207, 208, 209, 210, 211, 212, 213, 214] (by decide +kernel) (by decide +kernel)
set_option maxRecDepth 20000 in
theorem gX5_perform_X3_readOrder : GoodIn wsX5_perform (wsV RX5 150 RX3 yX3_readOrder wsX3_readOrder) := goodIn_app (goodIn_of _ (by decide +kernel)) ggX5_perform_X3_readOrder
set_option maxRecDepth 20000 in
theorem ggX5_perform_X5_carryOutOrder : GoodIn wsX5_perform wsX5_carryOutOrder := goodIn_r _ [88, 1, 89, 4, 90, 91, 92, 93, 94, 95, 96, 68, 97, 70, 98, 99, 100, 101, 75, 79, 102, 103, 104, 105, 106, 107, 108, 109, 110, 111, 112, 113, 76, 114, 115, 116, 87, 117, 118, 119, 120, 121, 72, 73, 74, 122, 123, 124, 125, 126, 127, 128, 129, 130, 131, 132, 133, 134, 135, 136, 137, 138, 139, 140, 141, 142, 143, 144, 145, 78, 146, 147, 148, 149, 150, 151, 152, 153, 154, 155, 156, 157, 158, 159, 160, 161, 162, 163, 164, 165, 166, 167, 168, 169, 170, 171, 172, 173, 174, 175, 176, 177, 178, 179, 180, 181, 182, 183, 184, 185, 186, 187, 188, 189, 190, 191, 192, 193, 194, 195, 196, 197, 198, 200, 201, 202, 203, 204, 205, 206, 207, 208, 209, 210, 211, 212, 213, 214, 217, 218, 219, 220, 221, 222, 223, 224, 225, 226, 227, 228, 229, 230, 231, 232, 233] (by decide +kernel) (by decide +kernel)
set_option maxRecDepth 20000 in
theorem gX5_perform_X5_carryOutOrder : GoodIn wsX5_perform (wsV RX5 153 RX5 yX5_carryOutOrder wsX5_carryOutOrder) := goodIn_app (goodIn_of _ (by decide +kernel)) ggX5_perform_X5_carryOutOrder
set_option maxRecDepth 20000 in
theorem ggX5_perform_X3_readSign : GoodIn wsX5_perform wsX3_readSign := goodIn_r _ [20, 10, 11, 21, 207, 208, 209, 210, 211, 212, 213, 214] (by decide +kernel) (by decide +kernel)
set_option maxRecDepth 20000 in
theorem gX5_perform_X3_readSign : GoodIn wsX5_perform (wsV RX5 156 RX3 yX3_readSign wsX3_readSign) := goodIn_app (goodIn_of _ (by decide +kernel)) ggX5_perform_X3_readSign
theorem dX5_perform_0 : decode cX5_perform 0 = .ok (.aload_n 0, 1) := by decide +kernel
theorem dX5_perform_1 : decode cX5_perform 1 = .ok (.getfield 35, 3) := by decide +kernel
theorem dX5_perform_4 : decode cX5_perform 4 = .ok (.invokevirtual 143, 3) := by decide +kernel
theorem dX5_perform_7 : decode cX5_perform 7 = .ok (.istore_n 1, 1) := by decide +kernel
theorem dX5_perform_8 : decode cX5_perform 8 = .ok (.iload_n 1, 1) := by decide +kernel
theorem dX5_perform_9 : decode cX5_perform 9 = .ok (.ifCond .ne 14, 3) := by decide +kernel
theorem dX5_perform_12 : decode cX5_perform 12 = .ok (.bipush (-100), 2) := by decide +kernel
theorem dX5_perform_14 : decode cX5_perform 14 = .ok (.aload_n 0, 1) := by decide +kernel
theorem dX5_perform_15 : decode cX5_perform 15 = .ok (.getfield 35, 3) := by decide +kernel
theorem dX5_perform_18 : decode cX5_perform 18 = .ok (.getfield 147, 3) := by decide +kernel
theorem dX5_perform_21 : decode cX5_perform 21 = .ok (.isub, 1) := by decide +kernel
theorem dX5_perform_22 : decode cX5_perform 22 = .ok (.ireturn, 1) := by decide +kernel
theorem dX5_perform_23 : decode cX5_perform 23 = .ok (.aload_n 0, 1) := by decide +kernel
theorem dX5_perform_24 : decode cX5_perform 24 = .ok (.getfield 42, 3) := by decide +kernel
theorem dX5_perform_27 : decode cX5_perform 27 = .ok (.aload_n 0, 1) := by decide +kernel
theorem dX5_perform_28 : decode cX5_perform 28 = .ok (.getfield 12, 3) := by decide +kernel
theorem dX5_perform_31 : decode cX5_perform 31 = .ok (.invokevirtual 67, 3) := by decide +kernel
theorem dX5_perform_34 : decode cX5_perform 34 = .ok (.aload_n 0, 1) := by decide +kernel
theorem dX5_perform_35 : decode cX5_perform 35 = .ok (.getfield 35, 3) := by decide +kernel
theorem dX5_perform_38 : decode cX5_perform 38 = .ok (.iconst 0, 1) := by decide +kernel
theorem dX5_perform_39 : decode cX5_perform 39 = .ok (.putfield 147, 3) := by decide +kernel
theorem dX5_perform_42 : decode cX5_perform 42 = .ok (.iconst 0, 1) := by decide +kernel
theorem dX5_perform_43 : decode cX5_perform 43 = .ok (.istore_n 2, 1) := by decide +kernel
theorem dX5_perform_44 : decode cX5_perform 44 = .ok (.iload_n 2, 1) := by decide +kernel
theorem dX5_perform_45 : decode cX5_perform 45 = .ok (.iload_n 1, 1) := by decide +kernel
theorem dX5_perform_46 : decode cX5_perform 46 = .ok (.if_icmp .ge 33, 3) := by decide +kernel
theorem dX5_perform_49 : decode cX5_perform 49 = .ok (.aload_n 0, 1) := by decide +kernel
theorem dX5_perform_50 : decode cX5_perform 50 = .ok (.getfield 35, 3) := by decide +kernel
theorem dX5_perform_53 : decode cX5_perform 53 = .ok (.invokevirtual 150, 3) := by decide +kernel
theorem dX5_perform_56 : decode cX5_perform 56 = .ok (.ifCond .eq 7, 3) := by decide +kernel
theorem dX5_perform_59 : decode cX5_perform 59 = .ok (.aload_n 0, 1) := by decide +kernel
theorem dX5_perform_60 : decode cX5_perform 60 = .ok (.invokevirtual 153, 3) := by decide +kernel
theorem dX5_perform_63 : decode cX5_perform 63 = .ok (.aload_n 0, 1) := by decide +kernel
theorem dX5_perform_64 : decode cX5_perform 64 = .ok (.getfield 35, 3) := by decide +kernel
theorem dX5_perform_67 : decode cX5_perform 67 = .ok (.bipush 59, 2) := by decide +kernel
theorem dX5_perform_69 : decode cX5_perform 69 = .ok (.invokevirtual 156, 3) := by decide +kernel
theorem dX5_perform_72 : decode cX5_perform 72 = .ok (.pop, 1) := by decide +kernel
theorem dX5_perform_73 : decode cX5_perform 73 = .ok (.iinc 2 1, 3) := by decide +kernel
theorem dX5_perform_76 : decode cX5_perform 76 = .ok (.goto (-32), 3) := by decide +kernel
theorem dX5_perform_79 : decode cX5_perform 79 = .ok (.iload_n 1, 1) := by decide +kernel
theorem dX5_perform_80 : decode cX5_perform 80 = .ok (.ireturn, 1) := by decide +kernel
set_option maxRecDepth 20000 in
theorem ggX5_undo_X2_takeLatest : GoodIn wsX5_undo wsX2_takeLatest := goodIn_r _ [8, 9, 10, 11, 12, 13, 14, 15, 16, 17, 18, 19, 20, 21, 22, 23, 24, 25, 26, 27, 28, 36, 37, 38, 39, 40, 41, 42, 43, 44, 45, 46] (by decide +kernel) (by decide +kernel)
set_option maxRecDepth 20000 in
theorem gX5_undo_X2_takeLatest : GoodIn wsX5_undo (wsV RX5 163 RX2 yX2_takeLatest wsX2_takeLatest) := goodIn_app (goodIn_of _ (by decide +kernel)) ggX5_undo_X2_takeLatest
theorem dX5_undo_0 : decode cX5_undo 0 = .ok (.aload_n 0, 1) := by decide +kernel
theorem dX5_undo_1 : decode cX5_undo 1 = .ok (.getfield 42, 3) := by decide +kernel
theorem dX5_undo_4 : decode cX5_undo 4 = .ok (.getfield 160, 3) := by decide +kernel
theorem dX5_undo_7 : decode cX5_undo 7 = .ok (.ifCond .ne 6, 3) := by decide +kernel
theorem dX5_undo_10 : decode cX5_undo 10 = .ok (.bipush (-5), 2) := by decide +kernel
theorem dX5_undo_12 : decode cX5_undo 12 = .ok (.ireturn, 1) := by decide +kernel
theorem dX5_undo_13 : decode cX5_undo 13 = .ok (.aload_n 0, 1) := by decide +kernel
theorem dX5_undo_14 : decode cX5_undo 14 = .ok (.getfield 42, 3) := by decide +kernel
theorem dX5_undo_17 : decode cX5_undo 17 = .ok (.aload_n 0, 1) := by decide +kernel
theorem dX5_undo_18 : decode cX5_undo 18 = .ok (.getfield 12, 3) := by decide +kernel
theorem dX5_undo_21 : decode cX5_undo 21 = .ok (.invokevirtual 163, 3) := by decide +kernel
theorem dX5_undo_24 : decode cX5_undo 24 = .ok (.aload_n 0, 1) := by decide +kernel
theorem dX5_undo_25 : decode cX5_undo 25 = .ok (.getfield 42, 3) := by decide +kernel
theorem dX5_undo_28 : decode cX5_undo 28 = .ok (.getfield 160, 3) := by decide +kernel
theorem dX5_undo_31 : decode cX5_undo 31 = .ok (.ireturn, 1) := by decide +kernel
set_option maxRecDepth 20000 in
theorem ggX5_keep_X1_copyFrom : GoodIn wsX5_keep wsX1_copyFrom := goodIn_r _ [8, 9, 10, 11, 12, 13, 14, 15, 16, 17, 18, 19, 20, 21, 33, 34, 35, 36, 37, 38, 39, 40, 41] (by decide +kernel) (by decide +kernel)
set_option maxRecDepth 20000 in
theorem gX5_keep_X1_copyFrom : GoodIn wsX5_keep (wsV RX5 166 RX1 yX1_copyFrom wsX1_copyFrom) := goodIn_app (goodIn_of _ (by decide +kernel)) ggX5_keep_X1_copyFrom
set_option maxRecDepth 20000 in
theorem ggX5_keep_X1_plotsOf : GoodIn wsX5_keep wsX1_plotsOf := goodIn_r _ [25, 16, 33, 34, 35, 36, 37, 38, 39, 40, 41] (by decide +kernel) (by decide +kernel)
set_option maxRecDepth 20000 in
theorem gX5_keep_X1_plotsOf : GoodIn wsX5_keep (wsV RX5 169 RX1 yX1_plotsOf wsX1_plotsOf) := goodIn_app (goodIn_of _ (by decide +kernel)) ggX5_keep_X1_plotsOf
theorem dX5_keep_0 : decode cX5_keep 0 = .ok (.aload_n 0, 1) := by decide +kernel
theorem dX5_keep_1 : decode cX5_keep 1 = .ok (.getfield 46, 3) := by decide +kernel
theorem dX5_keep_4 : decode cX5_keep 4 = .ok (.aload_n 0, 1) := by decide +kernel
theorem dX5_keep_5 : decode cX5_keep 5 = .ok (.getfield 12, 3) := by decide +kernel
theorem dX5_keep_8 : decode cX5_keep 8 = .ok (.invokevirtual 166, 3) := by decide +kernel
theorem dX5_keep_11 : decode cX5_keep 11 = .ok (.aload_n 0, 1) := by decide +kernel
theorem dX5_keep_12 : decode cX5_keep 12 = .ok (.iconst 1, 1) := by decide +kernel
theorem dX5_keep_13 : decode cX5_keep 13 = .ok (.putfield 49, 3) := by decide +kernel
theorem dX5_keep_16 : decode cX5_keep 16 = .ok (.bipush 24, 2) := by decide +kernel
theorem dX5_keep_18 : decode cX5_keep 18 = .ok (.aload_n 0, 1) := by decide +kernel
theorem dX5_keep_19 : decode cX5_keep 19 = .ok (.getfield 12, 3) := by decide +kernel
theorem dX5_keep_22 : decode cX5_keep 22 = .ok (.bipush 7, 2) := by decide +kernel
theorem dX5_keep_24 : decode cX5_keep 24 = .ok (.invokevirtual 169, 3) := by decide +kernel
theorem dX5_keep_27 : decode cX5_keep 27 = .ok (.isub, 1) := by decide +kernel
theorem dX5_keep_28 : decode cX5_keep 28 = .ok (.ireturn, 1) := by decide +kernel
set_option maxRecDepth 20000 in
theorem ggX5_restore_X2_record : GoodIn wsX5_restore wsX2_record := goodIn_r _ [9, 10, 11, 12, 13, 14, 8, 15, 16, 17, 18, 19, 20, 21, 22, 23, 24, 25, 26, 27, 28, 29, 30, 31, 32, 33, 46, 47, 48, 49, 50, 51, 52, 53, 54, 55, 56] (by decide +kernel) (by decide +kernel)
set_option maxRecDepth 20000 in
theorem gX5_restore_X2_record : GoodIn wsX5_restore (wsV RX5 67 RX2 yX2_record wsX2_record) := goodIn_app (goodIn_of _ (by decide +kernel)) ggX5_restore_X2_record
set_option maxRecDepth 20000 in
theorem ggX5_restore_X1_copyFrom : GoodIn wsX5_restore wsX1_copyFrom := goodIn_r _ [20, 21, 22, 23, 24, 25, 26, 27, 28, 29, 30, 31, 32, 33, 48, 49, 50, 51, 52, 53, 54, 55, 56] (by decide +kernel) (by decide +kernel)
set_option maxRecDepth 20000 in
theorem gX5_restore_X1_copyFrom : GoodIn wsX5_restore (wsV RX5 166 RX1 yX1_copyFrom wsX1_copyFrom) := goodIn_app (goodIn_of _ (by decide +kernel)) ggX5_restore_X1_copyFrom
set_option maxRecDepth 20000 in
theorem ggX5_restore_X1_plotsOf : GoodIn wsX5_restore wsX1_plotsOf := goodIn_r _ [38, 28, 48, 49, 50, 51, 52, 53, 54, 55, 56] (by decide +kernel) (by decide +kernel)
set_option maxRecDepth 20000 in
theorem gX5_restore_X1_plotsOf : GoodIn wsX5_restore (wsV RX5 169 RX1 yX1_plotsOf wsX1_plotsOf) := goodIn_app (goodIn_of _ (by decide +kernel)) ggX5_restore_X1_plotsOf
theorem dX5_restore_0 : decode cX5_restore 0 = .ok (.aload_n 0, 1) := by decide +kernel
theorem dX5_restore_1 : decode cX5_restore 1 = .ok (.getfield 49, 3) := by decide +kernel
theorem dX5_restore_4 : decode cX5_restore 4 = .ok (.ifCond .ne 6, 3) := by decide +kernel
theorem dX5_restore_7 : decode cX5_restore 7 = .ok (.bipush (-5), 2) := by decide +kernel
theorem dX5_restore_9 : decode cX5_restore 9 = .ok (.ireturn, 1) := by decide +kernel
theorem dX5_restore_10 : decode cX5_restore 10 = .ok (.aload_n 0, 1) := by decide +kernel
theorem dX5_restore_11 : decode cX5_restore 11 = .ok (.getfield 42, 3) := by decide +kernel
theorem dX5_restore_14 : decode cX5_restore 14 = .ok (.aload_n 0, 1) := by decide +kernel
theorem dX5_restore_15 : decode cX5_restore 15 = .ok (.getfield 12, 3) := by decide +kernel
theorem dX5_restore_18 : decode cX5_restore 18 = .ok (.invokevirtual 67, 3) := by decide +kernel
theorem dX5_restore_21 : decode cX5_restore 21 = .ok (.aload_n 0, 1) := by decide +kernel
theorem dX5_restore_22 : decode cX5_restore 22 = .ok (.getfield 12, 3) := by decide +kernel
theorem dX5_restore_25 : decode cX5_restore 25 = .ok (.aload_n 0, 1) := by decide +kernel
theorem dX5_restore_26 : decode cX5_restore 26 = .ok (.getfield 46, 3) := by decide +kernel
theorem dX5_restore_29 : decode cX5_restore 29 = .ok (.invokevirtual 166, 3) := by decide +kernel
theorem dX5_restore_32 : decode cX5_restore 32 = .ok (.bipush 24, 2) := by decide +kernel
theorem dX5_restore_34 : decode cX5_restore 34 = .ok (.aload_n 0, 1) := by decide +kernel
theorem dX5_restore_35 : decode cX5_restore 35 = .ok (.getfield 12, 3) := by decide +kernel
theorem dX5_restore_38 : decode cX5_restore 38 = .ok (.bipush 7, 2) := by decide +kernel
theorem dX5_restore_40 : decode cX5_restore 40 = .ok (.invokevirtual 169, 3) := by decide +kernel
theorem dX5_restore_43 : decode cX5_restore 43 = .ok (.isub, 1) := by decide +kernel
theorem dX5_restore_44 : decode cX5_restore 44 = .ok (.ireturn, 1) := by decide +kernel
set_option maxRecDepth 20000 in
theorem ggX5_plot_X5_isPlot : GoodIn wsX5_plot wsX5_isPlot := goodIn_r _ [7] (by decide +kernel) (by decide +kernel)
set_option maxRecDepth 20000 in
theorem gX5_plot_X5_isPlot : GoodIn wsX5_plot (va_wsS RX5 53 yX5_isPlot wsX5_isPlot) := goodIn_app (goodIn_of _ (by decide +kernel)) ggX5_plot_X5_isPlot
set_option maxRecDepth 20000 in
theorem ggX5_plot_X1_worthOf : GoodIn wsX5_plot wsX1_worthOf := goodIn_r _ [12, 13, 21, 22, 23, 24, 25, 26, 27, 28, 29] (by decide +kernel) (by decide +kernel)
set_option maxRecDepth 20000 in
theorem gX5_plot_X1_worthOf : GoodIn wsX5_plot (wsV RX5 172 RX1 yX1_worthOf wsX1_worthOf) := goodIn_app (goodIn_of _ (by decide +kernel)) ggX5_plot_X1_worthOf
theorem dX5_plot_0 : decode cX5_plot 0 = .ok (.iload_n 1, 1) := by decide +kernel
theorem dX5_plot_1 : decode cX5_plot 1 = .ok (.invokestatic 53, 3) := by decide +kernel
theorem dX5_plot_4 : decode cX5_plot 4 = .ok (.ifCond .ne 5, 3) := by decide +kernel
theorem dX5_plot_7 : decode cX5_plot 7 = .ok (.iconst (-1), 1) := by decide +kernel
theorem dX5_plot_8 : decode cX5_plot 8 = .ok (.ireturn, 1) := by decide +kernel
theorem dX5_plot_9 : decode cX5_plot 9 = .ok (.iload_n 2, 1) := by decide +kernel
theorem dX5_plot_10 : decode cX5_plot 10 = .ok (.ifCond .lt 9, 3) := by decide +kernel
theorem dX5_plot_13 : decode cX5_plot 13 = .ok (.iload_n 2, 1) := by decide +kernel
theorem dX5_plot_14 : decode cX5_plot 14 = .ok (.bipush 11, 2) := by decide +kernel
theorem dX5_plot_16 : decode cX5_plot 16 = .ok (.if_icmp .le 6, 3) := by decide +kernel
theorem dX5_plot_19 : decode cX5_plot 19 = .ok (.bipush (-2), 2) := by decide +kernel
theorem dX5_plot_21 : decode cX5_plot 21 = .ok (.ireturn, 1) := by decide +kernel
theorem dX5_plot_22 : decode cX5_plot 22 = .ok (.iload_n 2, 1) := by decide +kernel
theorem dX5_plot_23 : decode cX5_plot 23 = .ok (.iconst 4, 1) := by decide +kernel
theorem dX5_plot_24 : decode cX5_plot 24 = .ok (.if_icmp .ge 17, 3) := by decide +kernel
theorem dX5_plot_27 : decode cX5_plot 27 = .ok (.aload_n 0, 1) := by decide +kernel
theorem dX5_plot_28 : decode cX5_plot 28 = .ok (.getfield 12, 3) := by decide +kernel
theorem dX5_plot_31 : decode cX5_plot 31 = .ok (.getfield 63, 3) := by decide +kernel
theorem dX5_plot_34 : decode cX5_plot 34 = .ok (.iload_n 1, 1) := by decide +kernel
theorem dX5_plot_35 : decode cX5_plot 35 = .ok (.iconst 4, 1) := by decide +kernel
theorem dX5_plot_36 : decode cX5_plot 36 = .ok (.imul, 1) := by decide +kernel
theorem dX5_plot_37 : decode cX5_plot 37 = .ok (.iload_n 2, 1) := by decide +kernel
theorem dX5_plot_38 : decode cX5_plot 38 = .ok (.iadd, 1) := by decide +kernel
theorem dX5_plot_39 : decode cX5_plot 39 = .ok (.iaload, 1) := by decide +kernel
theorem dX5_plot_40 : decode cX5_plot 40 = .ok (.ireturn, 1) := by decide +kernel
theorem dX5_plot_41 : decode cX5_plot 41 = .ok (.iload_n 2, 1) := by decide +kernel
theorem dX5_plot_42 : decode cX5_plot 42 = .ok (.iconst 4, 1) := by decide +kernel
theorem dX5_plot_43 : decode cX5_plot 43 = .ok (.if_icmp .ne 13, 3) := by decide +kernel
theorem dX5_plot_46 : decode cX5_plot 46 = .ok (.aload_n 0, 1) := by decide +kernel
theorem dX5_plot_47 : decode cX5_plot 47 = .ok (.getfield 12, 3) := by decide +kernel
theorem dX5_plot_50 : decode cX5_plot 50 = .ok (.getfield 108, 3) := by decide +kernel
theorem dX5_plot_53 : decode cX5_plot 53 = .ok (.iload_n 1, 1) := by decide +kernel
theorem dX5_plot_54 : decode cX5_plot 54 = .ok (.iaload, 1) := by decide +kernel
theorem dX5_plot_55 : decode cX5_plot 55 = .ok (.ireturn, 1) := by decide +kernel
theorem dX5_plot_56 : decode cX5_plot 56 = .ok (.aload_n 0, 1) := by decide +kernel
theorem dX5_plot_57 : decode cX5_plot 57 = .ok (.getfield 12, 3) := by decide +kernel
theorem dX5_plot_60 : decode cX5_plot 60 = .ok (.iload_n 1, 1) := by decide +kernel
theorem dX5_plot_61 : decode cX5_plot 61 = .ok (.iload_n 2, 1) := by decide +kernel
theorem dX5_plot_62 : decode cX5_plot 62 = .ok (.iconst 4, 1) := by decide +kernel
theorem dX5_plot_63 : decode cX5_plot 63 = .ok (.isub, 1) := by decide +kernel
theorem dX5_plot_64 : decode cX5_plot 64 = .ok (.iconst 1, 1) := by decide +kernel
theorem dX5_plot_65 : decode cX5_plot 65 = .ok (.isub, 1) := by decide +kernel
theorem dX5_plot_66 : decode cX5_plot 66 = .ok (.invokevirtual 172, 3) := by decide +kernel
theorem dX5_plot_69 : decode cX5_plot 69 = .ok (.ireturn, 1) := by decide +kernel
set_option maxRecDepth 20000 in
theorem ggX5_cousin_X5_isCousin : GoodIn wsX5_cousin wsX5_isCousin := goodIn_r _ [8] (by decide +kernel) (by decide +kernel)
set_option maxRecDepth 20000 in
theorem gX5_cousin_X5_isCousin : GoodIn wsX5_cousin (va_wsS RX5 74 yX5_isCousin wsX5_isCousin) := goodIn_app (goodIn_of _ (by decide +kernel)) ggX5_cousin_X5_isCousin
set_option maxRecDepth 20000 in
theorem ggX5_cousin_X4_measure : GoodIn wsX5_cousin wsX4_measure := goodIn_r _ [13, 14, 15, 6, 7, 8, 16, 17, 18, 19, 20, 21, 97, 98, 99, 100, 101, 88, 89, 90, 91, 92, 93, 94, 95, 96] (by decide +kernel) (by decide +kernel)
set_option maxRecDepth 20000 in
theorem gX5_cousin_X4_measure : GoodIn wsX5_cousin (wsV RX5 111 RX4 yX4_measure wsX4_measure) := goodIn_app (goodIn_of _ (by decide +kernel)) ggX5_cousin_X4_measure
set_option maxRecDepth 20000 in
theorem ggX5_cousin_X1_plotsOf : GoodIn wsX5_cousin wsX1_plotsOf := goodIn_r _ [25, 26, 88, 89, 90, 91, 92, 93, 94, 95, 96] (by decide +kernel) (by decide +kernel)
set_option maxRecDepth 20000 in
theorem gX5_cousin_X1_plotsOf : GoodIn wsX5_cousin (wsV RX5 169 RX1 yX1_plotsOf wsX1_plotsOf) := goodIn_app (goodIn_of _ (by decide +kernel)) ggX5_cousin_X1_plotsOf
set_option maxRecDepth 20000 in
theorem ggX5_cousin_X4_worthOf : GoodIn wsX5_cousin wsX4_worthOf := goodIn_r _ [30, 14, 97, 98, 99, 100, 101] (by decide +kernel) (by decide +kernel)
set_option maxRecDepth 20000 in
theorem gX5_cousin_X4_worthOf : GoodIn wsX5_cousin (wsV RX5 175 RX4 yX4_worthOf wsX4_worthOf) := goodIn_app (goodIn_of _ (by decide +kernel)) ggX5_cousin_X4_worthOf
set_option maxRecDepth 20000 in
theorem ggX5_cousin_X1_worthFrom : GoodIn wsX5_cousin wsX1_worthFrom := goodIn_r _ [34, 21, 88, 89, 90, 91, 92, 93, 94, 95, 96] (by decide +kernel) (by decide +kernel)
set_option maxRecDepth 20000 in
theorem gX5_cousin_X1_worthFrom : GoodIn wsX5_cousin (wsV RX5 176 RX1 yX1_worthFrom wsX1_worthFrom) := goodIn_app (goodIn_of _ (by decide +kernel)) ggX5_cousin_X1_worthFrom
set_option maxRecDepth 20000 in
theorem ggX5_cousin_X5_hundredths : GoodIn wsX5_cousin wsX5_hundredths := goodIn_r _ [37] (by decide +kernel) (by decide +kernel)
set_option maxRecDepth 20000 in
theorem gX5_cousin_X5_hundredths : GoodIn wsX5_cousin (va_wsS RX5 179 yX5_hundredths wsX5_hundredths) := goodIn_app (goodIn_of _ (by decide +kernel)) ggX5_cousin_X5_hundredths
set_option maxRecDepth 20000 in
theorem ggX5_cousin_X1_grudgesOf : GoodIn wsX5_cousin wsX1_grudgesOf := goodIn_r _ [41, 42, 88, 89, 90, 91, 92, 93, 94, 95, 96] (by decide +kernel) (by decide +kernel)
set_option maxRecDepth 20000 in
theorem gX5_cousin_X1_grudgesOf : GoodIn wsX5_cousin (wsV RX5 182 RX1 yX1_grudgesOf wsX1_grudgesOf) := goodIn_app (goodIn_of _ (by decide +kernel)) ggX5_cousin_X1_grudgesOf
set_option maxRecDepth 20000 in
theorem ggX5_cousin_X4_enviesOf : GoodIn wsX5_cousin wsX4_enviesOf := goodIn_r _ [46, 47, 7, 48, 49, 50, 51, 12, 52, 53, 54, 55, 56, 57, 58, 59, 60, 14, 15, 61, 62, 28, 29, 30, 97, 98, 99, 100, 101, 88, 89, 90, 91, 92, 93, 94, 95, 96] (by decide +kernel) (by decide +kernel)
set_option maxRecDepth 20000 in
theorem gX5_cousin_X4_enviesOf : GoodIn wsX5_cousin (wsV RX5 185 RX4 yX4_enviesOf wsX4_enviesOf) := goodIn_app (goodIn_of _ (by decide +kernel)) ggX5_cousin_X4_enviesOf
set_option maxRecDepth 20000 in
theorem ggX5_cousin_X4_greatestEnvyOf : GoodIn wsX5_cousin wsX4_greatestEnvyOf := goodIn_r _ [66, 53, 54, 55, 56, 49, 50, 51, 12, 52, 57, 58, 59, 60, 14, 15, 61, 62, 28, 29, 30, 97, 98, 99, 100, 101, 88, 89, 90, 91, 92, 93, 94, 95, 96] (by decide +kernel) (by decide +kernel)
set_option maxRecDepth 20000 in
theorem gX5_cousin_X4_greatestEnvyOf : GoodIn wsX5_cousin (wsV RX5 188 RX4 yX4_greatestEnvyOf wsX4_greatestEnvyOf) := goodIn_app (goodIn_of _ (by decide +kernel)) ggX5_cousin_X4_greatestEnvyOf
set_option maxRecDepth 20000 in
theorem ggX5_cousin_X4_enviesTowards : GoodIn wsX5_cousin wsX4_enviesTowards := goodIn_r _ [70, 49, 50, 51, 12, 52, 53, 54, 55, 56, 57, 58, 59, 60, 14, 15, 61, 62, 28, 29, 30, 97, 98, 99, 100, 101, 88, 89, 90, 91, 92, 93, 94, 95, 96] (by decide +kernel) (by decide +kernel)
set_option maxRecDepth 20000 in
theorem gX5_cousin_X4_enviesTowards : GoodIn wsX5_cousin (wsV RX5 191 RX4 yX4_enviesTowards wsX4_enviesTowards) := goodIn_app (goodIn_of _ (by decide +kernel)) ggX5_cousin_X4_enviesTowards
set_option maxRecDepth 20000 in
theorem ggX5_cousin_X1_placeOf : GoodIn wsX5_cousin wsX1_placeOf := goodIn_r _ [74, 75, 76, 77, 19, 78, 79, 80, 39, 40, 41, 42, 88, 89, 90, 91, 92, 93, 94, 95, 96] (by decide +kernel) (by decide +kernel)
set_option maxRecDepth 20000 in
theorem gX5_cousin_X1_placeOf : GoodIn wsX5_cousin (wsV RX5 194 RX1 yX1_placeOf wsX1_placeOf) := goodIn_app (goodIn_of _ (by decide +kernel)) ggX5_cousin_X1_placeOf
theorem dX5_cousin_0 : decode cX5_cousin 0 = .ok (.iload_n 1, 1) := by decide +kernel
theorem dX5_cousin_1 : decode cX5_cousin 1 = .ok (.invokestatic 74, 3) := by decide +kernel
theorem dX5_cousin_4 : decode cX5_cousin 4 = .ok (.ifCond .ne 5, 3) := by decide +kernel
theorem dX5_cousin_7 : decode cX5_cousin 7 = .ok (.iconst (-1), 1) := by decide +kernel
theorem dX5_cousin_8 : decode cX5_cousin 8 = .ok (.ireturn, 1) := by decide +kernel
theorem dX5_cousin_9 : decode cX5_cousin 9 = .ok (.iload_n 2, 1) := by decide +kernel
theorem dX5_cousin_10 : decode cX5_cousin 10 = .ok (.ifCond .lt 9, 3) := by decide +kernel
theorem dX5_cousin_13 : decode cX5_cousin 13 = .ok (.iload_n 2, 1) := by decide +kernel
theorem dX5_cousin_14 : decode cX5_cousin 14 = .ok (.bipush 12, 2) := by decide +kernel
theorem dX5_cousin_16 : decode cX5_cousin 16 = .ok (.if_icmp .le 6, 3) := by decide +kernel
theorem dX5_cousin_19 : decode cX5_cousin 19 = .ok (.bipush (-2), 2) := by decide +kernel
theorem dX5_cousin_21 : decode cX5_cousin 21 = .ok (.ireturn, 1) := by decide +kernel
theorem dX5_cousin_22 : decode cX5_cousin 22 = .ok (.iload_n 2, 1) := by decide +kernel
theorem dX5_cousin_23 : decode cX5_cousin 23 = .ok (.iconst 4, 1) := by decide +kernel
theorem dX5_cousin_24 : decode cX5_cousin 24 = .ok (.if_icmp .ge 17, 3) := by decide +kernel
theorem dX5_cousin_27 : decode cX5_cousin 27 = .ok (.aload_n 0, 1) := by decide +kernel
theorem dX5_cousin_28 : decode cX5_cousin 28 = .ok (.getfield 12, 3) := by decide +kernel
theorem dX5_cousin_31 : decode cX5_cousin 31 = .ok (.getfield 77, 3) := by decide +kernel
theorem dX5_cousin_34 : decode cX5_cousin 34 = .ok (.iload_n 1, 1) := by decide +kernel
theorem dX5_cousin_35 : decode cX5_cousin 35 = .ok (.iconst 4, 1) := by decide +kernel
theorem dX5_cousin_36 : decode cX5_cousin 36 = .ok (.imul, 1) := by decide +kernel
theorem dX5_cousin_37 : decode cX5_cousin 37 = .ok (.iload_n 2, 1) := by decide +kernel
theorem dX5_cousin_38 : decode cX5_cousin 38 = .ok (.iadd, 1) := by decide +kernel
theorem dX5_cousin_39 : decode cX5_cousin 39 = .ok (.iaload, 1) := by decide +kernel
theorem dX5_cousin_40 : decode cX5_cousin 40 = .ok (.ireturn, 1) := by decide +kernel
theorem dX5_cousin_41 : decode cX5_cousin 41 = .ok (.aload_n 0, 1) := by decide +kernel
theorem dX5_cousin_42 : decode cX5_cousin 42 = .ok (.getfield 28, 3) := by decide +kernel
theorem dX5_cousin_45 : decode cX5_cousin 45 = .ok (.aload_n 0, 1) := by decide +kernel
theorem dX5_cousin_46 : decode cX5_cousin 46 = .ok (.getfield 12, 3) := by decide +kernel
theorem dX5_cousin_49 : decode cX5_cousin 49 = .ok (.getfield 108, 3) := by decide +kernel
theorem dX5_cousin_52 : decode cX5_cousin 52 = .ok (.invokevirtual 111, 3) := by decide +kernel
theorem dX5_cousin_55 : decode cX5_cousin 55 = .ok (.iload_n 2, 1) := by decide +kernel
theorem dX5_cousin_56 : decode cX5_cousin 56 = .ok (.tableswitch 137 4 11 #[48, 57, 67, 77, 99, 108, 119, 128], 48) := by decide +kernel
theorem dX5_cousin_104 : decode cX5_cousin 104 = .ok (.aload_n 0, 1) := by decide +kernel
theorem dX5_cousin_105 : decode cX5_cousin 105 = .ok (.getfield 12, 3) := by decide +kernel
theorem dX5_cousin_108 : decode cX5_cousin 108 = .ok (.iload_n 1, 1) := by decide +kernel
theorem dX5_cousin_109 : decode cX5_cousin 109 = .ok (.invokevirtual 169, 3) := by decide +kernel
theorem dX5_cousin_112 : decode cX5_cousin 112 = .ok (.ireturn, 1) := by decide +kernel
theorem dX5_cousin_113 : decode cX5_cousin 113 = .ok (.aload_n 0, 1) := by decide +kernel
theorem dX5_cousin_114 : decode cX5_cousin 114 = .ok (.getfield 28, 3) := by decide +kernel
theorem dX5_cousin_117 : decode cX5_cousin 117 = .ok (.iload_n 1, 1) := by decide +kernel
theorem dX5_cousin_118 : decode cX5_cousin 118 = .ok (.iload_n 1, 1) := by decide +kernel
theorem dX5_cousin_119 : decode cX5_cousin 119 = .ok (.invokevirtual 175, 3) := by decide +kernel
theorem dX5_cousin_122 : decode cX5_cousin 122 = .ok (.ireturn, 1) := by decide +kernel
theorem dX5_cousin_123 : decode cX5_cousin 123 = .ok (.aload_n 0, 1) := by decide +kernel
theorem dX5_cousin_124 : decode cX5_cousin 124 = .ok (.getfield 12, 3) := by decide +kernel
theorem dX5_cousin_127 : decode cX5_cousin 127 = .ok (.iconst 0, 1) := by decide +kernel
theorem dX5_cousin_128 : decode cX5_cousin 128 = .ok (.iload_n 1, 1) := by decide +kernel
theorem dX5_cousin_129 : decode cX5_cousin 129 = .ok (.invokevirtual 176, 3) := by decide +kernel
theorem dX5_cousin_132 : decode cX5_cousin 132 = .ok (.ireturn, 1) := by decide +kernel
theorem dX5_cousin_133 : decode cX5_cousin 133 = .ok (.aload_n 0, 1) := by decide +kernel
theorem dX5_cousin_134 : decode cX5_cousin 134 = .ok (.getfield 28, 3) := by decide +kernel
theorem dX5_cousin_137 : decode cX5_cousin 137 = .ok (.iload_n 1, 1) := by decide +kernel
theorem dX5_cousin_138 : decode cX5_cousin 138 = .ok (.iload_n 1, 1) := by decide +kernel
theorem dX5_cousin_139 : decode cX5_cousin 139 = .ok (.invokevirtual 175, 3) := by decide +kernel
theorem dX5_cousin_142 : decode cX5_cousin 142 = .ok (.aload_n 0, 1) := by decide +kernel
theorem dX5_cousin_143 : decode cX5_cousin 143 = .ok (.getfield 12, 3) := by decide +kernel
theorem dX5_cousin_146 : decode cX5_cousin 146 = .ok (.iconst 0, 1) := by decide +kernel
theorem dX5_cousin_147 : decode cX5_cousin 147 = .ok (.iload_n 1, 1) := by decide +kernel
theorem dX5_cousin_148 : decode cX5_cousin 148 = .ok (.invokevirtual 176, 3) := by decide +kernel
theorem dX5_cousin_151 : decode cX5_cousin 151 = .ok (.invokestatic 179, 3) := by decide +kernel
theorem dX5_cousin_154 : decode cX5_cousin 154 = .ok (.ireturn, 1) := by decide +kernel
theorem dX5_cousin_155 : decode cX5_cousin 155 = .ok (.aload_n 0, 1) := by decide +kernel
theorem dX5_cousin_156 : decode cX5_cousin 156 = .ok (.getfield 12, 3) := by decide +kernel
theorem dX5_cousin_159 : decode cX5_cousin 159 = .ok (.iload_n 1, 1) := by decide +kernel
theorem dX5_cousin_160 : decode cX5_cousin 160 = .ok (.invokevirtual 182, 3) := by decide +kernel
theorem dX5_cousin_163 : decode cX5_cousin 163 = .ok (.ireturn, 1) := by decide +kernel
theorem dX5_cousin_164 : decode cX5_cousin 164 = .ok (.aload_n 0, 1) := by decide +kernel
theorem dX5_cousin_165 : decode cX5_cousin 165 = .ok (.getfield 28, 3) := by decide +kernel
theorem dX5_cousin_168 : decode cX5_cousin 168 = .ok (.iload_n 1, 1) := by decide +kernel
theorem dX5_cousin_169 : decode cX5_cousin 169 = .ok (.bipush 127, 2) := by decide +kernel
theorem dX5_cousin_171 : decode cX5_cousin 171 = .ok (.invokevirtual 185, 3) := by decide +kernel
theorem dX5_cousin_174 : decode cX5_cousin 174 = .ok (.ireturn, 1) := by decide +kernel
theorem dX5_cousin_175 : decode cX5_cousin 175 = .ok (.aload_n 0, 1) := by decide +kernel
theorem dX5_cousin_176 : decode cX5_cousin 176 = .ok (.getfield 28, 3) := by decide +kernel
theorem dX5_cousin_179 : decode cX5_cousin 179 = .ok (.iload_n 1, 1) := by decide +kernel
theorem dX5_cousin_180 : decode cX5_cousin 180 = .ok (.invokevirtual 188, 3) := by decide +kernel
theorem dX5_cousin_183 : decode cX5_cousin 183 = .ok (.ireturn, 1) := by decide +kernel
theorem dX5_cousin_184 : decode cX5_cousin 184 = .ok (.aload_n 0, 1) := by decide +kernel
theorem dX5_cousin_185 : decode cX5_cousin 185 = .ok (.getfield 28, 3) := by decide +kernel
theorem dX5_cousin_188 : decode cX5_cousin 188 = .ok (.iload_n 1, 1) := by decide +kernel
theorem dX5_cousin_189 : decode cX5_cousin 189 = .ok (.invokevirtual 191, 3) := by decide +kernel
theorem dX5_cousin_192 : decode cX5_cousin 192 = .ok (.ireturn, 1) := by decide +kernel
theorem dX5_cousin_193 : decode cX5_cousin 193 = .ok (.aload_n 0, 1) := by decide +kernel
theorem dX5_cousin_194 : decode cX5_cousin 194 = .ok (.getfield 12, 3) := by decide +kernel
theorem dX5_cousin_197 : decode cX5_cousin 197 = .ok (.iload_n 1, 1) := by decide +kernel
theorem dX5_cousin_198 : decode cX5_cousin 198 = .ok (.invokevirtual 194, 3) := by decide +kernel
theorem dX5_cousin_201 : decode cX5_cousin 201 = .ok (.ireturn, 1) := by decide +kernel
set_option maxRecDepth 20000 in
theorem ggX5_pair_X5_isCousin : GoodIn wsX5_pair wsX5_isCousin := goodIn_r _ [7] (by decide +kernel) (by decide +kernel)
set_option maxRecDepth 20000 in
theorem gX5_pair_X5_isCousin : GoodIn wsX5_pair (va_wsS RX5 74 yX5_isCousin wsX5_isCousin) := goodIn_app (goodIn_of _ (by decide +kernel)) ggX5_pair_X5_isCousin
set_option maxRecDepth 20000 in
theorem ggX5_pair_X4_measure : GoodIn wsX5_pair wsX4_measure := goodIn_r _ [12, 13, 14, 5, 6, 7, 15, 16, 17, 18, 19, 20, 67, 68, 69, 70, 71, 58, 59, 60, 61, 62, 63, 64, 65, 66] (by decide +kernel) (by decide +kernel)
set_option maxRecDepth 20000 in
theorem gX5_pair_X4_measure : GoodIn wsX5_pair (wsV RX5 111 RX4 yX4_measure wsX4_measure) := goodIn_app (goodIn_of _ (by decide +kernel)) ggX5_pair_X4_measure
set_option maxRecDepth 20000 in
theorem ggX5_pair_X1_grudgeOf : GoodIn wsX5_pair wsX1_grudgeOf := goodIn_r _ [24, 25, 58, 59, 60, 61, 62, 63, 64, 65, 66] (by decide +kernel) (by decide +kernel)
set_option maxRecDepth 20000 in
theorem gX5_pair_X1_grudgeOf : GoodIn wsX5_pair (wsV RX5 83 RX1 yX1_grudgeOf wsX1_grudgeOf) := goodIn_app (goodIn_of _ (by decide +kernel)) ggX5_pair_X1_grudgeOf
set_option maxRecDepth 20000 in
theorem ggX5_pair_X4_worthOf : GoodIn wsX5_pair wsX4_worthOf := goodIn_r _ [29, 13, 67, 68, 69, 70, 71] (by decide +kernel) (by decide +kernel)
set_option maxRecDepth 20000 in
theorem gX5_pair_X4_worthOf : GoodIn wsX5_pair (wsV RX5 175 RX4 yX4_worthOf wsX4_worthOf) := goodIn_app (goodIn_of _ (by decide +kernel)) ggX5_pair_X4_worthOf
set_option maxRecDepth 20000 in
theorem ggX5_pair_X4_seeming : GoodIn wsX5_pair wsX4_seeming := goodIn_r _ [33, 13, 14, 34, 67, 68, 69, 70, 71, 58, 59, 60, 61, 62, 63, 64, 65, 66] (by decide +kernel) (by decide +kernel)
set_option maxRecDepth 20000 in
theorem gX5_pair_X4_seeming : GoodIn wsX5_pair (wsV RX5 197 RX4 yX4_seeming wsX4_seeming) := goodIn_app (goodIn_of _ (by decide +kernel)) ggX5_pair_X4_seeming
set_option maxRecDepth 20000 in
theorem ggX5_pair_X4_envy : GoodIn wsX5_pair wsX4_envy := goodIn_r _ [38, 39, 40, 41, 42, 43, 31, 32, 11, 33, 13, 14, 34, 44, 27, 28, 29, 67, 68, 69, 70, 71, 58, 59, 60, 61, 62, 63, 64, 65, 66] (by decide +kernel) (by decide +kernel)
set_option maxRecDepth 20000 in
theorem gX5_pair_X4_envy : GoodIn wsX5_pair (wsV RX5 200 RX4 yX4_envy wsX4_envy) := goodIn_app (goodIn_of _ (by decide +kernel)) ggX5_pair_X4_envy
set_option maxRecDepth 20000 in
theorem ggX5_pair_X4_whyNoTrade : GoodIn wsX5_pair wsX4_whyNoTrade := goodIn_r _ [48, 14, 49, 50, 22, 23, 18, 24, 25, 44, 27, 28, 11, 29, 13, 67, 68, 69, 70, 71, 58, 59, 60, 61, 62, 63, 64, 65, 66] (by decide +kernel) (by decide +kernel)
set_option maxRecDepth 20000 in
theorem gX5_pair_X4_whyNoTrade : GoodIn wsX5_pair (wsV RX5 115 RX4 yX4_whyNoTrade wsX4_whyNoTrade) := goodIn_app (goodIn_of _ (by decide +kernel)) ggX5_pair_X4_whyNoTrade
theorem dX5_pair_0 : decode cX5_pair 0 = .ok (.iload_n 1, 1) := by decide +kernel
theorem dX5_pair_1 : decode cX5_pair 1 = .ok (.invokestatic 74, 3) := by decide +kernel
theorem dX5_pair_4 : decode cX5_pair 4 = .ok (.ifCond .eq 10, 3) := by decide +kernel
theorem dX5_pair_7 : decode cX5_pair 7 = .ok (.iload_n 2, 1) := by decide +kernel
theorem dX5_pair_8 : decode cX5_pair 8 = .ok (.invokestatic 74, 3) := by decide +kernel
theorem dX5_pair_11 : decode cX5_pair 11 = .ok (.ifCond .ne 5, 3) := by decide +kernel
theorem dX5_pair_14 : decode cX5_pair 14 = .ok (.iconst (-1), 1) := by decide +kernel
theorem dX5_pair_15 : decode cX5_pair 15 = .ok (.ireturn, 1) := by decide +kernel
theorem dX5_pair_16 : decode cX5_pair 16 = .ok (.iload_n 1, 1) := by decide +kernel
theorem dX5_pair_17 : decode cX5_pair 17 = .ok (.iload_n 2, 1) := by decide +kernel
theorem dX5_pair_18 : decode cX5_pair 18 = .ok (.if_icmp .eq 12, 3) := by decide +kernel
theorem dX5_pair_21 : decode cX5_pair 21 = .ok (.iload_n 3, 1) := by decide +kernel
theorem dX5_pair_22 : decode cX5_pair 22 = .ok (.ifCond .lt 8, 3) := by decide +kernel
theorem dX5_pair_25 : decode cX5_pair 25 = .ok (.iload_n 3, 1) := by decide +kernel
theorem dX5_pair_26 : decode cX5_pair 26 = .ok (.iconst 4, 1) := by decide +kernel
theorem dX5_pair_27 : decode cX5_pair 27 = .ok (.if_icmp .le 6, 3) := by decide +kernel
theorem dX5_pair_30 : decode cX5_pair 30 = .ok (.bipush (-2), 2) := by decide +kernel
theorem dX5_pair_32 : decode cX5_pair 32 = .ok (.ireturn, 1) := by decide +kernel
theorem dX5_pair_33 : decode cX5_pair 33 = .ok (.aload_n 0, 1) := by decide +kernel
theorem dX5_pair_34 : decode cX5_pair 34 = .ok (.getfield 28, 3) := by decide +kernel
theorem dX5_pair_37 : decode cX5_pair 37 = .ok (.aload_n 0, 1) := by decide +kernel
theorem dX5_pair_38 : decode cX5_pair 38 = .ok (.getfield 12, 3) := by decide +kernel
theorem dX5_pair_41 : decode cX5_pair 41 = .ok (.getfield 108, 3) := by decide +kernel
theorem dX5_pair_44 : decode cX5_pair 44 = .ok (.invokevirtual 111, 3) := by decide +kernel
theorem dX5_pair_47 : decode cX5_pair 47 = .ok (.iload_n 3, 1) := by decide +kernel
theorem dX5_pair_48 : decode cX5_pair 48 = .ok (.tableswitch 72 0 3 #[32, 42, 52, 62], 32) := by decide +kernel
theorem dX5_pair_80 : decode cX5_pair 80 = .ok (.aload_n 0, 1) := by decide +kernel
theorem dX5_pair_81 : decode cX5_pair 81 = .ok (.getfield 12, 3) := by decide +kernel
theorem dX5_pair_84 : decode cX5_pair 84 = .ok (.iload_n 1, 1) := by decide +kernel
theorem dX5_pair_85 : decode cX5_pair 85 = .ok (.iload_n 2, 1) := by decide +kernel
theorem dX5_pair_86 : decode cX5_pair 86 = .ok (.invokevirtual 83, 3) := by decide +kernel
theorem dX5_pair_89 : decode cX5_pair 89 = .ok (.ireturn, 1) := by decide +kernel
theorem dX5_pair_90 : decode cX5_pair 90 = .ok (.aload_n 0, 1) := by decide +kernel
theorem dX5_pair_91 : decode cX5_pair 91 = .ok (.getfield 28, 3) := by decide +kernel
theorem dX5_pair_94 : decode cX5_pair 94 = .ok (.iload_n 1, 1) := by decide +kernel
theorem dX5_pair_95 : decode cX5_pair 95 = .ok (.iload_n 2, 1) := by decide +kernel
theorem dX5_pair_96 : decode cX5_pair 96 = .ok (.invokevirtual 175, 3) := by decide +kernel
theorem dX5_pair_99 : decode cX5_pair 99 = .ok (.ireturn, 1) := by decide +kernel
theorem dX5_pair_100 : decode cX5_pair 100 = .ok (.aload_n 0, 1) := by decide +kernel
theorem dX5_pair_101 : decode cX5_pair 101 = .ok (.getfield 28, 3) := by decide +kernel
theorem dX5_pair_104 : decode cX5_pair 104 = .ok (.iload_n 1, 1) := by decide +kernel
theorem dX5_pair_105 : decode cX5_pair 105 = .ok (.iload_n 2, 1) := by decide +kernel
theorem dX5_pair_106 : decode cX5_pair 106 = .ok (.invokevirtual 197, 3) := by decide +kernel
theorem dX5_pair_109 : decode cX5_pair 109 = .ok (.ireturn, 1) := by decide +kernel
theorem dX5_pair_110 : decode cX5_pair 110 = .ok (.aload_n 0, 1) := by decide +kernel
theorem dX5_pair_111 : decode cX5_pair 111 = .ok (.getfield 28, 3) := by decide +kernel
theorem dX5_pair_114 : decode cX5_pair 114 = .ok (.iload_n 1, 1) := by decide +kernel
theorem dX5_pair_115 : decode cX5_pair 115 = .ok (.iload_n 2, 1) := by decide +kernel
theorem dX5_pair_116 : decode cX5_pair 116 = .ok (.invokevirtual 200, 3) := by decide +kernel
theorem dX5_pair_119 : decode cX5_pair 119 = .ok (.ireturn, 1) := by decide +kernel
theorem dX5_pair_120 : decode cX5_pair 120 = .ok (.aload_n 0, 1) := by decide +kernel
theorem dX5_pair_121 : decode cX5_pair 121 = .ok (.getfield 28, 3) := by decide +kernel
theorem dX5_pair_124 : decode cX5_pair 124 = .ok (.iload_n 1, 1) := by decide +kernel
theorem dX5_pair_125 : decode cX5_pair 125 = .ok (.iload_n 2, 1) := by decide +kernel
theorem dX5_pair_126 : decode cX5_pair 126 = .ok (.invokevirtual 115, 3) := by decide +kernel
theorem dX5_pair_129 : decode cX5_pair 129 = .ok (.ireturn, 1) := by decide +kernel
set_option maxRecDepth 20000 in
theorem ggX5_total_X4_measure : GoodIn wsX5_total wsX4_measure := goodIn_r _ [16, 17, 18, 19, 20, 21, 22, 23, 24, 25, 26, 27, 108, 109, 110, 111, 112, 89, 90, 91, 92, 93, 94, 95, 96, 97] (by decide +kernel) (by decide +kernel)
set_option maxRecDepth 20000 in
theorem gX5_total_X4_measure : GoodIn wsX5_total (wsV RX5 111 RX4 yX4_measure wsX4_measure) := goodIn_app (goodIn_of _ (by decide +kernel)) ggX5_total_X4_measure
set_option maxRecDepth 20000 in
theorem ggX5_total_X1_plotsOf : GoodIn wsX5_total wsX1_plotsOf := goodIn_r _ [31, 32, 89, 90, 91, 92, 93, 94, 95, 96, 97] (by decide +kernel) (by decide +kernel)
set_option maxRecDepth 20000 in
theorem gX5_total_X1_plotsOf : GoodIn wsX5_total (wsV RX5 169 RX1 yX1_plotsOf wsX1_plotsOf) := goodIn_app (goodIn_of _ (by decide +kernel)) ggX5_total_X1_plotsOf
set_option maxRecDepth 20000 in
theorem ggX5_total_X4_enviesAmong : GoodIn wsX5_total wsX4_enviesAmong := goodIn_r _ [36, 37, 20, 38, 39, 40, 41, 15, 42, 43, 44, 45, 46, 47, 48, 49, 50, 51, 52, 53, 54, 17, 18, 55, 56, 57, 58, 59, 108, 109, 110, 111, 112, 89, 90, 91, 92, 93, 94, 95, 96, 97] (by decide +kernel) (by decide +kernel)
set_option maxRecDepth 20000 in
theorem gX5_total_X4_enviesAmong : GoodIn wsX5_total (wsV RX5 122 RX4 yX4_enviesAmong wsX4_enviesAmong) := goodIn_app (goodIn_of _ (by decide +kernel)) ggX5_total_X4_enviesAmong
set_option maxRecDepth 20000 in
theorem ggX5_total_X4_contentCousins : GoodIn wsX5_total wsX4_contentCousins := goodIn_r _ [63, 64, 65, 66, 15, 67, 47, 48, 49, 50, 43, 44, 45, 46, 51, 52, 53, 54, 17, 18, 55, 56, 57, 58, 59, 108, 109, 110, 111, 112, 89, 90, 91, 92, 93, 94, 95, 96, 97] (by decide +kernel) (by decide +kernel)
set_option maxRecDepth 20000 in
theorem gX5_total_X4_contentCousins : GoodIn wsX5_total (wsV RX5 203 RX4 yX4_contentCousins wsX4_contentCousins) := goodIn_app (goodIn_of _ (by decide +kernel)) ggX5_total_X4_contentCousins
set_option maxRecDepth 20000 in
theorem ggX5_total_X4_tradingPairs : GoodIn wsX5_total wsX4_tradingPairs := goodIn_r _ [71, 72, 73, 74, 15, 75, 18, 76, 77, 78, 79, 25, 80, 81, 56, 57, 58, 59, 17, 108, 109, 110, 111, 112, 89, 90, 91, 92, 93, 94, 95, 96, 97] (by decide +kernel) (by decide +kernel)
set_option maxRecDepth 20000 in
theorem gX5_total_X4_tradingPairs : GoodIn wsX5_total (wsV RX5 206 RX4 yX4_tradingPairs wsX4_tradingPairs) := goodIn_app (goodIn_of _ (by decide +kernel)) ggX5_total_X4_tradingPairs
theorem dX5_total_0 : decode cX5_total 0 = .ok (.iload_n 1, 1) := by decide +kernel
theorem dX5_total_1 : decode cX5_total 1 = .ok (.ifCond .lt 9, 3) := by decide +kernel
theorem dX5_total_4 : decode cX5_total 4 = .ok (.iload_n 1, 1) := by decide +kernel
theorem dX5_total_5 : decode cX5_total 5 = .ok (.bipush 10, 2) := by decide +kernel
theorem dX5_total_7 : decode cX5_total 7 = .ok (.if_icmp .le 6, 3) := by decide +kernel
theorem dX5_total_10 : decode cX5_total 10 = .ok (.bipush (-2), 2) := by decide +kernel
theorem dX5_total_12 : decode cX5_total 12 = .ok (.ireturn, 1) := by decide +kernel
theorem dX5_total_13 : decode cX5_total 13 = .ok (.aload_n 0, 1) := by decide +kernel
theorem dX5_total_14 : decode cX5_total 14 = .ok (.getfield 28, 3) := by decide +kernel
theorem dX5_total_17 : decode cX5_total 17 = .ok (.aload_n 0, 1) := by decide +kernel
theorem dX5_total_18 : decode cX5_total 18 = .ok (.getfield 12, 3) := by decide +kernel
theorem dX5_total_21 : decode cX5_total 21 = .ok (.getfield 108, 3) := by decide +kernel
theorem dX5_total_24 : decode cX5_total 24 = .ok (.invokevirtual 111, 3) := by decide +kernel
theorem dX5_total_27 : decode cX5_total 27 = .ok (.iload_n 1, 1) := by decide +kernel
theorem dX5_total_28 : decode cX5_total 28 = .ok (.tableswitch 144 0 9 #[56, 66, 76, 86, 96, 104, 112, 120, 128, 136], 56) := by decide +kernel
theorem dX5_total_84 : decode cX5_total 84 = .ok (.aload_n 0, 1) := by decide +kernel
theorem dX5_total_85 : decode cX5_total 85 = .ok (.getfield 12, 3) := by decide +kernel
theorem dX5_total_88 : decode cX5_total 88 = .ok (.getfield 94, 3) := by decide +kernel
theorem dX5_total_91 : decode cX5_total 91 = .ok (.iconst 0, 1) := by decide +kernel
theorem dX5_total_92 : decode cX5_total 92 = .ok (.iaload, 1) := by decide +kernel
theorem dX5_total_93 : decode cX5_total 93 = .ok (.ireturn, 1) := by decide +kernel
theorem dX5_total_94 : decode cX5_total 94 = .ok (.aload_n 0, 1) := by decide +kernel
theorem dX5_total_95 : decode cX5_total 95 = .ok (.getfield 12, 3) := by decide +kernel
theorem dX5_total_98 : decode cX5_total 98 = .ok (.getfield 94, 3) := by decide +kernel
theorem dX5_total_101 : decode cX5_total 101 = .ok (.iconst 1, 1) := by decide +kernel
theorem dX5_total_102 : decode cX5_total 102 = .ok (.iaload, 1) := by decide +kernel
theorem dX5_total_103 : decode cX5_total 103 = .ok (.ireturn, 1) := by decide +kernel
theorem dX5_total_104 : decode cX5_total 104 = .ok (.aload_n 0, 1) := by decide +kernel
theorem dX5_total_105 : decode cX5_total 105 = .ok (.getfield 12, 3) := by decide +kernel
theorem dX5_total_108 : decode cX5_total 108 = .ok (.bipush 7, 2) := by decide +kernel
theorem dX5_total_110 : decode cX5_total 110 = .ok (.invokevirtual 169, 3) := by decide +kernel
theorem dX5_total_113 : decode cX5_total 113 = .ok (.ireturn, 1) := by decide +kernel
theorem dX5_total_114 : decode cX5_total 114 = .ok (.aload_n 0, 1) := by decide +kernel
theorem dX5_total_115 : decode cX5_total 115 = .ok (.getfield 28, 3) := by decide +kernel
theorem dX5_total_118 : decode cX5_total 118 = .ok (.bipush 127, 2) := by decide +kernel
theorem dX5_total_120 : decode cX5_total 120 = .ok (.invokevirtual 122, 3) := by decide +kernel
theorem dX5_total_123 : decode cX5_total 123 = .ok (.ireturn, 1) := by decide +kernel
theorem dX5_total_124 : decode cX5_total 124 = .ok (.aload_n 0, 1) := by decide +kernel
theorem dX5_total_125 : decode cX5_total 125 = .ok (.getfield 28, 3) := by decide +kernel
theorem dX5_total_128 : decode cX5_total 128 = .ok (.invokevirtual 203, 3) := by decide +kernel
theorem dX5_total_131 : decode cX5_total 131 = .ok (.ireturn, 1) := by decide +kernel
theorem dX5_total_132 : decode cX5_total 132 = .ok (.aload_n 0, 1) := by decide +kernel
theorem dX5_total_133 : decode cX5_total 133 = .ok (.getfield 28, 3) := by decide +kernel
theorem dX5_total_136 : decode cX5_total 136 = .ok (.invokevirtual 206, 3) := by decide +kernel
theorem dX5_total_139 : decode cX5_total 139 = .ok (.ireturn, 1) := by decide +kernel
theorem dX5_total_140 : decode cX5_total 140 = .ok (.aload_n 0, 1) := by decide +kernel
theorem dX5_total_141 : decode cX5_total 141 = .ok (.getfield 12, 3) := by decide +kernel
theorem dX5_total_144 : decode cX5_total 144 = .ok (.getfield 209, 3) := by decide +kernel
theorem dX5_total_147 : decode cX5_total 147 = .ok (.ireturn, 1) := by decide +kernel
theorem dX5_total_148 : decode cX5_total 148 = .ok (.aload_n 0, 1) := by decide +kernel
theorem dX5_total_149 : decode cX5_total 149 = .ok (.getfield 12, 3) := by decide +kernel
theorem dX5_total_152 : decode cX5_total 152 = .ok (.getfield 210, 3) := by decide +kernel
theorem dX5_total_155 : decode cX5_total 155 = .ok (.ireturn, 1) := by decide +kernel
theorem dX5_total_156 : decode cX5_total 156 = .ok (.aload_n 0, 1) := by decide +kernel
theorem dX5_total_157 : decode cX5_total 157 = .ok (.getfield 12, 3) := by decide +kernel
theorem dX5_total_160 : decode cX5_total 160 = .ok (.getfield 213, 3) := by decide +kernel
theorem dX5_total_163 : decode cX5_total 163 = .ok (.ireturn, 1) := by decide +kernel
theorem dX5_total_164 : decode cX5_total 164 = .ok (.aload_n 0, 1) := by decide +kernel
theorem dX5_total_165 : decode cX5_total 165 = .ok (.getfield 42, 3) := by decide +kernel
theorem dX5_total_168 : decode cX5_total 168 = .ok (.getfield 160, 3) := by decide +kernel
theorem dX5_total_171 : decode cX5_total 171 = .ok (.ireturn, 1) := by decide +kernel
theorem dX5_total_172 : decode cX5_total 172 = .ok (.aload_n 0, 1) := by decide +kernel
theorem dX5_total_173 : decode cX5_total 173 = .ok (.getfield 35, 3) := by decide +kernel
theorem dX5_total_176 : decode cX5_total 176 = .ok (.getfield 136, 3) := by decide +kernel
theorem dX5_total_179 : decode cX5_total 179 = .ok (.ireturn, 1) := by decide +kernel
set_option maxRecDepth 20000 in
theorem ggX5_ifDivided_X5_isParty : GoodIn wsX5_ifDivided wsX5_isParty := goodIn_r _ [10] (by decide +kernel) (by decide +kernel)
set_option maxRecDepth 20000 in
theorem gX5_ifDivided_X5_isParty : GoodIn wsX5_ifDivided (va_wsS RX5 97 yX5_isParty wsX5_isParty) := goodIn_app (goodIn_of _ (by decide +kernel)) ggX5_ifDivided_X5_isParty
set_option maxRecDepth 20000 in
theorem ggX5_ifDivided_X0_run : GoodIn wsX5_ifDivided wsX0_run := goodIn_r _ [15, 16, 17, 18, 19, 20, 21, 22, 23, 14, 24, 25, 26, 27, 28, 29, 30, 31, 32, 33, 34, 35, 36, 37, 38, 39, 40, 41, 42, 43, 44, 45, 46, 47, 48, 49, 9, 50, 51, 52, 53, 54, 55, 56, 57, 58, 59, 60, 61, 62, 63, 64, 65, 66, 67, 68, 69, 70, 71, 72, 73, 74, 75, 76, 77, 78, 79, 80, 81, 82, 83, 84, 85, 86, 87, 130, 131, 132, 133, 134, 135, 136, 137, 138, 139, 140, 141, 142, 143, 144, 145, 146] (by decide +kernel) (by decide +kernel)
set_option maxRecDepth 20000 in
theorem gX5_ifDivided_X0_run : GoodIn wsX5_ifDivided (wsV RX5 216 RX0 yX0_run wsX0_run) := goodIn_app (goodIn_of _ (by decide +kernel)) ggX5_ifDivided_X0_run
set_option maxRecDepth 20000 in
theorem ggX5_ifDivided_X4_measure : GoodIn wsX5_ifDivided wsX4_measure := goodIn_r _ [92, 93, 94, 95, 9, 96, 97, 61, 62, 30, 63, 59, 147, 148, 149, 150, 151, 138, 139, 140, 141, 142, 143, 144, 145, 146] (by decide +kernel) (by decide +kernel)
set_option maxRecDepth 20000 in
theorem gX5_ifDivided_X4_measure : GoodIn wsX5_ifDivided (wsV RX5 111 RX4 yX4_measure wsX4_measure) := goodIn_app (goodIn_of _ (by decide +kernel)) ggX5_ifDivided_X4_measure
set_option maxRecDepth 20000 in
theorem ggX5_ifDivided_X4_enviesAmong : GoodIn wsX5_ifDivided wsX4_enviesAmong := goodIn_r _ [101, 49, 9, 50, 102, 103, 104, 91, 105, 106, 107, 108, 109, 110, 111, 112, 113, 114, 115, 116, 117, 93, 94, 118, 119, 120, 121, 122, 147, 148, 149, 150, 151, 138, 139, 140, 141, 142, 143, 144, 145, 146] (by decide +kernel) (by decide +kernel)
set_option maxRecDepth 20000 in
theorem gX5_ifDivided_X4_enviesAmong : GoodIn wsX5_ifDivided (wsV RX5 122 RX4 yX4_enviesAmong wsX4_enviesAmong) := goodIn_app (goodIn_of _ (by decide +kernel)) ggX5_ifDivided_X4_enviesAmong
theorem dX5_ifDivided_0 : decode cX5_ifDivided 0 = .ok (.iload_n 1, 1) := by decide +kernel
theorem dX5_ifDivided_1 : decode cX5_ifDivided 1 = .ok (.invokestatic 97, 3) := by decide +kernel
theorem dX5_ifDivided_4 : decode cX5_ifDivided 4 = .ok (.ifCond .eq 12, 3) := by decide +kernel
theorem dX5_ifDivided_7 : decode cX5_ifDivided 7 = .ok (.iload_n 2, 1) := by decide +kernel
theorem dX5_ifDivided_8 : decode cX5_ifDivided 8 = .ok (.ifCond .lt 8, 3) := by decide +kernel
theorem dX5_ifDivided_11 : decode cX5_ifDivided 11 = .ok (.iload_n 2, 1) := by decide +kernel
theorem dX5_ifDivided_12 : decode cX5_ifDivided 12 = .ok (.iconst 4, 1) := by decide +kernel
theorem dX5_ifDivided_13 : decode cX5_ifDivided 13 = .ok (.if_icmp .le 6, 3) := by decide +kernel
theorem dX5_ifDivided_16 : decode cX5_ifDivided 16 = .ok (.bipush (-2), 2) := by decide +kernel
theorem dX5_ifDivided_18 : decode cX5_ifDivided 18 = .ok (.ireturn, 1) := by decide +kernel
theorem dX5_ifDivided_19 : decode cX5_ifDivided 19 = .ok (.aload_n 0, 1) := by decide +kernel
theorem dX5_ifDivided_20 : decode cX5_ifDivided 20 = .ok (.getfield 21, 3) := by decide +kernel
theorem dX5_ifDivided_23 : decode cX5_ifDivided 23 = .ok (.iload_n 1, 1) := by decide +kernel
theorem dX5_ifDivided_24 : decode cX5_ifDivided 24 = .ok (.invokevirtual 216, 3) := by decide +kernel
theorem dX5_ifDivided_27 : decode cX5_ifDivided 27 = .ok (.iload_n 2, 1) := by decide +kernel
theorem dX5_ifDivided_28 : decode cX5_ifDivided 28 = .ok (.tableswitch 82 0 3 #[32, 40, 48, 72], 32) := by decide +kernel
theorem dX5_ifDivided_60 : decode cX5_ifDivided 60 = .ok (.aload_n 0, 1) := by decide +kernel
theorem dX5_ifDivided_61 : decode cX5_ifDivided 61 = .ok (.getfield 21, 3) := by decide +kernel
theorem dX5_ifDivided_64 : decode cX5_ifDivided 64 = .ok (.getfield 104, 3) := by decide +kernel
theorem dX5_ifDivided_67 : decode cX5_ifDivided 67 = .ok (.ireturn, 1) := by decide +kernel
theorem dX5_ifDivided_68 : decode cX5_ifDivided 68 = .ok (.aload_n 0, 1) := by decide +kernel
theorem dX5_ifDivided_69 : decode cX5_ifDivided 69 = .ok (.getfield 21, 3) := by decide +kernel
theorem dX5_ifDivided_72 : decode cX5_ifDivided 72 = .ok (.getfield 219, 3) := by decide +kernel
theorem dX5_ifDivided_75 : decode cX5_ifDivided 75 = .ok (.ireturn, 1) := by decide +kernel
theorem dX5_ifDivided_76 : decode cX5_ifDivided 76 = .ok (.aload_n 0, 1) := by decide +kernel
theorem dX5_ifDivided_77 : decode cX5_ifDivided 77 = .ok (.getfield 28, 3) := by decide +kernel
theorem dX5_ifDivided_80 : decode cX5_ifDivided 80 = .ok (.aload_n 0, 1) := by decide +kernel
theorem dX5_ifDivided_81 : decode cX5_ifDivided 81 = .ok (.getfield 21, 3) := by decide +kernel
theorem dX5_ifDivided_84 : decode cX5_ifDivided 84 = .ok (.getfield 220, 3) := by decide +kernel
theorem dX5_ifDivided_87 : decode cX5_ifDivided 87 = .ok (.invokevirtual 111, 3) := by decide +kernel
theorem dX5_ifDivided_90 : decode cX5_ifDivided 90 = .ok (.aload_n 0, 1) := by decide +kernel
theorem dX5_ifDivided_91 : decode cX5_ifDivided 91 = .ok (.getfield 28, 3) := by decide +kernel
theorem dX5_ifDivided_94 : decode cX5_ifDivided 94 = .ok (.bipush 127, 2) := by decide +kernel
theorem dX5_ifDivided_96 : decode cX5_ifDivided 96 = .ok (.invokevirtual 122, 3) := by decide +kernel
theorem dX5_ifDivided_99 : decode cX5_ifDivided 99 = .ok (.ireturn, 1) := by decide +kernel
theorem dX5_ifDivided_100 : decode cX5_ifDivided 100 = .ok (.aload_n 0, 1) := by decide +kernel
theorem dX5_ifDivided_101 : decode cX5_ifDivided 101 = .ok (.getfield 21, 3) := by decide +kernel
theorem dX5_ifDivided_104 : decode cX5_ifDivided 104 = .ok (.getfield 220, 3) := by decide +kernel
theorem dX5_ifDivided_107 : decode cX5_ifDivided 107 = .ok (.iconst 0, 1) := by decide +kernel
theorem dX5_ifDivided_108 : decode cX5_ifDivided 108 = .ok (.iaload, 1) := by decide +kernel
theorem dX5_ifDivided_109 : decode cX5_ifDivided 109 = .ok (.ireturn, 1) := by decide +kernel
theorem dX5_ifDivided_110 : decode cX5_ifDivided 110 = .ok (.aload_n 0, 1) := by decide +kernel
theorem dX5_ifDivided_111 : decode cX5_ifDivided 111 = .ok (.getfield 21, 3) := by decide +kernel
theorem dX5_ifDivided_114 : decode cX5_ifDivided 114 = .ok (.getfield 221, 3) := by decide +kernel
theorem dX5_ifDivided_117 : decode cX5_ifDivided 117 = .ok (.ireturn, 1) := by decide +kernel
set_option maxRecDepth 20000 in
theorem ggX5_bestTrade_X4_measure : GoodIn wsX5_bestTrade wsX4_measure := goodIn_r _ [11, 12, 13, 14, 15, 16, 17, 18, 19, 20, 21, 22, 91, 92, 93, 94, 95, 82, 83, 84, 85, 86, 87, 88, 89, 90] (by decide +kernel) (by decide +kernel)
set_option maxRecDepth 20000 in
theorem gX5_bestTrade_X4_measure : GoodIn wsX5_bestTrade (wsV RX5 111 RX4 yX4_measure wsX4_measure) := goodIn_app (goodIn_of _ (by decide +kernel)) ggX5_bestTrade_X4_measure
set_option maxRecDepth 20000 in
theorem ggX5_bestTrade_X4_findBestTrade : GoodIn wsX5_bestTrade wsX4_findBestTrade := goodIn_r _ [26, 27, 28, 29, 30, 31, 32, 10, 33, 13, 34, 35, 36, 37, 20, 38, 39, 40, 41, 42, 43, 12, 44, 45, 46, 47, 48, 49, 50, 51, 52, 53, 54, 55, 56, 15, 57, 58, 59, 60, 61, 62, 63, 64, 65, 66, 67, 68, 69, 70, 71, 72, 73, 74, 91, 92, 93, 94, 95, 82, 83, 84, 85, 86, 87, 88, 89, 90] (by decide +kernel) (by decide +kernel)
set_option maxRecDepth 20000 in
theorem gX5_bestTrade_X4_findBestTrade : GoodIn wsX5_bestTrade (wsV RX5 126 RX4 yX4_findBestTrade wsX4_findBestTrade) := goodIn_app (goodIn_of _ (by decide +kernel)) ggX5_bestTrade_X4_findBestTrade
theorem dX5_bestTrade_0 : decode cX5_bestTrade 0 = .ok (.iload_n 1, 1) := by decide +kernel
theorem dX5_bestTrade_1 : decode cX5_bestTrade 1 = .ok (.ifCond .lt 8, 3) := by decide +kernel
theorem dX5_bestTrade_4 : decode cX5_bestTrade 4 = .ok (.iload_n 1, 1) := by decide +kernel
theorem dX5_bestTrade_5 : decode cX5_bestTrade 5 = .ok (.iconst 1, 1) := by decide +kernel
theorem dX5_bestTrade_6 : decode cX5_bestTrade 6 = .ok (.if_icmp .le 6, 3) := by decide +kernel
theorem dX5_bestTrade_9 : decode cX5_bestTrade 9 = .ok (.bipush (-2), 2) := by decide +kernel
theorem dX5_bestTrade_11 : decode cX5_bestTrade 11 = .ok (.ireturn, 1) := by decide +kernel
theorem dX5_bestTrade_12 : decode cX5_bestTrade 12 = .ok (.aload_n 0, 1) := by decide +kernel
theorem dX5_bestTrade_13 : decode cX5_bestTrade 13 = .ok (.getfield 28, 3) := by decide +kernel
theorem dX5_bestTrade_16 : decode cX5_bestTrade 16 = .ok (.aload_n 0, 1) := by decide +kernel
theorem dX5_bestTrade_17 : decode cX5_bestTrade 17 = .ok (.getfield 12, 3) := by decide +kernel
theorem dX5_bestTrade_20 : decode cX5_bestTrade 20 = .ok (.getfield 108, 3) := by decide +kernel
theorem dX5_bestTrade_23 : decode cX5_bestTrade 23 = .ok (.invokevirtual 111, 3) := by decide +kernel
theorem dX5_bestTrade_26 : decode cX5_bestTrade 26 = .ok (.aload_n 0, 1) := by decide +kernel
theorem dX5_bestTrade_27 : decode cX5_bestTrade 27 = .ok (.getfield 28, 3) := by decide +kernel
theorem dX5_bestTrade_30 : decode cX5_bestTrade 30 = .ok (.invokevirtual 126, 3) := by decide +kernel
theorem dX5_bestTrade_33 : decode cX5_bestTrade 33 = .ok (.ifCond .ne 6, 3) := by decide +kernel
theorem dX5_bestTrade_36 : decode cX5_bestTrade 36 = .ok (.bipush (-5), 2) := by decide +kernel
theorem dX5_bestTrade_38 : decode cX5_bestTrade 38 = .ok (.ireturn, 1) := by decide +kernel
theorem dX5_bestTrade_39 : decode cX5_bestTrade 39 = .ok (.iload_n 1, 1) := by decide +kernel
theorem dX5_bestTrade_40 : decode cX5_bestTrade 40 = .ok (.ifCond .ne 24, 3) := by decide +kernel
theorem dX5_bestTrade_43 : decode cX5_bestTrade 43 = .ok (.bipush 10, 2) := by decide +kernel
theorem dX5_bestTrade_45 : decode cX5_bestTrade 45 = .ok (.aload_n 0, 1) := by decide +kernel
theorem dX5_bestTrade_46 : decode cX5_bestTrade 46 = .ok (.getfield 28, 3) := by decide +kernel
theorem dX5_bestTrade_49 : decode cX5_bestTrade 49 = .ok (.getfield 130, 3) := by decide +kernel
theorem dX5_bestTrade_52 : decode cX5_bestTrade 52 = .ok (.imul, 1) := by decide +kernel
theorem dX5_bestTrade_53 : decode cX5_bestTrade 53 = .ok (.aload_n 0, 1) := by decide +kernel
theorem dX5_bestTrade_54 : decode cX5_bestTrade 54 = .ok (.getfield 28, 3) := by decide +kernel
theorem dX5_bestTrade_57 : decode cX5_bestTrade 57 = .ok (.getfield 133, 3) := by decide +kernel
theorem dX5_bestTrade_60 : decode cX5_bestTrade 60 = .ok (.iadd, 1) := by decide +kernel
theorem dX5_bestTrade_61 : decode cX5_bestTrade 61 = .ok (.goto 10, 3) := by decide +kernel
theorem dX5_bestTrade_64 : decode cX5_bestTrade 64 = .ok (.aload_n 0, 1) := by decide +kernel
theorem dX5_bestTrade_65 : decode cX5_bestTrade 65 = .ok (.getfield 28, 3) := by decide +kernel
theorem dX5_bestTrade_68 : decode cX5_bestTrade 68 = .ok (.getfield 224, 3) := by decide +kernel
theorem dX5_bestTrade_71 : decode cX5_bestTrade 71 = .ok (.ireturn, 1) := by decide +kernel
set_option maxRecDepth 20000 in
theorem ggX5_bestWithout_X5_enviesWithout : GoodIn wsX5_bestWithout wsX5_enviesWithout := goodIn_r _ [5, 6, 7, 8, 9, 10, 4, 11, 12, 13, 14, 15, 16, 17, 18, 19, 20, 21, 22, 23, 24, 25, 26, 27, 28, 29, 30, 31, 32, 33, 34, 35, 36, 37, 38, 39, 40, 41, 42, 43, 44, 45, 46, 47, 48, 49, 50, 51, 52, 53, 54, 55, 56, 57, 58, 59, 60, 61, 62, 63, 64, 65, 66, 67, 68, 69, 70, 71, 72, 73, 74, 75, 76, 77, 78, 79, 80, 81, 82, 83, 84, 85, 86, 87, 88, 89, 90, 91, 92, 93, 94, 95, 96, 97, 98, 99, 100, 101, 102, 103, 104, 105, 106, 107, 108, 109, 110, 111, 112, 113, 114, 115, 116, 117, 118, 119, 120, 121, 122, 123, 124, 125, 126, 127, 128, 129, 130, 131, 132, 133, 134, 135, 136, 137, 138, 139, 140, 141, 142, 143, 144, 145, 146, 147, 148, 149, 150] (by decide +kernel) (by decide +kernel)
set_option maxRecDepth 20000 in
theorem gX5_bestWithout_X5_enviesWithout : GoodIn wsX5_bestWithout (wsV RX5 227 RX5 yX5_enviesWithout wsX5_enviesWithout) := goodIn_app (goodIn_of _ (by decide +kernel)) ggX5_bestWithout_X5_enviesWithout
theorem dX5_bestWithout_0 : decode cX5_bestWithout 0 = .ok (.iload_n 1, 1) := by decide +kernel
theorem dX5_bestWithout_1 : decode cX5_bestWithout 1 = .ok (.ifCond .lt 8, 3) := by decide +kernel
theorem dX5_bestWithout_4 : decode cX5_bestWithout 4 = .ok (.iload_n 1, 1) := by decide +kernel
theorem dX5_bestWithout_5 : decode cX5_bestWithout 5 = .ok (.iconst 1, 1) := by decide +kernel
theorem dX5_bestWithout_6 : decode cX5_bestWithout 6 = .ok (.if_icmp .le 6, 3) := by decide +kernel
theorem dX5_bestWithout_9 : decode cX5_bestWithout 9 = .ok (.bipush (-2), 2) := by decide +kernel
theorem dX5_bestWithout_11 : decode cX5_bestWithout 11 = .ok (.ireturn, 1) := by decide +kernel
theorem dX5_bestWithout_12 : decode cX5_bestWithout 12 = .ok (.iconst 0, 1) := by decide +kernel
theorem dX5_bestWithout_13 : decode cX5_bestWithout 13 = .ok (.istore_n 2, 1) := by decide +kernel
theorem dX5_bestWithout_14 : decode cX5_bestWithout 14 = .ok (.aload_n 0, 1) := by decide +kernel
theorem dX5_bestWithout_15 : decode cX5_bestWithout 15 = .ok (.iconst 0, 1) := by decide +kernel
theorem dX5_bestWithout_16 : decode cX5_bestWithout 16 = .ok (.invokevirtual 227, 3) := by decide +kernel
theorem dX5_bestWithout_19 : decode cX5_bestWithout 19 = .ok (.istore_n 3, 1) := by decide +kernel
theorem dX5_bestWithout_20 : decode cX5_bestWithout 20 = .ok (.iconst 1, 1) := by decide +kernel
theorem dX5_bestWithout_21 : decode cX5_bestWithout 21 = .ok (.istore 4, 2) := by decide +kernel
theorem dX5_bestWithout_23 : decode cX5_bestWithout 23 = .ok (.iload 4, 2) := by decide +kernel
theorem dX5_bestWithout_25 : decode cX5_bestWithout 25 = .ok (.bipush 7, 2) := by decide +kernel
theorem dX5_bestWithout_27 : decode cX5_bestWithout 27 = .ok (.if_icmp .ge 29, 3) := by decide +kernel
theorem dX5_bestWithout_30 : decode cX5_bestWithout 30 = .ok (.aload_n 0, 1) := by decide +kernel
theorem dX5_bestWithout_31 : decode cX5_bestWithout 31 = .ok (.iload 4, 2) := by decide +kernel
theorem dX5_bestWithout_33 : decode cX5_bestWithout 33 = .ok (.invokevirtual 227, 3) := by decide +kernel
theorem dX5_bestWithout_36 : decode cX5_bestWithout 36 = .ok (.istore 5, 2) := by decide +kernel
theorem dX5_bestWithout_38 : decode cX5_bestWithout 38 = .ok (.iload 5, 2) := by decide +kernel
theorem dX5_bestWithout_40 : decode cX5_bestWithout 40 = .ok (.iload_n 3, 1) := by decide +kernel
theorem dX5_bestWithout_41 : decode cX5_bestWithout 41 = .ok (.if_icmp .ge 9, 3) := by decide +kernel
theorem dX5_bestWithout_44 : decode cX5_bestWithout 44 = .ok (.iload 4, 2) := by decide +kernel
theorem dX5_bestWithout_46 : decode cX5_bestWithout 46 = .ok (.istore_n 2, 1) := by decide +kernel
theorem dX5_bestWithout_47 : decode cX5_bestWithout 47 = .ok (.iload 5, 2) := by decide +kernel
theorem dX5_bestWithout_49 : decode cX5_bestWithout 49 = .ok (.istore_n 3, 1) := by decide +kernel
theorem dX5_bestWithout_50 : decode cX5_bestWithout 50 = .ok (.iinc 4 1, 3) := by decide +kernel
theorem dX5_bestWithout_53 : decode cX5_bestWithout 53 = .ok (.goto (-30), 3) := by decide +kernel
theorem dX5_bestWithout_56 : decode cX5_bestWithout 56 = .ok (.iload_n 1, 1) := by decide +kernel
theorem dX5_bestWithout_57 : decode cX5_bestWithout 57 = .ok (.ifCond .ne 7, 3) := by decide +kernel
theorem dX5_bestWithout_60 : decode cX5_bestWithout 60 = .ok (.iload_n 2, 1) := by decide +kernel
theorem dX5_bestWithout_61 : decode cX5_bestWithout 61 = .ok (.goto 4, 3) := by decide +kernel
theorem dX5_bestWithout_64 : decode cX5_bestWithout 64 = .ok (.iload_n 3, 1) := by decide +kernel
theorem dX5_bestWithout_65 : decode cX5_bestWithout 65 = .ok (.ireturn, 1) := by decide +kernel
theorem dX5_isPlot_0 : decode cX5_isPlot 0 = .ok (.iload_n 0, 1) := by decide +kernel
theorem dX5_isPlot_1 : decode cX5_isPlot 1 = .ok (.ifCond .lt 13, 3) := by decide +kernel
theorem dX5_isPlot_4 : decode cX5_isPlot 4 = .ok (.iload_n 0, 1) := by decide +kernel
theorem dX5_isPlot_5 : decode cX5_isPlot 5 = .ok (.bipush 24, 2) := by decide +kernel
theorem dX5_isPlot_7 : decode cX5_isPlot 7 = .ok (.if_icmp .ge 7, 3) := by decide +kernel
theorem dX5_isPlot_10 : decode cX5_isPlot 10 = .ok (.iconst 1, 1) := by decide +kernel
theorem dX5_isPlot_11 : decode cX5_isPlot 11 = .ok (.goto 4, 3) := by decide +kernel
theorem dX5_isPlot_14 : decode cX5_isPlot 14 = .ok (.iconst 0, 1) := by decide +kernel
theorem dX5_isPlot_15 : decode cX5_isPlot 15 = .ok (.ireturn, 1) := by decide +kernel
theorem dX5_isCrop_0 : decode cX5_isCrop 0 = .ok (.iload_n 0, 1) := by decide +kernel
theorem dX5_isCrop_1 : decode cX5_isCrop 1 = .ok (.ifCond .lt 12, 3) := by decide +kernel
theorem dX5_isCrop_4 : decode cX5_isCrop 4 = .ok (.iload_n 0, 1) := by decide +kernel
theorem dX5_isCrop_5 : decode cX5_isCrop 5 = .ok (.iconst 4, 1) := by decide +kernel
theorem dX5_isCrop_6 : decode cX5_isCrop 6 = .ok (.if_icmp .ge 7, 3) := by decide +kernel
theorem dX5_isCrop_9 : decode cX5_isCrop 9 = .ok (.iconst 1, 1) := by decide +kernel
theorem dX5_isCrop_10 : decode cX5_isCrop 10 = .ok (.goto 4, 3) := by decide +kernel
theorem dX5_isCrop_13 : decode cX5_isCrop 13 = .ok (.iconst 0, 1) := by decide +kernel
theorem dX5_isCrop_14 : decode cX5_isCrop 14 = .ok (.ireturn, 1) := by decide +kernel
theorem dX5_isCousin_0 : decode cX5_isCousin 0 = .ok (.iload_n 0, 1) := by decide +kernel
theorem dX5_isCousin_1 : decode cX5_isCousin 1 = .ok (.ifCond .lt 13, 3) := by decide +kernel
theorem dX5_isCousin_4 : decode cX5_isCousin 4 = .ok (.iload_n 0, 1) := by decide +kernel
theorem dX5_isCousin_5 : decode cX5_isCousin 5 = .ok (.bipush 7, 2) := by decide +kernel
theorem dX5_isCousin_7 : decode cX5_isCousin 7 = .ok (.if_icmp .ge 7, 3) := by decide +kernel
theorem dX5_isCousin_10 : decode cX5_isCousin 10 = .ok (.iconst 1, 1) := by decide +kernel
theorem dX5_isCousin_11 : decode cX5_isCousin 11 = .ok (.goto 4, 3) := by decide +kernel
theorem dX5_isCousin_14 : decode cX5_isCousin 14 = .ok (.iconst 0, 1) := by decide +kernel
theorem dX5_isCousin_15 : decode cX5_isCousin 15 = .ok (.ireturn, 1) := by decide +kernel
theorem dX5_isDigit_0 : decode cX5_isDigit 0 = .ok (.iload_n 0, 1) := by decide +kernel
theorem dX5_isDigit_1 : decode cX5_isDigit 1 = .ok (.ifCond .lt 13, 3) := by decide +kernel
theorem dX5_isDigit_4 : decode cX5_isDigit 4 = .ok (.iload_n 0, 1) := by decide +kernel
theorem dX5_isDigit_5 : decode cX5_isDigit 5 = .ok (.bipush 9, 2) := by decide +kernel
theorem dX5_isDigit_7 : decode cX5_isDigit 7 = .ok (.if_icmp .gt 7, 3) := by decide +kernel
theorem dX5_isDigit_10 : decode cX5_isDigit 10 = .ok (.iconst 1, 1) := by decide +kernel
theorem dX5_isDigit_11 : decode cX5_isDigit 11 = .ok (.goto 4, 3) := by decide +kernel
theorem dX5_isDigit_14 : decode cX5_isDigit 14 = .ok (.iconst 0, 1) := by decide +kernel
theorem dX5_isDigit_15 : decode cX5_isDigit 15 = .ok (.ireturn, 1) := by decide +kernel
theorem dX5_isParty_0 : decode cX5_isParty 0 = .ok (.iload_n 0, 1) := by decide +kernel
theorem dX5_isParty_1 : decode cX5_isParty 1 = .ok (.iconst 1, 1) := by decide +kernel
theorem dX5_isParty_2 : decode cX5_isParty 2 = .ok (.if_icmp .lt 13, 3) := by decide +kernel
theorem dX5_isParty_5 : decode cX5_isParty 5 = .ok (.iload_n 0, 1) := by decide +kernel
theorem dX5_isParty_6 : decode cX5_isParty 6 = .ok (.bipush 127, 2) := by decide +kernel
theorem dX5_isParty_8 : decode cX5_isParty 8 = .ok (.if_icmp .gt 7, 3) := by decide +kernel
theorem dX5_isParty_11 : decode cX5_isParty 11 = .ok (.iconst 1, 1) := by decide +kernel
theorem dX5_isParty_12 : decode cX5_isParty 12 = .ok (.goto 4, 3) := by decide +kernel
theorem dX5_isParty_15 : decode cX5_isParty 15 = .ok (.iconst 0, 1) := by decide +kernel
theorem dX5_isParty_16 : decode cX5_isParty 16 = .ok (.ireturn, 1) := by decide +kernel
theorem dX5_isSettingValue_0 : decode cX5_isSettingValue 0 = .ok (.iload_n 0, 1) := by decide +kernel
theorem dX5_isSettingValue_1 : decode cX5_isSettingValue 1 = .ok (.ifCond .ne 18, 3) := by decide +kernel
theorem dX5_isSettingValue_4 : decode cX5_isSettingValue 4 = .ok (.iload_n 1, 1) := by decide +kernel
theorem dX5_isSettingValue_5 : decode cX5_isSettingValue 5 = .ok (.ifCond .eq 8, 3) := by decide +kernel
theorem dX5_isSettingValue_8 : decode cX5_isSettingValue 8 = .ok (.iload_n 1, 1) := by decide +kernel
theorem dX5_isSettingValue_9 : decode cX5_isSettingValue 9 = .ok (.iconst 1, 1) := by decide +kernel
theorem dX5_isSettingValue_10 : decode cX5_isSettingValue 10 = .ok (.if_icmp .ne 7, 3) := by decide +kernel
theorem dX5_isSettingValue_13 : decode cX5_isSettingValue 13 = .ok (.iconst 1, 1) := by decide +kernel
theorem dX5_isSettingValue_14 : decode cX5_isSettingValue 14 = .ok (.goto 4, 3) := by decide +kernel
theorem dX5_isSettingValue_17 : decode cX5_isSettingValue 17 = .ok (.iconst 0, 1) := by decide +kernel
theorem dX5_isSettingValue_18 : decode cX5_isSettingValue 18 = .ok (.ireturn, 1) := by decide +kernel
theorem dX5_isSettingValue_19 : decode cX5_isSettingValue 19 = .ok (.iload_n 1, 1) := by decide +kernel
theorem dX5_isSettingValue_20 : decode cX5_isSettingValue 20 = .ok (.iconst 1, 1) := by decide +kernel
theorem dX5_isSettingValue_21 : decode cX5_isSettingValue 21 = .ok (.if_icmp .lt 13, 3) := by decide +kernel
theorem dX5_isSettingValue_24 : decode cX5_isSettingValue 24 = .ok (.iload_n 1, 1) := by decide +kernel
theorem dX5_isSettingValue_25 : decode cX5_isSettingValue 25 = .ok (.bipush 10, 2) := by decide +kernel
theorem dX5_isSettingValue_27 : decode cX5_isSettingValue 27 = .ok (.if_icmp .gt 7, 3) := by decide +kernel
theorem dX5_isSettingValue_30 : decode cX5_isSettingValue 30 = .ok (.iconst 1, 1) := by decide +kernel
theorem dX5_isSettingValue_31 : decode cX5_isSettingValue 31 = .ok (.goto 4, 3) := by decide +kernel
theorem dX5_isSettingValue_34 : decode cX5_isSettingValue 34 = .ok (.iconst 0, 1) := by decide +kernel
theorem dX5_isSettingValue_35 : decode cX5_isSettingValue 35 = .ok (.ireturn, 1) := by decide +kernel
theorem dX5_contains_0 : decode cX5_contains 0 = .ok (.iload_n 0, 1) := by decide +kernel
theorem dX5_contains_1 : decode cX5_contains 1 = .ok (.iconst 1, 1) := by decide +kernel
theorem dX5_contains_2 : decode cX5_contains 2 = .ok (.iload_n 1, 1) := by decide +kernel
theorem dX5_contains_3 : decode cX5_contains 3 = .ok (.ishl, 1) := by decide +kernel
theorem dX5_contains_4 : decode cX5_contains 4 = .ok (.iand, 1) := by decide +kernel
theorem dX5_contains_5 : decode cX5_contains 5 = .ok (.ifCond .eq 7, 3) := by decide +kernel
theorem dX5_contains_8 : decode cX5_contains 8 = .ok (.iconst 1, 1) := by decide +kernel
theorem dX5_contains_9 : decode cX5_contains 9 = .ok (.goto 4, 3) := by decide +kernel
theorem dX5_contains_12 : decode cX5_contains 12 = .ok (.iconst 0, 1) := by decide +kernel
theorem dX5_contains_13 : decode cX5_contains 13 = .ok (.ireturn, 1) := by decide +kernel
theorem dX5_without_0 : decode cX5_without 0 = .ok (.iload_n 0, 1) := by decide +kernel
theorem dX5_without_1 : decode cX5_without 1 = .ok (.iconst 1, 1) := by decide +kernel
theorem dX5_without_2 : decode cX5_without 2 = .ok (.iload_n 1, 1) := by decide +kernel
theorem dX5_without_3 : decode cX5_without 3 = .ok (.ishl, 1) := by decide +kernel
theorem dX5_without_4 : decode cX5_without 4 = .ok (.iconst (-1), 1) := by decide +kernel
theorem dX5_without_5 : decode cX5_without 5 = .ok (.ixor, 1) := by decide +kernel
theorem dX5_without_6 : decode cX5_without 6 = .ok (.iand, 1) := by decide +kernel
theorem dX5_without_7 : decode cX5_without 7 = .ok (.ireturn, 1) := by decide +kernel
theorem dX5_hundredths_0 : decode cX5_hundredths 0 = .ok (.iload_n 1, 1) := by decide +kernel
theorem dX5_hundredths_1 : decode cX5_hundredths 1 = .ok (.ifCond .ne 7, 3) := by decide +kernel
theorem dX5_hundredths_4 : decode cX5_hundredths 4 = .ok (.iconst 0, 1) := by decide +kernel
theorem dX5_hundredths_5 : decode cX5_hundredths 5 = .ok (.goto 9, 3) := by decide +kernel
theorem dX5_hundredths_8 : decode cX5_hundredths 8 = .ok (.iload_n 0, 1) := by decide +kernel
theorem dX5_hundredths_9 : decode cX5_hundredths 9 = .ok (.bipush 100, 2) := by decide +kernel
theorem dX5_hundredths_11 : decode cX5_hundredths 11 = .ok (.imul, 1) := by decide +kernel
theorem dX5_hundredths_12 : decode cX5_hundredths 12 = .ok (.iload_n 1, 1) := by decide +kernel
theorem dX5_hundredths_13 : decode cX5_hundredths 13 = .ok (.idiv, 1) := by decide +kernel
theorem dX5_hundredths_14 : decode cX5_hundredths 14 = .ok (.ireturn, 1) := by decide +kernel
set_option maxRecDepth 20000 in
theorem ggX5_divideNow_X0_run : GoodIn wsX5_divideNow wsX0_run := goodIn_r _ [17, 18, 19, 20, 21, 22, 23, 24, 25, 16, 26, 27, 28, 29, 30, 31, 32, 33, 34, 35, 36, 37, 38, 39, 40, 41, 42, 43, 44, 45, 46, 47, 48, 49, 50, 51, 52, 53, 54, 55, 56, 57, 58, 59, 60, 61, 62, 63, 64, 65, 66, 67, 68, 69, 70, 71, 72, 73, 74, 75, 76, 77, 78, 79, 80, 81, 82, 83, 84, 85, 86, 87, 88, 89, 90, 98, 99, 100, 101, 102, 103, 104, 105, 106, 107, 108, 109, 110, 111, 112, 113, 114] (by decide +kernel) (by decide +kernel)
set_option maxRecDepth 20000 in
theorem gX5_divideNow_X0_run : GoodIn wsX5_divideNow (wsV RX5 216 RX0 yX0_run wsX0_run) := goodIn_app (goodIn_of _ (by decide +kernel)) ggX5_divideNow_X0_run
theorem dX5_divideNow_0 : decode cX5_divideNow 0 = .ok (.aload_n 0, 1) := by decide +kernel
theorem dX5_divideNow_1 : decode cX5_divideNow 1 = .ok (.getfield 21, 3) := by decide +kernel
theorem dX5_divideNow_4 : decode cX5_divideNow 4 = .ok (.iload_n 1, 1) := by decide +kernel
theorem dX5_divideNow_5 : decode cX5_divideNow 5 = .ok (.invokevirtual 216, 3) := by decide +kernel
theorem dX5_divideNow_8 : decode cX5_divideNow 8 = .ok (.aload_n 0, 1) := by decide +kernel
theorem dX5_divideNow_9 : decode cX5_divideNow 9 = .ok (.getfield 21, 3) := by decide +kernel
theorem dX5_divideNow_12 : decode cX5_divideNow 12 = .ok (.getfield 220, 3) := by decide +kernel
theorem dX5_divideNow_15 : decode cX5_divideNow 15 = .ok (.iconst 0, 1) := by decide +kernel
theorem dX5_divideNow_16 : decode cX5_divideNow 16 = .ok (.aload_n 0, 1) := by decide +kernel
theorem dX5_divideNow_17 : decode cX5_divideNow 17 = .ok (.getfield 12, 3) := by decide +kernel
theorem dX5_divideNow_20 : decode cX5_divideNow 20 = .ok (.getfield 108, 3) := by decide +kernel
theorem dX5_divideNow_23 : decode cX5_divideNow 23 = .ok (.iconst 0, 1) := by decide +kernel
theorem dX5_divideNow_24 : decode cX5_divideNow 24 = .ok (.bipush 24, 2) := by decide +kernel
theorem dX5_divideNow_26 : decode cX5_divideNow 26 = .ok (.invokestatic 230, 3) := by decide +kernel
theorem dX5_divideNow_29 : decode cX5_divideNow 29 = .ok (.aload_n 0, 1) := by decide +kernel
theorem dX5_divideNow_30 : decode cX5_divideNow 30 = .ok (.getfield 12, 3) := by decide +kernel
theorem dX5_divideNow_33 : decode cX5_divideNow 33 = .ok (.dup, 1) := by decide +kernel
theorem dX5_divideNow_34 : decode cX5_divideNow 34 = .ok (.getfield 209, 3) := by decide +kernel
theorem dX5_divideNow_37 : decode cX5_divideNow 37 = .ok (.aload_n 0, 1) := by decide +kernel
theorem dX5_divideNow_38 : decode cX5_divideNow 38 = .ok (.getfield 21, 3) := by decide +kernel
theorem dX5_divideNow_41 : decode cX5_divideNow 41 = .ok (.getfield 104, 3) := by decide +kernel
theorem dX5_divideNow_44 : decode cX5_divideNow 44 = .ok (.iadd, 1) := by decide +kernel
theorem dX5_divideNow_45 : decode cX5_divideNow 45 = .ok (.putfield 209, 3) := by decide +kernel
theorem dX5_divideNow_48 : decode cX5_divideNow 48 = .ok (.aload_n 0, 1) := by decide +kernel
theorem dX5_divideNow_49 : decode cX5_divideNow 49 = .ok (.getfield 12, 3) := by decide +kernel
theorem dX5_divideNow_52 : decode cX5_divideNow 52 = .ok (.dup, 1) := by decide +kernel
theorem dX5_divideNow_53 : decode cX5_divideNow 53 = .ok (.getfield 210, 3) := by decide +kernel
theorem dX5_divideNow_56 : decode cX5_divideNow 56 = .ok (.aload_n 0, 1) := by decide +kernel
theorem dX5_divideNow_57 : decode cX5_divideNow 57 = .ok (.getfield 21, 3) := by decide +kernel
theorem dX5_divideNow_60 : decode cX5_divideNow 60 = .ok (.getfield 219, 3) := by decide +kernel
theorem dX5_divideNow_63 : decode cX5_divideNow 63 = .ok (.iadd, 1) := by decide +kernel
theorem dX5_divideNow_64 : decode cX5_divideNow 64 = .ok (.putfield 210, 3) := by decide +kernel
theorem dX5_divideNow_67 : decode cX5_divideNow 67 = .ok (.return_, 1) := by decide +kernel
set_option maxRecDepth 20000 in
theorem ggX5_tradeNow_X1_exchange : GoodIn wsX5_tradeNow wsX1_exchange := goodIn_r _ [8, 9, 23, 24, 25, 26, 27, 28, 29, 30, 31] (by decide +kernel) (by decide +kernel)
set_option maxRecDepth 20000 in
theorem gX5_tradeNow_X1_exchange : GoodIn wsX5_tradeNow (wsV RX5 236 RX1 yX1_exchange wsX1_exchange) := goodIn_app (goodIn_of _ (by decide +kernel)) ggX5_tradeNow_X1_exchange
set_option maxRecDepth 20000 in
theorem ggX5_tradeNow_X4_exchange : GoodIn wsX5_tradeNow wsX4_exchange := goodIn_r _ [14, 15, 32, 33, 34, 35, 36] (by decide +kernel) (by decide +kernel)
set_option maxRecDepth 20000 in
theorem gX5_tradeNow_X4_exchange : GoodIn wsX5_tradeNow (wsV RX5 239 RX4 yX4_exchange wsX4_exchange) := goodIn_app (goodIn_of _ (by decide +kernel)) ggX5_tradeNow_X4_exchange
theorem dX5_tradeNow_0 : decode cX5_tradeNow 0 = .ok (.aload_n 0, 1) := by decide +kernel
theorem dX5_tradeNow_1 : decode cX5_tradeNow 1 = .ok (.getfield 12, 3) := by decide +kernel
theorem dX5_tradeNow_4 : decode cX5_tradeNow 4 = .ok (.iload_n 1, 1) := by decide +kernel
theorem dX5_tradeNow_5 : decode cX5_tradeNow 5 = .ok (.iload_n 2, 1) := by decide +kernel
theorem dX5_tradeNow_6 : decode cX5_tradeNow 6 = .ok (.invokevirtual 236, 3) := by decide +kernel
theorem dX5_tradeNow_9 : decode cX5_tradeNow 9 = .ok (.aload_n 0, 1) := by decide +kernel
theorem dX5_tradeNow_10 : decode cX5_tradeNow 10 = .ok (.getfield 12, 3) := by decide +kernel
theorem dX5_tradeNow_13 : decode cX5_tradeNow 13 = .ok (.dup, 1) := by decide +kernel
theorem dX5_tradeNow_14 : decode cX5_tradeNow 14 = .ok (.getfield 213, 3) := by decide +kernel
theorem dX5_tradeNow_17 : decode cX5_tradeNow 17 = .ok (.iconst 1, 1) := by decide +kernel
theorem dX5_tradeNow_18 : decode cX5_tradeNow 18 = .ok (.iadd, 1) := by decide +kernel
theorem dX5_tradeNow_19 : decode cX5_tradeNow 19 = .ok (.putfield 213, 3) := by decide +kernel
theorem dX5_tradeNow_22 : decode cX5_tradeNow 22 = .ok (.aload_n 0, 1) := by decide +kernel
theorem dX5_tradeNow_23 : decode cX5_tradeNow 23 = .ok (.getfield 28, 3) := by decide +kernel
theorem dX5_tradeNow_26 : decode cX5_tradeNow 26 = .ok (.iload_n 1, 1) := by decide +kernel
theorem dX5_tradeNow_27 : decode cX5_tradeNow 27 = .ok (.iload_n 2, 1) := by decide +kernel
theorem dX5_tradeNow_28 : decode cX5_tradeNow 28 = .ok (.invokevirtual 239, 3) := by decide +kernel
theorem dX5_tradeNow_31 : decode cX5_tradeNow 31 = .ok (.return_, 1) := by decide +kernel
set_option maxRecDepth 20000 in
theorem ggX5_enviesWithout_X5_without : GoodIn wsX5_enviesWithout wsX5_without := goodIn_r _ [7] (by decide +kernel) (by decide +kernel)
set_option maxRecDepth 20000 in
theorem gX5_enviesWithout_X5_without : GoodIn wsX5_enviesWithout (va_wsS RX5 240 yX5_without wsX5_without) := goodIn_app (goodIn_of _ (by decide +kernel)) ggX5_enviesWithout_X5_without
set_option maxRecDepth 20000 in
theorem ggX5_enviesWithout_X0_run : GoodIn wsX5_enviesWithout wsX0_run := goodIn_r _ [12, 13, 14, 15, 16, 17, 18, 19, 20, 11, 21, 22, 23, 24, 25, 26, 27, 28, 29, 30, 31, 32, 33, 34, 35, 36, 37, 38, 39, 40, 41, 42, 43, 44, 45, 46, 6, 47, 48, 49, 50, 51, 52, 53, 54, 55, 56, 57, 58, 59, 60, 61, 62, 63, 64, 65, 66, 67, 68, 69, 70, 71, 72, 73, 74, 75, 76, 77, 78, 5, 7, 79, 80, 81, 82, 125, 126, 127, 128, 129, 130, 131, 132, 133, 134, 135, 136, 137, 138, 139, 140, 141] (by decide +kernel) (by decide +kernel)
set_option maxRecDepth 20000 in
theorem gX5_enviesWithout_X0_run : GoodIn wsX5_enviesWithout (wsV RX5 216 RX0 yX0_run wsX0_run) := goodIn_app (goodIn_of _ (by decide +kernel)) ggX5_enviesWithout_X0_run
set_option maxRecDepth 20000 in
theorem ggX5_enviesWithout_X4_measure : GoodIn wsX5_enviesWithout wsX4_measure := goodIn_r _ [87, 88, 89, 90, 6, 91, 92, 58, 59, 27, 60, 56, 142, 143, 144, 145, 146, 133, 134, 135, 136, 137, 138, 139, 140, 141] (by decide +kernel) (by decide +kernel)
set_option maxRecDepth 20000 in
theorem gX5_enviesWithout_X4_measure : GoodIn wsX5_enviesWithout (wsV RX5 111 RX4 yX4_measure wsX4_measure) := goodIn_app (goodIn_of _ (by decide +kernel)) ggX5_enviesWithout_X4_measure
set_option maxRecDepth 20000 in
theorem ggX5_enviesWithout_X4_enviesAmong : GoodIn wsX5_enviesWithout wsX4_enviesAmong := goodIn_r _ [96, 46, 6, 47, 97, 98, 99, 86, 100, 101, 102, 103, 104, 105, 106, 107, 108, 109, 110, 111, 112, 88, 89, 113, 114, 115, 116, 117, 142, 143, 144, 145, 146, 133, 134, 135, 136, 137, 138, 139, 140, 141] (by decide +kernel) (by decide +kernel)
set_option maxRecDepth 20000 in
theorem gX5_enviesWithout_X4_enviesAmong : GoodIn wsX5_enviesWithout (wsV RX5 122 RX4 yX4_enviesAmong wsX4_enviesAmong) := goodIn_app (goodIn_of _ (by decide +kernel)) ggX5_enviesWithout_X4_enviesAmong
theorem dX5_enviesWithout_0 : decode cX5_enviesWithout 0 = .ok (.bipush 127, 2) := by decide +kernel
theorem dX5_enviesWithout_2 : decode cX5_enviesWithout 2 = .ok (.iload_n 1, 1) := by decide +kernel
theorem dX5_enviesWithout_3 : decode cX5_enviesWithout 3 = .ok (.invokestatic 240, 3) := by decide +kernel
theorem dX5_enviesWithout_6 : decode cX5_enviesWithout 6 = .ok (.istore_n 2, 1) := by decide +kernel
theorem dX5_enviesWithout_7 : decode cX5_enviesWithout 7 = .ok (.aload_n 0, 1) := by decide +kernel
theorem dX5_enviesWithout_8 : decode cX5_enviesWithout 8 = .ok (.getfield 21, 3) := by decide +kernel
theorem dX5_enviesWithout_11 : decode cX5_enviesWithout 11 = .ok (.iload_n 2, 1) := by decide +kernel
theorem dX5_enviesWithout_12 : decode cX5_enviesWithout 12 = .ok (.invokevirtual 216, 3) := by decide +kernel
theorem dX5_enviesWithout_15 : decode cX5_enviesWithout 15 = .ok (.aload_n 0, 1) := by decide +kernel
theorem dX5_enviesWithout_16 : decode cX5_enviesWithout 16 = .ok (.getfield 28, 3) := by decide +kernel
theorem dX5_enviesWithout_19 : decode cX5_enviesWithout 19 = .ok (.aload_n 0, 1) := by decide +kernel
theorem dX5_enviesWithout_20 : decode cX5_enviesWithout 20 = .ok (.getfield 21, 3) := by decide +kernel
theorem dX5_enviesWithout_23 : decode cX5_enviesWithout 23 = .ok (.getfield 220, 3) := by decide +kernel
theorem dX5_enviesWithout_26 : decode cX5_enviesWithout 26 = .ok (.invokevirtual 111, 3) := by decide +kernel
theorem dX5_enviesWithout_29 : decode cX5_enviesWithout 29 = .ok (.aload_n 0, 1) := by decide +kernel
theorem dX5_enviesWithout_30 : decode cX5_enviesWithout 30 = .ok (.getfield 28, 3) := by decide +kernel
theorem dX5_enviesWithout_33 : decode cX5_enviesWithout 33 = .ok (.iload_n 2, 1) := by decide +kernel
theorem dX5_enviesWithout_34 : decode cX5_enviesWithout 34 = .ok (.invokevirtual 122, 3) := by decide +kernel
theorem dX5_enviesWithout_37 : decode cX5_enviesWithout 37 = .ok (.ireturn, 1) := by decide +kernel
set_option maxRecDepth 20000 in
theorem ggX5_carryOutOrder_X1_putAmount : GoodIn wsX5_carryOutOrder wsX1_putAmount := goodIn_r _ [12, 13, 14, 15, 16, 11, 17, 18, 19, 138, 139, 140, 141, 142, 143, 144, 145, 146] (by decide +kernel) (by decide +kernel)
set_option maxRecDepth 20000 in
theorem gX5_carryOutOrder_X1_putAmount : GoodIn wsX5_carryOutOrder (wsV RX5 70 RX1 yX1_putAmount wsX1_putAmount) := goodIn_app (goodIn_of _ (by decide +kernel)) ggX5_carryOutOrder_X1_putAmount
set_option maxRecDepth 20000 in
theorem ggX5_carryOutOrder_X1_putWeight : GoodIn wsX5_carryOutOrder wsX1_putWeight := goodIn_r _ [23, 18, 24, 25, 26, 11, 27, 14, 15, 16, 17, 13, 19, 138, 139, 140, 141, 142, 143, 144, 145, 146] (by decide +kernel) (by decide +kernel)
set_option maxRecDepth 20000 in
theorem gX5_carryOutOrder_X1_putWeight : GoodIn wsX5_carryOutOrder (wsV RX5 80 RX1 yX1_putWeight wsX1_putWeight) := goodIn_app (goodIn_of _ (by decide +kernel)) ggX5_carryOutOrder_X1_putWeight
set_option maxRecDepth 20000 in
theorem ggX5_carryOutOrder_X1_putGrudge : GoodIn wsX5_carryOutOrder wsX1_putGrudge := goodIn_r _ [31, 32, 138, 139, 140, 141, 142, 143, 144, 145, 146] (by decide +kernel) (by decide +kernel)
set_option maxRecDepth 20000 in
theorem gX5_carryOutOrder_X1_putGrudge : GoodIn wsX5_carryOutOrder (wsV RX5 87 RX1 yX1_putGrudge wsX1_putGrudge) := goodIn_app (goodIn_of _ (by decide +kernel)) ggX5_carryOutOrder_X1_putGrudge
set_option maxRecDepth 20000 in
theorem ggX5_carryOutOrder_X5_divideNow : GoodIn wsX5_carryOutOrder wsX5_divideNow := goodIn_r _ [37, 38, 39, 3, 40, 41, 42, 43, 44, 45, 46, 47, 48, 49, 50, 51, 52, 53, 54, 55, 56, 57, 58, 59, 60, 61, 62, 63, 64, 65, 66, 67, 11, 68, 69, 70, 71, 72, 73, 32, 74, 75, 76, 77, 78, 79, 80, 81, 82, 83, 84, 85, 36, 86, 87, 88, 89, 90, 91, 92, 93, 94, 19, 95, 96, 97, 98, 99, 100, 101, 102, 103, 104, 105, 106, 107, 108, 109, 110, 111, 112, 113, 114, 115, 116, 117, 118, 119, 120, 121, 122, 123, 124, 125, 126, 127, 128, 129, 147, 148, 149, 150, 151, 152, 153, 154, 138, 139, 140, 141, 142, 143, 144, 145, 146] (by decide +kernel) (by decide +kernel)
set_option maxRecDepth 20000 in
theorem gX5_carryOutOrder_X5_divideNow : GoodIn wsX5_carryOutOrder (wsV RX5 100 RX5 yX5_divideNow wsX5_divideNow) := goodIn_app (goodIn_of _ (by decide +kernel)) ggX5_carryOutOrder_X5_divideNow
theorem dX5_carryOutOrder_0 : decode cX5_carryOutOrder 0 = .ok (.aload_n 0, 1) := by decide +kernel
theorem dX5_carryOutOrder_1 : decode cX5_carryOutOrder 1 = .ok (.getfield 35, 3) := by decide +kernel
theorem dX5_carryOutOrder_4 : decode cX5_carryOutOrder 4 = .ok (.getfield 243, 3) := by decide +kernel
theorem dX5_carryOutOrder_7 : decode cX5_carryOutOrder 7 = .ok (.tableswitch 138 0 2 #[25, 65, 105], 25) := by decide +kernel
theorem dX5_carryOutOrder_32 : decode cX5_carryOutOrder 32 = .ok (.iconst 0, 1) := by decide +kernel
theorem dX5_carryOutOrder_33 : decode cX5_carryOutOrder 33 = .ok (.istore_n 1, 1) := by decide +kernel
theorem dX5_carryOutOrder_34 : decode cX5_carryOutOrder 34 = .ok (.iload_n 1, 1) := by decide +kernel
theorem dX5_carryOutOrder_35 : decode cX5_carryOutOrder 35 = .ok (.iconst 4, 1) := by decide +kernel
theorem dX5_carryOutOrder_36 : decode cX5_carryOutOrder 36 = .ok (.if_icmp .ge 33, 3) := by decide +kernel
theorem dX5_carryOutOrder_39 : decode cX5_carryOutOrder 39 = .ok (.aload_n 0, 1) := by decide +kernel
theorem dX5_carryOutOrder_40 : decode cX5_carryOutOrder 40 = .ok (.getfield 12, 3) := by decide +kernel
theorem dX5_carryOutOrder_43 : decode cX5_carryOutOrder 43 = .ok (.aload_n 0, 1) := by decide +kernel
theorem dX5_carryOutOrder_44 : decode cX5_carryOutOrder 44 = .ok (.getfield 35, 3) := by decide +kernel
theorem dX5_carryOutOrder_47 : decode cX5_carryOutOrder 47 = .ok (.getfield 246, 3) := by decide +kernel
theorem dX5_carryOutOrder_50 : decode cX5_carryOutOrder 50 = .ok (.iload_n 1, 1) := by decide +kernel
theorem dX5_carryOutOrder_51 : decode cX5_carryOutOrder 51 = .ok (.aload_n 0, 1) := by decide +kernel
theorem dX5_carryOutOrder_52 : decode cX5_carryOutOrder 52 = .ok (.getfield 35, 3) := by decide +kernel
theorem dX5_carryOutOrder_55 : decode cX5_carryOutOrder 55 = .ok (.getfield 249, 3) := by decide +kernel
theorem dX5_carryOutOrder_58 : decode cX5_carryOutOrder 58 = .ok (.iload_n 1, 1) := by decide +kernel
theorem dX5_carryOutOrder_59 : decode cX5_carryOutOrder 59 = .ok (.iaload, 1) := by decide +kernel
theorem dX5_carryOutOrder_60 : decode cX5_carryOutOrder 60 = .ok (.invokevirtual 70, 3) := by decide +kernel
theorem dX5_carryOutOrder_63 : decode cX5_carryOutOrder 63 = .ok (.iinc 1 1, 3) := by decide +kernel
theorem dX5_carryOutOrder_66 : decode cX5_carryOutOrder 66 = .ok (.goto (-32), 3) := by decide +kernel
theorem dX5_carryOutOrder_69 : decode cX5_carryOutOrder 69 = .ok (.goto 87, 3) := by decide +kernel
theorem dX5_carryOutOrder_72 : decode cX5_carryOutOrder 72 = .ok (.iconst 0, 1) := by decide +kernel
theorem dX5_carryOutOrder_73 : decode cX5_carryOutOrder 73 = .ok (.istore_n 1, 1) := by decide +kernel
theorem dX5_carryOutOrder_74 : decode cX5_carryOutOrder 74 = .ok (.iload_n 1, 1) := by decide +kernel
theorem dX5_carryOutOrder_75 : decode cX5_carryOutOrder 75 = .ok (.iconst 4, 1) := by decide +kernel
theorem dX5_carryOutOrder_76 : decode cX5_carryOutOrder 76 = .ok (.if_icmp .ge 33, 3) := by decide +kernel
theorem dX5_carryOutOrder_79 : decode cX5_carryOutOrder 79 = .ok (.aload_n 0, 1) := by decide +kernel
theorem dX5_carryOutOrder_80 : decode cX5_carryOutOrder 80 = .ok (.getfield 12, 3) := by decide +kernel
theorem dX5_carryOutOrder_83 : decode cX5_carryOutOrder 83 = .ok (.aload_n 0, 1) := by decide +kernel
theorem dX5_carryOutOrder_84 : decode cX5_carryOutOrder 84 = .ok (.getfield 35, 3) := by decide +kernel
theorem dX5_carryOutOrder_87 : decode cX5_carryOutOrder 87 = .ok (.getfield 246, 3) := by decide +kernel
theorem dX5_carryOutOrder_90 : decode cX5_carryOutOrder 90 = .ok (.iload_n 1, 1) := by decide +kernel
theorem dX5_carryOutOrder_91 : decode cX5_carryOutOrder 91 = .ok (.aload_n 0, 1) := by decide +kernel
theorem dX5_carryOutOrder_92 : decode cX5_carryOutOrder 92 = .ok (.getfield 35, 3) := by decide +kernel
theorem dX5_carryOutOrder_95 : decode cX5_carryOutOrder 95 = .ok (.getfield 249, 3) := by decide +kernel
theorem dX5_carryOutOrder_98 : decode cX5_carryOutOrder 98 = .ok (.iload_n 1, 1) := by decide +kernel
theorem dX5_carryOutOrder_99 : decode cX5_carryOutOrder 99 = .ok (.iaload, 1) := by decide +kernel
theorem dX5_carryOutOrder_100 : decode cX5_carryOutOrder 100 = .ok (.invokevirtual 80, 3) := by decide +kernel
theorem dX5_carryOutOrder_103 : decode cX5_carryOutOrder 103 = .ok (.iinc 1 1, 3) := by decide +kernel
theorem dX5_carryOutOrder_106 : decode cX5_carryOutOrder 106 = .ok (.goto (-32), 3) := by decide +kernel
theorem dX5_carryOutOrder_109 : decode cX5_carryOutOrder 109 = .ok (.goto 47, 3) := by decide +kernel
theorem dX5_carryOutOrder_112 : decode cX5_carryOutOrder 112 = .ok (.aload_n 0, 1) := by decide +kernel
theorem dX5_carryOutOrder_113 : decode cX5_carryOutOrder 113 = .ok (.getfield 12, 3) := by decide +kernel
theorem dX5_carryOutOrder_116 : decode cX5_carryOutOrder 116 = .ok (.aload_n 0, 1) := by decide +kernel
theorem dX5_carryOutOrder_117 : decode cX5_carryOutOrder 117 = .ok (.getfield 35, 3) := by decide +kernel
theorem dX5_carryOutOrder_120 : decode cX5_carryOutOrder 120 = .ok (.getfield 246, 3) := by decide +kernel
theorem dX5_carryOutOrder_123 : decode cX5_carryOutOrder 123 = .ok (.aload_n 0, 1) := by decide +kernel
theorem dX5_carryOutOrder_124 : decode cX5_carryOutOrder 124 = .ok (.getfield 35, 3) := by decide +kernel
theorem dX5_carryOutOrder_127 : decode cX5_carryOutOrder 127 = .ok (.getfield 252, 3) := by decide +kernel
theorem dX5_carryOutOrder_130 : decode cX5_carryOutOrder 130 = .ok (.aload_n 0, 1) := by decide +kernel
theorem dX5_carryOutOrder_131 : decode cX5_carryOutOrder 131 = .ok (.getfield 35, 3) := by decide +kernel
theorem dX5_carryOutOrder_134 : decode cX5_carryOutOrder 134 = .ok (.getfield 249, 3) := by decide +kernel
theorem dX5_carryOutOrder_137 : decode cX5_carryOutOrder 137 = .ok (.iconst 0, 1) := by decide +kernel
theorem dX5_carryOutOrder_138 : decode cX5_carryOutOrder 138 = .ok (.iaload, 1) := by decide +kernel
theorem dX5_carryOutOrder_139 : decode cX5_carryOutOrder 139 = .ok (.invokevirtual 87, 3) := by decide +kernel
theorem dX5_carryOutOrder_142 : decode cX5_carryOutOrder 142 = .ok (.goto 14, 3) := by decide +kernel
theorem dX5_carryOutOrder_145 : decode cX5_carryOutOrder 145 = .ok (.aload_n 0, 1) := by decide +kernel
theorem dX5_carryOutOrder_146 : decode cX5_carryOutOrder 146 = .ok (.aload_n 0, 1) := by decide +kernel
theorem dX5_carryOutOrder_147 : decode cX5_carryOutOrder 147 = .ok (.getfield 35, 3) := by decide +kernel
theorem dX5_carryOutOrder_150 : decode cX5_carryOutOrder 150 = .ok (.getfield 255, 3) := by decide +kernel
theorem dX5_carryOutOrder_153 : decode cX5_carryOutOrder 153 = .ok (.invokevirtual 100, 3) := by decide +kernel
theorem dX5_carryOutOrder_156 : decode cX5_carryOutOrder 156 = .ok (.return_, 1) := by decide +kernel
theorem dX6_init_0 : decode cX6_init 0 = .ok (.aload_n 0, 1) := by decide +kernel
theorem dX6_init_1 : decode cX6_init 1 = .ok (.invokespecial 1, 3) := by decide +kernel
theorem dX6_init_4 : decode cX6_init 4 = .ok (.aload_n 0, 1) := by decide +kernel
theorem dX6_init_5 : decode cX6_init 5 = .ok (.sipush 404, 3) := by decide +kernel
theorem dX6_init_8 : decode cX6_init 8 = .ok (.newarray .int, 2) := by decide +kernel
theorem dX6_init_10 : decode cX6_init 10 = .ok (.putfield 7, 3) := by decide +kernel
theorem dX6_init_13 : decode cX6_init 13 = .ok (.aload_n 0, 1) := by decide +kernel
theorem dX6_init_14 : decode cX6_init 14 = .ok (.sipush 808, 3) := by decide +kernel
theorem dX6_init_17 : decode cX6_init 17 = .ok (.newarray .int, 2) := by decide +kernel
theorem dX6_init_19 : decode cX6_init 19 = .ok (.putfield 13, 3) := by decide +kernel
theorem dX6_init_22 : decode cX6_init 22 = .ok (.aload_n 0, 1) := by decide +kernel
theorem dX6_init_23 : decode cX6_init 23 = .ok (.sipush 202, 3) := by decide +kernel
theorem dX6_init_26 : decode cX6_init 26 = .ok (.newarray .int, 2) := by decide +kernel
theorem dX6_init_28 : decode cX6_init 28 = .ok (.putfield 16, 3) := by decide +kernel
theorem dX6_init_31 : decode cX6_init 31 = .ok (.aload_n 0, 1) := by decide +kernel
theorem dX6_init_32 : decode cX6_init 32 = .ok (.bipush 60, 2) := by decide +kernel
theorem dX6_init_34 : decode cX6_init 34 = .ok (.newarray .int, 2) := by decide +kernel
theorem dX6_init_36 : decode cX6_init 36 = .ok (.putfield 19, 3) := by decide +kernel
theorem dX6_init_39 : decode cX6_init 39 = .ok (.aload_n 0, 1) := by decide +kernel
theorem dX6_init_40 : decode cX6_init 40 = .ok (.bipush 7, 2) := by decide +kernel
theorem dX6_init_42 : decode cX6_init 42 = .ok (.newarray .int, 2) := by decide +kernel
theorem dX6_init_44 : decode cX6_init 44 = .ok (.putfield 22, 3) := by decide +kernel
theorem dX6_init_47 : decode cX6_init 47 = .ok (.iconst 0, 1) := by decide +kernel
theorem dX6_init_48 : decode cX6_init 48 = .ok (.istore_n 1, 1) := by decide +kernel
theorem dX6_init_49 : decode cX6_init 49 = .ok (.iload_n 1, 1) := by decide +kernel
theorem dX6_init_50 : decode cX6_init 50 = .ok (.bipush 24, 2) := by decide +kernel
theorem dX6_init_52 : decode cX6_init 52 = .ok (.if_icmp .ge 35, 3) := by decide +kernel
theorem dX6_init_55 : decode cX6_init 55 = .ok (.aload_n 0, 1) := by decide +kernel
theorem dX6_init_56 : decode cX6_init 56 = .ok (.getfield 7, 3) := by decide +kernel
theorem dX6_init_59 : decode cX6_init 59 = .ok (.iconst 0, 1) := by decide +kernel
theorem dX6_init_60 : decode cX6_init 60 = .ok (.iconst 4, 1) := by decide +kernel
theorem dX6_init_61 : decode cX6_init 61 = .ok (.iload_n 1, 1) := by decide +kernel
theorem dX6_init_62 : decode cX6_init 62 = .ok (.imul, 1) := by decide +kernel
theorem dX6_init_63 : decode cX6_init 63 = .ok (.iadd, 1) := by decide +kernel
theorem dX6_init_64 : decode cX6_init 64 = .ok (.iload_n 1, 1) := by decide +kernel
theorem dX6_init_65 : decode cX6_init 65 = .ok (.iconst 4, 1) := by decide +kernel
theorem dX6_init_66 : decode cX6_init 66 = .ok (.irem, 1) := by decide +kernel
theorem dX6_init_67 : decode cX6_init 67 = .ok (.iadd, 1) := by decide +kernel
theorem dX6_init_68 : decode cX6_init 68 = .ok (.iconst 1, 1) := by decide +kernel
theorem dX6_init_69 : decode cX6_init 69 = .ok (.iastore, 1) := by decide +kernel
theorem dX6_init_70 : decode cX6_init 70 = .ok (.aload_n 0, 1) := by decide +kernel
theorem dX6_init_71 : decode cX6_init 71 = .ok (.getfield 7, 3) := by decide +kernel
theorem dX6_init_74 : decode cX6_init 74 = .ok (.bipush 96, 2) := by decide +kernel
theorem dX6_init_76 : decode cX6_init 76 = .ok (.iload_n 1, 1) := by decide +kernel
theorem dX6_init_77 : decode cX6_init 77 = .ok (.iadd, 1) := by decide +kernel
theorem dX6_init_78 : decode cX6_init 78 = .ok (.bipush 7, 2) := by decide +kernel
theorem dX6_init_80 : decode cX6_init 80 = .ok (.iastore, 1) := by decide +kernel
theorem dX6_init_81 : decode cX6_init 81 = .ok (.iinc 1 1, 3) := by decide +kernel
theorem dX6_init_84 : decode cX6_init 84 = .ok (.goto (-35), 3) := by decide +kernel
theorem dX6_init_87 : decode cX6_init 87 = .ok (.iconst 0, 1) := by decide +kernel
theorem dX6_init_88 : decode cX6_init 88 = .ok (.istore_n 1, 1) := by decide +kernel
theorem dX6_init_89 : decode cX6_init 89 = .ok (.iload_n 1, 1) := by decide +kernel
theorem dX6_init_90 : decode cX6_init 90 = .ok (.bipush 28, 2) := by decide +kernel
theorem dX6_init_92 : decode cX6_init 92 = .ok (.if_icmp .ge 19, 3) := by decide +kernel
theorem dX6_init_95 : decode cX6_init 95 = .ok (.aload_n 0, 1) := by decide +kernel
theorem dX6_init_96 : decode cX6_init 96 = .ok (.getfield 7, 3) := by decide +kernel
theorem dX6_init_99 : decode cX6_init 99 = .ok (.bipush 120, 2) := by decide +kernel
theorem dX6_init_101 : decode cX6_init 101 = .ok (.iload_n 1, 1) := by decide +kernel
theorem dX6_init_102 : decode cX6_init 102 = .ok (.iadd, 1) := by decide +kernel
theorem dX6_init_103 : decode cX6_init 103 = .ok (.iconst 1, 1) := by decide +kernel
theorem dX6_init_104 : decode cX6_init 104 = .ok (.iastore, 1) := by decide +kernel
theorem dX6_init_105 : decode cX6_init 105 = .ok (.iinc 1 1, 3) := by decide +kernel
theorem dX6_init_108 : decode cX6_init 108 = .ok (.goto (-19), 3) := by decide +kernel
theorem dX6_init_111 : decode cX6_init 111 = .ok (.aload_n 0, 1) := by decide +kernel
theorem dX6_init_112 : decode cX6_init 112 = .ok (.getfield 7, 3) := by decide +kernel
theorem dX6_init_115 : decode cX6_init 115 = .ok (.sipush 198, 3) := by decide +kernel
theorem dX6_init_118 : decode cX6_init 118 = .ok (.iconst 5, 1) := by decide +kernel
theorem dX6_init_119 : decode cX6_init 119 = .ok (.iastore, 1) := by decide +kernel
theorem dX6_init_120 : decode cX6_init 120 = .ok (.return_, 1) := by decide +kernel
theorem dX6_in_0 : decode cX6_in 0 = .ok (.iload_n 0, 1) := by decide +kernel
theorem dX6_in_1 : decode cX6_in 1 = .ok (.iload_n 1, 1) := by decide +kernel
theorem dX6_in_2 : decode cX6_in 2 = .ok (.if_icmp .lt 12, 3) := by decide +kernel
theorem dX6_in_5 : decode cX6_in 5 = .ok (.iload_n 0, 1) := by decide +kernel
theorem dX6_in_6 : decode cX6_in 6 = .ok (.iload_n 2, 1) := by decide +kernel
theorem dX6_in_7 : decode cX6_in 7 = .ok (.if_icmp .gt 7, 3) := by decide +kernel
theorem dX6_in_10 : decode cX6_in 10 = .ok (.iconst 1, 1) := by decide +kernel
theorem dX6_in_11 : decode cX6_in 11 = .ok (.goto 4, 3) := by decide +kernel
theorem dX6_in_14 : decode cX6_in 14 = .ok (.iconst 0, 1) := by decide +kernel
theorem dX6_in_15 : decode cX6_in 15 = .ok (.ireturn, 1) := by decide +kernel
set_option maxRecDepth 20000 in
theorem ggX6_isPlot_X6_in : GoodIn wsX6_isPlot wsX6_in := goodIn_r _ [4] (by decide +kernel) (by decide +kernel)
set_option maxRecDepth 20000 in
theorem gX6_isPlot_X6_in : GoodIn wsX6_isPlot (va_wsS RX6 25 yX6_in wsX6_in) := goodIn_app (goodIn_of _ (by decide +kernel)) ggX6_isPlot_X6_in
theorem dX6_isPlot_0 : decode cX6_isPlot 0 = .ok (.iload_n 0, 1) := by decide +kernel
theorem dX6_isPlot_1 : decode cX6_isPlot 1 = .ok (.iconst 0, 1) := by decide +kernel
theorem dX6_isPlot_2 : decode cX6_isPlot 2 = .ok (.bipush 23, 2) := by decide +kernel
theorem dX6_isPlot_4 : decode cX6_isPlot 4 = .ok (.invokestatic 25, 3) := by decide +kernel
theorem dX6_isPlot_7 : decode cX6_isPlot 7 = .ok (.ireturn, 1) := by decide +kernel
set_option maxRecDepth 20000 in
theorem ggX6_isCrop_X6_in : GoodIn wsX6_isCrop wsX6_in := goodIn_r _ [4] (by decide +kernel) (by decide +kernel)
set_option maxRecDepth 20000 in
theorem gX6_isCrop_X6_in : GoodIn wsX6_isCrop (va_wsS RX6 25 yX6_in wsX6_in) := goodIn_app (goodIn_of _ (by decide +kernel)) ggX6_isCrop_X6_in
theorem dX6_isCrop_0 : decode cX6_isCrop 0 = .ok (.iload_n 0, 1) := by decide +kernel
theorem dX6_isCrop_1 : decode cX6_isCrop 1 = .ok (.iconst 0, 1) := by decide +kernel
theorem dX6_isCrop_2 : decode cX6_isCrop 2 = .ok (.iconst 3, 1) := by decide +kernel
theorem dX6_isCrop_3 : decode cX6_isCrop 3 = .ok (.invokestatic 25, 3) := by decide +kernel
theorem dX6_isCrop_6 : decode cX6_isCrop 6 = .ok (.ireturn, 1) := by decide +kernel
set_option maxRecDepth 20000 in
theorem ggX6_isCousin_X6_in : GoodIn wsX6_isCousin wsX6_in := goodIn_r _ [4] (by decide +kernel) (by decide +kernel)
set_option maxRecDepth 20000 in
theorem gX6_isCousin_X6_in : GoodIn wsX6_isCousin (va_wsS RX6 25 yX6_in wsX6_in) := goodIn_app (goodIn_of _ (by decide +kernel)) ggX6_isCousin_X6_in
theorem dX6_isCousin_0 : decode cX6_isCousin 0 = .ok (.iload_n 0, 1) := by decide +kernel
theorem dX6_isCousin_1 : decode cX6_isCousin 1 = .ok (.iconst 0, 1) := by decide +kernel
theorem dX6_isCousin_2 : decode cX6_isCousin 2 = .ok (.bipush 6, 2) := by decide +kernel
theorem dX6_isCousin_4 : decode cX6_isCousin 4 = .ok (.invokestatic 25, 3) := by decide +kernel
theorem dX6_isCousin_7 : decode cX6_isCousin 7 = .ok (.ireturn, 1) := by decide +kernel
theorem dX6_remembers_0 : decode cX6_remembers 0 = .ok (.aload_n 0, 1) := by decide +kernel
theorem dX6_remembers_1 : decode cX6_remembers 1 = .ok (.getfield 29, 3) := by decide +kernel
theorem dX6_remembers_4 : decode cX6_remembers 4 = .ok (.iconst 4, 1) := by decide +kernel
theorem dX6_remembers_5 : decode cX6_remembers 5 = .ok (.if_icmp .ne 44, 3) := by decide +kernel
theorem dX6_remembers_8 : decode cX6_remembers 8 = .ok (.iconst 0, 1) := by decide +kernel
theorem dX6_remembers_9 : decode cX6_remembers 9 = .ok (.istore_n 1, 1) := by decide +kernel
theorem dX6_remembers_10 : decode cX6_remembers 10 = .ok (.iload_n 1, 1) := by decide +kernel
theorem dX6_remembers_11 : decode cX6_remembers 11 = .ok (.sipush 606, 3) := by decide +kernel
theorem dX6_remembers_14 : decode cX6_remembers 14 = .ok (.if_icmp .ge 25, 3) := by decide +kernel
theorem dX6_remembers_17 : decode cX6_remembers 17 = .ok (.aload_n 0, 1) := by decide +kernel
theorem dX6_remembers_18 : decode cX6_remembers 18 = .ok (.getfield 13, 3) := by decide +kernel
theorem dX6_remembers_21 : decode cX6_remembers 21 = .ok (.iload_n 1, 1) := by decide +kernel
theorem dX6_remembers_22 : decode cX6_remembers 22 = .ok (.aload_n 0, 1) := by decide +kernel
theorem dX6_remembers_23 : decode cX6_remembers 23 = .ok (.getfield 13, 3) := by decide +kernel
theorem dX6_remembers_26 : decode cX6_remembers 26 = .ok (.sipush 202, 3) := by decide +kernel
theorem dX6_remembers_29 : decode cX6_remembers 29 = .ok (.iload_n 1, 1) := by decide +kernel
theorem dX6_remembers_30 : decode cX6_remembers 30 = .ok (.iadd, 1) := by decide +kernel
theorem dX6_remembers_31 : decode cX6_remembers 31 = .ok (.iaload, 1) := by decide +kernel
theorem dX6_remembers_32 : decode cX6_remembers 32 = .ok (.iastore, 1) := by decide +kernel
theorem dX6_remembers_33 : decode cX6_remembers 33 = .ok (.iinc 1 1, 3) := by decide +kernel
theorem dX6_remembers_36 : decode cX6_remembers 36 = .ok (.goto (-26), 3) := by decide +kernel
theorem dX6_remembers_39 : decode cX6_remembers 39 = .ok (.aload_n 0, 1) := by decide +kernel
theorem dX6_remembers_40 : decode cX6_remembers 40 = .ok (.dup, 1) := by decide +kernel
theorem dX6_remembers_41 : decode cX6_remembers 41 = .ok (.getfield 29, 3) := by decide +kernel
theorem dX6_remembers_44 : decode cX6_remembers 44 = .ok (.iconst 1, 1) := by decide +kernel
theorem dX6_remembers_45 : decode cX6_remembers 45 = .ok (.isub, 1) := by decide +kernel
theorem dX6_remembers_46 : decode cX6_remembers 46 = .ok (.putfield 29, 3) := by decide +kernel
theorem dX6_remembers_49 : decode cX6_remembers 49 = .ok (.iconst 0, 1) := by decide +kernel
theorem dX6_remembers_50 : decode cX6_remembers 50 = .ok (.istore_n 1, 1) := by decide +kernel
theorem dX6_remembers_51 : decode cX6_remembers 51 = .ok (.iload_n 1, 1) := by decide +kernel
theorem dX6_remembers_52 : decode cX6_remembers 52 = .ok (.sipush 202, 3) := by decide +kernel
theorem dX6_remembers_55 : decode cX6_remembers 55 = .ok (.if_icmp .ge 30, 3) := by decide +kernel
theorem dX6_remembers_58 : decode cX6_remembers 58 = .ok (.aload_n 0, 1) := by decide +kernel
theorem dX6_remembers_59 : decode cX6_remembers 59 = .ok (.getfield 13, 3) := by decide +kernel
theorem dX6_remembers_62 : decode cX6_remembers 62 = .ok (.sipush 202, 3) := by decide +kernel
theorem dX6_remembers_65 : decode cX6_remembers 65 = .ok (.aload_n 0, 1) := by decide +kernel
theorem dX6_remembers_66 : decode cX6_remembers 66 = .ok (.getfield 29, 3) := by decide +kernel
theorem dX6_remembers_69 : decode cX6_remembers 69 = .ok (.imul, 1) := by decide +kernel
theorem dX6_remembers_70 : decode cX6_remembers 70 = .ok (.iload_n 1, 1) := by decide +kernel
theorem dX6_remembers_71 : decode cX6_remembers 71 = .ok (.iadd, 1) := by decide +kernel
theorem dX6_remembers_72 : decode cX6_remembers 72 = .ok (.aload_n 0, 1) := by decide +kernel
theorem dX6_remembers_73 : decode cX6_remembers 73 = .ok (.getfield 7, 3) := by decide +kernel
theorem dX6_remembers_76 : decode cX6_remembers 76 = .ok (.iload_n 1, 1) := by decide +kernel
theorem dX6_remembers_77 : decode cX6_remembers 77 = .ok (.iaload, 1) := by decide +kernel
theorem dX6_remembers_78 : decode cX6_remembers 78 = .ok (.iastore, 1) := by decide +kernel
theorem dX6_remembers_79 : decode cX6_remembers 79 = .ok (.iinc 1 1, 3) := by decide +kernel
theorem dX6_remembers_82 : decode cX6_remembers 82 = .ok (.goto (-31), 3) := by decide +kernel
theorem dX6_remembers_85 : decode cX6_remembers 85 = .ok (.aload_n 0, 1) := by decide +kernel
theorem dX6_remembers_86 : decode cX6_remembers 86 = .ok (.dup, 1) := by decide +kernel
theorem dX6_remembers_87 : decode cX6_remembers 87 = .ok (.getfield 29, 3) := by decide +kernel
theorem dX6_remembers_90 : decode cX6_remembers 90 = .ok (.iconst 1, 1) := by decide +kernel
theorem dX6_remembers_91 : decode cX6_remembers 91 = .ok (.iadd, 1) := by decide +kernel
theorem dX6_remembers_92 : decode cX6_remembers 92 = .ok (.putfield 29, 3) := by decide +kernel
theorem dX6_remembers_95 : decode cX6_remembers 95 = .ok (.return_, 1) := by decide +kernel
theorem dX6_copies_0 : decode cX6_copies 0 = .ok (.iconst 0, 1) := by decide +kernel
theorem dX6_copies_1 : decode cX6_copies 1 = .ok (.istore_n 1, 1) := by decide +kernel
theorem dX6_copies_2 : decode cX6_copies 2 = .ok (.iload_n 1, 1) := by decide +kernel
theorem dX6_copies_3 : decode cX6_copies 3 = .ok (.sipush 202, 3) := by decide +kernel
theorem dX6_copies_6 : decode cX6_copies 6 = .ok (.if_icmp .ge 25, 3) := by decide +kernel
theorem dX6_copies_9 : decode cX6_copies 9 = .ok (.aload_n 0, 1) := by decide +kernel
theorem dX6_copies_10 : decode cX6_copies 10 = .ok (.getfield 7, 3) := by decide +kernel
theorem dX6_copies_13 : decode cX6_copies 13 = .ok (.sipush 202, 3) := by decide +kernel
theorem dX6_copies_16 : decode cX6_copies 16 = .ok (.iload_n 1, 1) := by decide +kernel
theorem dX6_copies_17 : decode cX6_copies 17 = .ok (.iadd, 1) := by decide +kernel
theorem dX6_copies_18 : decode cX6_copies 18 = .ok (.aload_n 0, 1) := by decide +kernel
theorem dX6_copies_19 : decode cX6_copies 19 = .ok (.getfield 7, 3) := by decide +kernel
theorem dX6_copies_22 : decode cX6_copies 22 = .ok (.iload_n 1, 1) := by decide +kernel
theorem dX6_copies_23 : decode cX6_copies 23 = .ok (.iaload, 1) := by decide +kernel
theorem dX6_copies_24 : decode cX6_copies 24 = .ok (.iastore, 1) := by decide +kernel
theorem dX6_copies_25 : decode cX6_copies 25 = .ok (.iinc 1 1, 3) := by decide +kernel
theorem dX6_copies_28 : decode cX6_copies 28 = .ok (.goto (-26), 3) := by decide +kernel
theorem dX6_copies_31 : decode cX6_copies 31 = .ok (.return_, 1) := by decide +kernel
theorem dX6_worth_0 : decode cX6_worth 0 = .ok (.iconst 0, 1) := by decide +kernel
theorem dX6_worth_1 : decode cX6_worth 1 = .ok (.istore_n 3, 1) := by decide +kernel
theorem dX6_worth_2 : decode cX6_worth 2 = .ok (.iconst 0, 1) := by decide +kernel
theorem dX6_worth_3 : decode cX6_worth 3 = .ok (.istore 4, 2) := by decide +kernel
theorem dX6_worth_5 : decode cX6_worth 5 = .ok (.iload 4, 2) := by decide +kernel
theorem dX6_worth_7 : decode cX6_worth 7 = .ok (.iconst 4, 1) := by decide +kernel
theorem dX6_worth_8 : decode cX6_worth 8 = .ok (.if_icmp .ge 40, 3) := by decide +kernel
theorem dX6_worth_11 : decode cX6_worth 11 = .ok (.iload_n 3, 1) := by decide +kernel
theorem dX6_worth_12 : decode cX6_worth 12 = .ok (.aload_n 0, 1) := by decide +kernel
theorem dX6_worth_13 : decode cX6_worth 13 = .ok (.getfield 7, 3) := by decide +kernel
theorem dX6_worth_16 : decode cX6_worth 16 = .ok (.iconst 0, 1) := by decide +kernel
theorem dX6_worth_17 : decode cX6_worth 17 = .ok (.iconst 4, 1) := by decide +kernel
theorem dX6_worth_18 : decode cX6_worth 18 = .ok (.iload_n 2, 1) := by decide +kernel
theorem dX6_worth_19 : decode cX6_worth 19 = .ok (.imul, 1) := by decide +kernel
theorem dX6_worth_20 : decode cX6_worth 20 = .ok (.iadd, 1) := by decide +kernel
theorem dX6_worth_21 : decode cX6_worth 21 = .ok (.iload 4, 2) := by decide +kernel
theorem dX6_worth_23 : decode cX6_worth 23 = .ok (.iadd, 1) := by decide +kernel
theorem dX6_worth_24 : decode cX6_worth 24 = .ok (.iaload, 1) := by decide +kernel
theorem dX6_worth_25 : decode cX6_worth 25 = .ok (.aload_n 0, 1) := by decide +kernel
theorem dX6_worth_26 : decode cX6_worth 26 = .ok (.getfield 7, 3) := by decide +kernel
theorem dX6_worth_29 : decode cX6_worth 29 = .ok (.bipush 120, 2) := by decide +kernel
theorem dX6_worth_31 : decode cX6_worth 31 = .ok (.iconst 4, 1) := by decide +kernel
theorem dX6_worth_32 : decode cX6_worth 32 = .ok (.iload_n 1, 1) := by decide +kernel
theorem dX6_worth_33 : decode cX6_worth 33 = .ok (.imul, 1) := by decide +kernel
theorem dX6_worth_34 : decode cX6_worth 34 = .ok (.iadd, 1) := by decide +kernel
theorem dX6_worth_35 : decode cX6_worth 35 = .ok (.iload 4, 2) := by decide +kernel
theorem dX6_worth_37 : decode cX6_worth 37 = .ok (.iadd, 1) := by decide +kernel
theorem dX6_worth_38 : decode cX6_worth 38 = .ok (.iaload, 1) := by decide +kernel
theorem dX6_worth_39 : decode cX6_worth 39 = .ok (.imul, 1) := by decide +kernel
theorem dX6_worth_40 : decode cX6_worth 40 = .ok (.iadd, 1) := by decide +kernel
theorem dX6_worth_41 : decode cX6_worth 41 = .ok (.istore_n 3, 1) := by decide +kernel
theorem dX6_worth_42 : decode cX6_worth 42 = .ok (.iinc 4 1, 3) := by decide +kernel
theorem dX6_worth_45 : decode cX6_worth 45 = .ok (.goto (-40), 3) := by decide +kernel
theorem dX6_worth_48 : decode cX6_worth 48 = .ok (.iload_n 3, 1) := by decide +kernel
theorem dX6_worth_49 : decode cX6_worth 49 = .ok (.ireturn, 1) := by decide +kernel
set_option maxRecDepth 20000 in
theorem ggX6_worthFrom_X6_worth : GoodIn wsX6_worthFrom wsX6_worth := goodIn_r _ [5, 6, 7, 8, 9, 10, 11, 12, 13, 14, 15] (by decide +kernel) (by decide +kernel)
set_option maxRecDepth 20000 in
theorem gX6_worthFrom_X6_worth : GoodIn wsX6_worthFrom (wsV RX6 33 RX6 yX6_worth wsX6_worth) := goodIn_app (goodIn_of _ (by decide +kernel)) ggX6_worthFrom_X6_worth
theorem dX6_worthFrom_0 : decode cX6_worthFrom 0 = .ok (.iconst 0, 1) := by decide +kernel
theorem dX6_worthFrom_1 : decode cX6_worthFrom 1 = .ok (.istore_n 3, 1) := by decide +kernel
theorem dX6_worthFrom_2 : decode cX6_worthFrom 2 = .ok (.iload_n 2, 1) := by decide +kernel
theorem dX6_worthFrom_3 : decode cX6_worthFrom 3 = .ok (.istore 4, 2) := by decide +kernel
theorem dX6_worthFrom_5 : decode cX6_worthFrom 5 = .ok (.iload 4, 2) := by decide +kernel
theorem dX6_worthFrom_7 : decode cX6_worthFrom 7 = .ok (.bipush 24, 2) := by decide +kernel
theorem dX6_worthFrom_9 : decode cX6_worthFrom 9 = .ok (.if_icmp .ge 19, 3) := by decide +kernel
theorem dX6_worthFrom_12 : decode cX6_worthFrom 12 = .ok (.iload_n 3, 1) := by decide +kernel
theorem dX6_worthFrom_13 : decode cX6_worthFrom 13 = .ok (.aload_n 0, 1) := by decide +kernel
theorem dX6_worthFrom_14 : decode cX6_worthFrom 14 = .ok (.iload_n 1, 1) := by decide +kernel
theorem dX6_worthFrom_15 : decode cX6_worthFrom 15 = .ok (.iload 4, 2) := by decide +kernel
theorem dX6_worthFrom_17 : decode cX6_worthFrom 17 = .ok (.invokevirtual 33, 3) := by decide +kernel
theorem dX6_worthFrom_20 : decode cX6_worthFrom 20 = .ok (.iadd, 1) := by decide +kernel
theorem dX6_worthFrom_21 : decode cX6_worthFrom 21 = .ok (.istore_n 3, 1) := by decide +kernel
theorem dX6_worthFrom_22 : decode cX6_worthFrom 22 = .ok (.iinc 4 1, 3) := by decide +kernel
theorem dX6_worthFrom_25 : decode cX6_worthFrom 25 = .ok (.goto (-20), 3) := by decide +kernel
theorem dX6_worthFrom_28 : decode cX6_worthFrom 28 = .ok (.iload_n 3, 1) := by decide +kernel
theorem dX6_worthFrom_29 : decode cX6_worthFrom 29 = .ok (.ireturn, 1) := by decide +kernel
set_option maxRecDepth 20000 in
theorem ggX6_share_X6_worth : GoodIn wsX6_share wsX6_worth := goodIn_r _ [6, 1, 7, 8, 9, 10, 11, 12, 13, 14, 15] (by decide +kernel) (by decide +kernel)
set_option maxRecDepth 20000 in
theorem gX6_share_X6_worth : GoodIn wsX6_share (wsV RX6 33 RX6 yX6_worth wsX6_worth) := goodIn_app (goodIn_of _ (by decide +kernel)) ggX6_share_X6_worth
theorem dX6_share_0 : decode cX6_share 0 = .ok (.iconst 0, 1) := by decide +kernel
theorem dX6_share_1 : decode cX6_share 1 = .ok (.istore 4, 2) := by decide +kernel
theorem dX6_share_3 : decode cX6_share 3 = .ok (.iconst 0, 1) := by decide +kernel
theorem dX6_share_4 : decode cX6_share 4 = .ok (.istore 5, 2) := by decide +kernel
theorem dX6_share_6 : decode cX6_share 6 = .ok (.iload 5, 2) := by decide +kernel
theorem dX6_share_8 : decode cX6_share 8 = .ok (.bipush 24, 2) := by decide +kernel
theorem dX6_share_10 : decode cX6_share 10 = .ok (.if_icmp .ge 41, 3) := by decide +kernel
theorem dX6_share_13 : decode cX6_share 13 = .ok (.iload 4, 2) := by decide +kernel
theorem dX6_share_15 : decode cX6_share 15 = .ok (.aload_n 0, 1) := by decide +kernel
theorem dX6_share_16 : decode cX6_share 16 = .ok (.getfield 7, 3) := by decide +kernel
theorem dX6_share_19 : decode cX6_share 19 = .ok (.iload_n 1, 1) := by decide +kernel
theorem dX6_share_20 : decode cX6_share 20 = .ok (.bipush 96, 2) := by decide +kernel
theorem dX6_share_22 : decode cX6_share 22 = .ok (.iadd, 1) := by decide +kernel
theorem dX6_share_23 : decode cX6_share 23 = .ok (.iload 5, 2) := by decide +kernel
theorem dX6_share_25 : decode cX6_share 25 = .ok (.iadd, 1) := by decide +kernel
theorem dX6_share_26 : decode cX6_share 26 = .ok (.iaload, 1) := by decide +kernel
theorem dX6_share_27 : decode cX6_share 27 = .ok (.iload_n 3, 1) := by decide +kernel
theorem dX6_share_28 : decode cX6_share 28 = .ok (.if_icmp .ne 13, 3) := by decide +kernel
theorem dX6_share_31 : decode cX6_share 31 = .ok (.aload_n 0, 1) := by decide +kernel
theorem dX6_share_32 : decode cX6_share 32 = .ok (.iload_n 2, 1) := by decide +kernel
theorem dX6_share_33 : decode cX6_share 33 = .ok (.iload 5, 2) := by decide +kernel
theorem dX6_share_35 : decode cX6_share 35 = .ok (.invokevirtual 33, 3) := by decide +kernel
theorem dX6_share_38 : decode cX6_share 38 = .ok (.goto 4, 3) := by decide +kernel
theorem dX6_share_41 : decode cX6_share 41 = .ok (.iconst 0, 1) := by decide +kernel
theorem dX6_share_42 : decode cX6_share 42 = .ok (.iadd, 1) := by decide +kernel
theorem dX6_share_43 : decode cX6_share 43 = .ok (.istore 4, 2) := by decide +kernel
theorem dX6_share_45 : decode cX6_share 45 = .ok (.iinc 5 1, 3) := by decide +kernel
theorem dX6_share_48 : decode cX6_share 48 = .ok (.goto (-42), 3) := by decide +kernel
theorem dX6_share_51 : decode cX6_share 51 = .ok (.iload 4, 2) := by decide +kernel
theorem dX6_share_53 : decode cX6_share 53 = .ok (.ireturn, 1) := by decide +kernel
theorem dX6_grudgeOf_0 : decode cX6_grudgeOf 0 = .ok (.aload_n 0, 1) := by decide +kernel
theorem dX6_grudgeOf_1 : decode cX6_grudgeOf 1 = .ok (.getfield 7, 3) := by decide +kernel
theorem dX6_grudgeOf_4 : decode cX6_grudgeOf 4 = .ok (.sipush 148, 3) := by decide +kernel
theorem dX6_grudgeOf_7 : decode cX6_grudgeOf 7 = .ok (.bipush 7, 2) := by decide +kernel
theorem dX6_grudgeOf_9 : decode cX6_grudgeOf 9 = .ok (.iload_n 1, 1) := by decide +kernel
theorem dX6_grudgeOf_10 : decode cX6_grudgeOf 10 = .ok (.imul, 1) := by decide +kernel
theorem dX6_grudgeOf_11 : decode cX6_grudgeOf 11 = .ok (.iadd, 1) := by decide +kernel
theorem dX6_grudgeOf_12 : decode cX6_grudgeOf 12 = .ok (.iload_n 2, 1) := by decide +kernel
theorem dX6_grudgeOf_13 : decode cX6_grudgeOf 13 = .ok (.iadd, 1) := by decide +kernel
theorem dX6_grudgeOf_14 : decode cX6_grudgeOf 14 = .ok (.iaload, 1) := by decide +kernel
theorem dX6_grudgeOf_15 : decode cX6_grudgeOf 15 = .ok (.ireturn, 1) := by decide +kernel
set_option maxRecDepth 20000 in
theorem ggX6_seems_X6_share : GoodIn wsX6_seems wsX6_share := goodIn_r _ [5, 6, 7, 8, 9, 4, 10, 15, 16, 17, 18, 19, 20, 21, 22, 23] (by decide +kernel) (by decide +kernel)
set_option maxRecDepth 20000 in
theorem gX6_seems_X6_share : GoodIn wsX6_seems (wsV RX6 37 RX6 yX6_share wsX6_share) := goodIn_app (goodIn_of _ (by decide +kernel)) ggX6_seems_X6_share
set_option maxRecDepth 20000 in
theorem ggX6_seems_X6_grudgeOf : GoodIn wsX6_seems wsX6_grudgeOf := goodIn_r _ [14, 6, 15, 16, 17, 18, 19, 20, 21, 22, 23] (by decide +kernel) (by decide +kernel)
set_option maxRecDepth 20000 in
theorem gX6_seems_X6_grudgeOf : GoodIn wsX6_seems (wsV RX6 41 RX6 yX6_grudgeOf wsX6_grudgeOf) := goodIn_app (goodIn_of _ (by decide +kernel)) ggX6_seems_X6_grudgeOf
theorem dX6_seems_0 : decode cX6_seems 0 = .ok (.aload_n 0, 1) := by decide +kernel
theorem dX6_seems_1 : decode cX6_seems 1 = .ok (.iload_n 1, 1) := by decide +kernel
theorem dX6_seems_2 : decode cX6_seems 2 = .ok (.iload_n 2, 1) := by decide +kernel
theorem dX6_seems_3 : decode cX6_seems 3 = .ok (.iload_n 3, 1) := by decide +kernel
theorem dX6_seems_4 : decode cX6_seems 4 = .ok (.invokevirtual 37, 3) := by decide +kernel
theorem dX6_seems_7 : decode cX6_seems 7 = .ok (.bipush 10, 2) := by decide +kernel
theorem dX6_seems_9 : decode cX6_seems 9 = .ok (.aload_n 0, 1) := by decide +kernel
theorem dX6_seems_10 : decode cX6_seems 10 = .ok (.iload_n 2, 1) := by decide +kernel
theorem dX6_seems_11 : decode cX6_seems 11 = .ok (.iload_n 3, 1) := by decide +kernel
theorem dX6_seems_12 : decode cX6_seems 12 = .ok (.invokevirtual 41, 3) := by decide +kernel
theorem dX6_seems_15 : decode cX6_seems 15 = .ok (.iadd, 1) := by decide +kernel
theorem dX6_seems_16 : decode cX6_seems 16 = .ok (.imul, 1) := by decide +kernel
theorem dX6_seems_17 : decode cX6_seems 17 = .ok (.bipush 10, 2) := by decide +kernel
theorem dX6_seems_19 : decode cX6_seems 19 = .ok (.idiv, 1) := by decide +kernel
theorem dX6_seems_20 : decode cX6_seems 20 = .ok (.ireturn, 1) := by decide +kernel
set_option maxRecDepth 20000 in
theorem ggX6_envy_X6_seems : GoodIn wsX6_envy wsX6_seems := goodIn_r _ [5, 6, 7, 8, 4, 9, 10, 11, 12, 13, 14, 15, 16, 17, 18, 19, 20, 21, 22, 23, 24, 25, 26, 27] (by decide +kernel) (by decide +kernel)
set_option maxRecDepth 20000 in
theorem gX6_envy_X6_seems : GoodIn wsX6_envy (wsV RX6 44 RX6 yX6_seems wsX6_seems) := goodIn_app (goodIn_of _ (by decide +kernel)) ggX6_envy_X6_seems
set_option maxRecDepth 20000 in
theorem ggX6_envy_X6_share : GoodIn wsX6_envy wsX6_share := goodIn_r _ [9, 10, 11, 12, 13, 4, 14, 19, 20, 21, 22, 23, 24, 25, 26, 27] (by decide +kernel) (by decide +kernel)
set_option maxRecDepth 20000 in
theorem gX6_envy_X6_share : GoodIn wsX6_envy (wsV RX6 37 RX6 yX6_share wsX6_share) := goodIn_app (goodIn_of _ (by decide +kernel)) ggX6_envy_X6_share
theorem dX6_envy_0 : decode cX6_envy 0 = .ok (.aload_n 0, 1) := by decide +kernel
theorem dX6_envy_1 : decode cX6_envy 1 = .ok (.iload_n 1, 1) := by decide +kernel
theorem dX6_envy_2 : decode cX6_envy 2 = .ok (.iload_n 2, 1) := by decide +kernel
theorem dX6_envy_3 : decode cX6_envy 3 = .ok (.iload_n 3, 1) := by decide +kernel
theorem dX6_envy_4 : decode cX6_envy 4 = .ok (.invokevirtual 44, 3) := by decide +kernel
theorem dX6_envy_7 : decode cX6_envy 7 = .ok (.aload_n 0, 1) := by decide +kernel
theorem dX6_envy_8 : decode cX6_envy 8 = .ok (.iload_n 1, 1) := by decide +kernel
theorem dX6_envy_9 : decode cX6_envy 9 = .ok (.iload_n 2, 1) := by decide +kernel
theorem dX6_envy_10 : decode cX6_envy 10 = .ok (.iload_n 2, 1) := by decide +kernel
theorem dX6_envy_11 : decode cX6_envy 11 = .ok (.invokevirtual 37, 3) := by decide +kernel
theorem dX6_envy_14 : decode cX6_envy 14 = .ok (.isub, 1) := by decide +kernel
theorem dX6_envy_15 : decode cX6_envy 15 = .ok (.istore 4, 2) := by decide +kernel
theorem dX6_envy_17 : decode cX6_envy 17 = .ok (.iload_n 2, 1) := by decide +kernel
theorem dX6_envy_18 : decode cX6_envy 18 = .ok (.iload_n 3, 1) := by decide +kernel
theorem dX6_envy_19 : decode cX6_envy 19 = .ok (.if_icmp .eq 8, 3) := by decide +kernel
theorem dX6_envy_22 : decode cX6_envy 22 = .ok (.iload 4, 2) := by decide +kernel
theorem dX6_envy_24 : decode cX6_envy 24 = .ok (.ifCond .ge 7, 3) := by decide +kernel
theorem dX6_envy_27 : decode cX6_envy 27 = .ok (.iconst 0, 1) := by decide +kernel
theorem dX6_envy_28 : decode cX6_envy 28 = .ok (.goto 5, 3) := by decide +kernel
theorem dX6_envy_31 : decode cX6_envy 31 = .ok (.iload 4, 2) := by decide +kernel
theorem dX6_envy_33 : decode cX6_envy 33 = .ok (.ireturn, 1) := by decide +kernel
set_option maxRecDepth 20000 in
theorem ggX6_envies_X6_envy : GoodIn wsX6_envies wsX6_envy := goodIn_r _ [5, 6, 7, 8, 4, 9, 10, 11, 12, 13, 14, 15, 16, 17, 18, 19, 20, 21, 22, 23, 24, 25, 26, 27, 28, 29, 30, 31] (by decide +kernel) (by decide +kernel)
set_option maxRecDepth 20000 in
theorem gX6_envies_X6_envy : GoodIn wsX6_envies (wsV RX6 47 RX6 yX6_envy wsX6_envy) := goodIn_app (goodIn_of _ (by decide +kernel)) ggX6_envies_X6_envy
theorem dX6_envies_0 : decode cX6_envies 0 = .ok (.iconst 0, 1) := by decide +kernel
theorem dX6_envies_1 : decode cX6_envies 1 = .ok (.istore 4, 2) := by decide +kernel
theorem dX6_envies_3 : decode cX6_envies 3 = .ok (.iconst 0, 1) := by decide +kernel
theorem dX6_envies_4 : decode cX6_envies 4 = .ok (.istore 5, 2) := by decide +kernel
theorem dX6_envies_6 : decode cX6_envies 6 = .ok (.iload 5, 2) := by decide +kernel
theorem dX6_envies_8 : decode cX6_envies 8 = .ok (.bipush 49, 2) := by decide +kernel
theorem dX6_envies_10 : decode cX6_envies 10 = .ok (.if_icmp .ge 71, 3) := by decide +kernel
theorem dX6_envies_13 : decode cX6_envies 13 = .ok (.iload_n 2, 1) := by decide +kernel
theorem dX6_envies_14 : decode cX6_envies 14 = .ok (.iload 5, 2) := by decide +kernel
theorem dX6_envies_16 : decode cX6_envies 16 = .ok (.bipush 7, 2) := by decide +kernel
theorem dX6_envies_18 : decode cX6_envies 18 = .ok (.idiv, 1) := by decide +kernel
theorem dX6_envies_19 : decode cX6_envies 19 = .ok (.ishr, 1) := by decide +kernel
theorem dX6_envies_20 : decode cX6_envies 20 = .ok (.iconst 1, 1) := by decide +kernel
theorem dX6_envies_21 : decode cX6_envies 21 = .ok (.iand, 1) := by decide +kernel
theorem dX6_envies_22 : decode cX6_envies 22 = .ok (.iconst 1, 1) := by decide +kernel
theorem dX6_envies_23 : decode cX6_envies 23 = .ok (.if_icmp .ne 20, 3) := by decide +kernel
theorem dX6_envies_26 : decode cX6_envies 26 = .ok (.iload_n 3, 1) := by decide +kernel
theorem dX6_envies_27 : decode cX6_envies 27 = .ok (.iload 5, 2) := by decide +kernel
theorem dX6_envies_29 : decode cX6_envies 29 = .ok (.bipush 7, 2) := by decide +kernel
theorem dX6_envies_31 : decode cX6_envies 31 = .ok (.irem, 1) := by decide +kernel
theorem dX6_envies_32 : decode cX6_envies 32 = .ok (.ishr, 1) := by decide +kernel
theorem dX6_envies_33 : decode cX6_envies 33 = .ok (.iconst 1, 1) := by decide +kernel
theorem dX6_envies_34 : decode cX6_envies 34 = .ok (.iand, 1) := by decide +kernel
theorem dX6_envies_35 : decode cX6_envies 35 = .ok (.iconst 1, 1) := by decide +kernel
theorem dX6_envies_36 : decode cX6_envies 36 = .ok (.if_icmp .ne 7, 3) := by decide +kernel
theorem dX6_envies_39 : decode cX6_envies 39 = .ok (.iconst 1, 1) := by decide +kernel
theorem dX6_envies_40 : decode cX6_envies 40 = .ok (.goto 4, 3) := by decide +kernel
theorem dX6_envies_43 : decode cX6_envies 43 = .ok (.iconst 0, 1) := by decide +kernel
theorem dX6_envies_44 : decode cX6_envies 44 = .ok (.istore 6, 2) := by decide +kernel
theorem dX6_envies_46 : decode cX6_envies 46 = .ok (.iload 4, 2) := by decide +kernel
theorem dX6_envies_48 : decode cX6_envies 48 = .ok (.iload 6, 2) := by decide +kernel
theorem dX6_envies_50 : decode cX6_envies 50 = .ok (.ifCond .eq 21, 3) := by decide +kernel
theorem dX6_envies_53 : decode cX6_envies 53 = .ok (.aload_n 0, 1) := by decide +kernel
theorem dX6_envies_54 : decode cX6_envies 54 = .ok (.iload_n 1, 1) := by decide +kernel
theorem dX6_envies_55 : decode cX6_envies 55 = .ok (.iload 5, 2) := by decide +kernel
theorem dX6_envies_57 : decode cX6_envies 57 = .ok (.bipush 7, 2) := by decide +kernel
theorem dX6_envies_59 : decode cX6_envies 59 = .ok (.idiv, 1) := by decide +kernel
theorem dX6_envies_60 : decode cX6_envies 60 = .ok (.iload 5, 2) := by decide +kernel
theorem dX6_envies_62 : decode cX6_envies 62 = .ok (.bipush 7, 2) := by decide +kernel
theorem dX6_envies_64 : decode cX6_envies 64 = .ok (.irem, 1) := by decide +kernel
theorem dX6_envies_65 : decode cX6_envies 65 = .ok (.invokevirtual 47, 3) := by decide +kernel
theorem dX6_envies_68 : decode cX6_envies 68 = .ok (.goto 4, 3) := by decide +kernel
theorem dX6_envies_71 : decode cX6_envies 71 = .ok (.iconst 0, 1) := by decide +kernel
theorem dX6_envies_72 : decode cX6_envies 72 = .ok (.iadd, 1) := by decide +kernel
theorem dX6_envies_73 : decode cX6_envies 73 = .ok (.istore 4, 2) := by decide +kernel
theorem dX6_envies_75 : decode cX6_envies 75 = .ok (.iinc 5 1, 3) := by decide +kernel
theorem dX6_envies_78 : decode cX6_envies 78 = .ok (.goto (-72), 3) := by decide +kernel
theorem dX6_envies_81 : decode cX6_envies 81 = .ok (.iload 4, 2) := by decide +kernel
theorem dX6_envies_83 : decode cX6_envies 83 = .ok (.ireturn, 1) := by decide +kernel
set_option maxRecDepth 20000 in
theorem ggX6_allEnvies_X6_envies : GoodIn wsX6_allEnvies wsX6_envies := goodIn_r _ [5, 6, 7, 8, 4, 9, 10, 11, 12, 13, 14, 15, 16, 17, 18, 19, 20, 21, 22, 23, 24, 25, 26, 27, 28, 29, 30, 31, 32, 33, 34, 35] (by decide +kernel) (by decide +kernel)
set_option maxRecDepth 20000 in
theorem gX6_allEnvies_X6_envies : GoodIn wsX6_allEnvies (wsV RX6 50 RX6 yX6_envies wsX6_envies) := goodIn_app (goodIn_of _ (by decide +kernel)) ggX6_allEnvies_X6_envies
theorem dX6_allEnvies_0 : decode cX6_allEnvies 0 = .ok (.aload_n 0, 1) := by decide +kernel
theorem dX6_allEnvies_1 : decode cX6_allEnvies 1 = .ok (.iload_n 1, 1) := by decide +kernel
theorem dX6_allEnvies_2 : decode cX6_allEnvies 2 = .ok (.bipush 127, 2) := by decide +kernel
theorem dX6_allEnvies_4 : decode cX6_allEnvies 4 = .ok (.bipush 127, 2) := by decide +kernel
theorem dX6_allEnvies_6 : decode cX6_allEnvies 6 = .ok (.invokevirtual 50, 3) := by decide +kernel
theorem dX6_allEnvies_9 : decode cX6_allEnvies 9 = .ok (.ireturn, 1) := by decide +kernel
set_option maxRecDepth 20000 in
theorem ggX6_grudges_X6_grudgeOf : GoodIn wsX6_grudges wsX6_grudgeOf := goodIn_r _ [5, 6, 7, 8, 9, 10, 11, 12, 13, 14, 15] (by decide +kernel) (by decide +kernel)
set_option maxRecDepth 20000 in
theorem gX6_grudges_X6_grudgeOf : GoodIn wsX6_grudges (wsV RX6 41 RX6 yX6_grudgeOf wsX6_grudgeOf) := goodIn_app (goodIn_of _ (by decide +kernel)) ggX6_grudges_X6_grudgeOf
theorem dX6_grudges_0 : decode cX6_grudges 0 = .ok (.iconst 0, 1) := by decide +kernel
theorem dX6_grudges_1 : decode cX6_grudges 1 = .ok (.istore_n 2, 1) := by decide +kernel
theorem dX6_grudges_2 : decode cX6_grudges 2 = .ok (.iconst 0, 1) := by decide +kernel
theorem dX6_grudges_3 : decode cX6_grudges 3 = .ok (.istore_n 3, 1) := by decide +kernel
theorem dX6_grudges_4 : decode cX6_grudges 4 = .ok (.iload_n 3, 1) := by decide +kernel
theorem dX6_grudges_5 : decode cX6_grudges 5 = .ok (.bipush 7, 2) := by decide +kernel
theorem dX6_grudges_7 : decode cX6_grudges 7 = .ok (.if_icmp .ge 18, 3) := by decide +kernel
theorem dX6_grudges_10 : decode cX6_grudges 10 = .ok (.iload_n 2, 1) := by decide +kernel
theorem dX6_grudges_11 : decode cX6_grudges 11 = .ok (.aload_n 0, 1) := by decide +kernel
theorem dX6_grudges_12 : decode cX6_grudges 12 = .ok (.iload_n 1, 1) := by decide +kernel
theorem dX6_grudges_13 : decode cX6_grudges 13 = .ok (.iload_n 3, 1) := by decide +kernel
theorem dX6_grudges_14 : decode cX6_grudges 14 = .ok (.invokevirtual 41, 3) := by decide +kernel
theorem dX6_grudges_17 : decode cX6_grudges 17 = .ok (.iadd, 1) := by decide +kernel
theorem dX6_grudges_18 : decode cX6_grudges 18 = .ok (.istore_n 2, 1) := by decide +kernel
theorem dX6_grudges_19 : decode cX6_grudges 19 = .ok (.iinc 3 1, 3) := by decide +kernel
theorem dX6_grudges_22 : decode cX6_grudges 22 = .ok (.goto (-18), 3) := by decide +kernel
theorem dX6_grudges_25 : decode cX6_grudges 25 = .ok (.iload_n 2, 1) := by decide +kernel
theorem dX6_grudges_26 : decode cX6_grudges 26 = .ok (.ireturn, 1) := by decide +kernel
set_option maxRecDepth 20000 in
theorem ggX6_isAhead_X6_grudges : GoodIn wsX6_isAhead wsX6_grudges := goodIn_r _ [6, 7, 8, 9, 5, 10, 1, 11, 12, 13, 14, 15, 16, 17, 18, 19] (by decide +kernel) (by decide +kernel)
set_option maxRecDepth 20000 in
theorem gX6_isAhead_X6_grudges : GoodIn wsX6_isAhead (wsV RX6 53 RX6 yX6_grudges wsX6_grudges) := goodIn_app (goodIn_of _ (by decide +kernel)) ggX6_isAhead_X6_grudges
theorem dX6_isAhead_0 : decode cX6_isAhead 0 = .ok (.aload_n 0, 1) := by decide +kernel
theorem dX6_isAhead_1 : decode cX6_isAhead 1 = .ok (.getfield 7, 3) := by decide +kernel
theorem dX6_isAhead_4 : decode cX6_isAhead 4 = .ok (.sipush 197, 3) := by decide +kernel
theorem dX6_isAhead_7 : decode cX6_isAhead 7 = .ok (.iaload, 1) := by decide +kernel
theorem dX6_isAhead_8 : decode cX6_isAhead 8 = .ok (.ifCond .ne 7, 3) := by decide +kernel
theorem dX6_isAhead_11 : decode cX6_isAhead 11 = .ok (.iconst 0, 1) := by decide +kernel
theorem dX6_isAhead_12 : decode cX6_isAhead 12 = .ok (.goto 14, 3) := by decide +kernel
theorem dX6_isAhead_15 : decode cX6_isAhead 15 = .ok (.aload_n 0, 1) := by decide +kernel
theorem dX6_isAhead_16 : decode cX6_isAhead 16 = .ok (.iload_n 1, 1) := by decide +kernel
theorem dX6_isAhead_17 : decode cX6_isAhead 17 = .ok (.invokevirtual 53, 3) := by decide +kernel
theorem dX6_isAhead_20 : decode cX6_isAhead 20 = .ok (.aload_n 0, 1) := by decide +kernel
theorem dX6_isAhead_21 : decode cX6_isAhead 21 = .ok (.iload_n 2, 1) := by decide +kernel
theorem dX6_isAhead_22 : decode cX6_isAhead 22 = .ok (.invokevirtual 53, 3) := by decide +kernel
theorem dX6_isAhead_25 : decode cX6_isAhead 25 = .ok (.isub, 1) := by decide +kernel
theorem dX6_isAhead_26 : decode cX6_isAhead 26 = .ok (.istore_n 3, 1) := by decide +kernel
theorem dX6_isAhead_27 : decode cX6_isAhead 27 = .ok (.iload_n 3, 1) := by decide +kernel
theorem dX6_isAhead_28 : decode cX6_isAhead 28 = .ok (.ifCond .gt 12, 3) := by decide +kernel
theorem dX6_isAhead_31 : decode cX6_isAhead 31 = .ok (.iload_n 3, 1) := by decide +kernel
theorem dX6_isAhead_32 : decode cX6_isAhead 32 = .ok (.ifCond .ne 12, 3) := by decide +kernel
theorem dX6_isAhead_35 : decode cX6_isAhead 35 = .ok (.iload_n 1, 1) := by decide +kernel
theorem dX6_isAhead_36 : decode cX6_isAhead 36 = .ok (.iload_n 2, 1) := by decide +kernel
theorem dX6_isAhead_37 : decode cX6_isAhead 37 = .ok (.if_icmp .ge 7, 3) := by decide +kernel
theorem dX6_isAhead_40 : decode cX6_isAhead 40 = .ok (.iconst 1, 1) := by decide +kernel
theorem dX6_isAhead_41 : decode cX6_isAhead 41 = .ok (.goto 4, 3) := by decide +kernel
theorem dX6_isAhead_44 : decode cX6_isAhead 44 = .ok (.iconst 0, 1) := by decide +kernel
theorem dX6_isAhead_45 : decode cX6_isAhead 45 = .ok (.ireturn, 1) := by decide +kernel
set_option maxRecDepth 20000 in
theorem ggX6_placeOf_X6_isAhead : GoodIn wsX6_placeOf wsX6_isAhead := goodIn_r _ [5, 6, 7, 8, 9, 4, 10, 11, 12, 13, 14, 15, 16, 17, 18, 19, 20, 21, 22, 23] (by decide +kernel) (by decide +kernel)
set_option maxRecDepth 20000 in
theorem gX6_placeOf_X6_isAhead : GoodIn wsX6_placeOf (wsV RX6 57 RX6 yX6_isAhead wsX6_isAhead) := goodIn_app (goodIn_of _ (by decide +kernel)) ggX6_placeOf_X6_isAhead
theorem dX6_placeOf_0 : decode cX6_placeOf 0 = .ok (.iconst 0, 1) := by decide +kernel
theorem dX6_placeOf_1 : decode cX6_placeOf 1 = .ok (.istore_n 2, 1) := by decide +kernel
theorem dX6_placeOf_2 : decode cX6_placeOf 2 = .ok (.iconst 0, 1) := by decide +kernel
theorem dX6_placeOf_3 : decode cX6_placeOf 3 = .ok (.istore_n 3, 1) := by decide +kernel
theorem dX6_placeOf_4 : decode cX6_placeOf 4 = .ok (.iload_n 3, 1) := by decide +kernel
theorem dX6_placeOf_5 : decode cX6_placeOf 5 = .ok (.bipush 7, 2) := by decide +kernel
theorem dX6_placeOf_7 : decode cX6_placeOf 7 = .ok (.if_icmp .ge 26, 3) := by decide +kernel
theorem dX6_placeOf_10 : decode cX6_placeOf 10 = .ok (.iload_n 2, 1) := by decide +kernel
theorem dX6_placeOf_11 : decode cX6_placeOf 11 = .ok (.aload_n 0, 1) := by decide +kernel
theorem dX6_placeOf_12 : decode cX6_placeOf 12 = .ok (.iload_n 3, 1) := by decide +kernel
theorem dX6_placeOf_13 : decode cX6_placeOf 13 = .ok (.iload_n 1, 1) := by decide +kernel
theorem dX6_placeOf_14 : decode cX6_placeOf 14 = .ok (.invokevirtual 57, 3) := by decide +kernel
theorem dX6_placeOf_17 : decode cX6_placeOf 17 = .ok (.ifCond .eq 7, 3) := by decide +kernel
theorem dX6_placeOf_20 : decode cX6_placeOf 20 = .ok (.iconst 1, 1) := by decide +kernel
theorem dX6_placeOf_21 : decode cX6_placeOf 21 = .ok (.goto 4, 3) := by decide +kernel
theorem dX6_placeOf_24 : decode cX6_placeOf 24 = .ok (.iconst 0, 1) := by decide +kernel
theorem dX6_placeOf_25 : decode cX6_placeOf 25 = .ok (.iadd, 1) := by decide +kernel
theorem dX6_placeOf_26 : decode cX6_placeOf 26 = .ok (.istore_n 2, 1) := by decide +kernel
theorem dX6_placeOf_27 : decode cX6_placeOf 27 = .ok (.iinc 3 1, 3) := by decide +kernel
theorem dX6_placeOf_30 : decode cX6_placeOf 30 = .ok (.goto (-26), 3) := by decide +kernel
theorem dX6_placeOf_33 : decode cX6_placeOf 33 = .ok (.iload_n 2, 1) := by decide +kernel
theorem dX6_placeOf_34 : decode cX6_placeOf 34 = .ok (.ireturn, 1) := by decide +kernel
set_option maxRecDepth 20000 in
theorem ggX6_orders_X6_placeOf : GoodIn wsX6_orders wsX6_placeOf := goodIn_r _ [6, 7, 8, 9, 5, 10, 11, 12, 13, 14, 15, 16, 17, 18, 19, 20, 21, 22, 23, 24, 25, 26, 27, 28] (by decide +kernel) (by decide +kernel)
set_option maxRecDepth 20000 in
theorem gX6_orders_X6_placeOf : GoodIn wsX6_orders (wsV RX6 61 RX6 yX6_placeOf wsX6_placeOf) := goodIn_app (goodIn_of _ (by decide +kernel)) ggX6_orders_X6_placeOf
theorem dX6_orders_0 : decode cX6_orders 0 = .ok (.iconst 0, 1) := by decide +kernel
theorem dX6_orders_1 : decode cX6_orders 1 = .ok (.istore_n 1, 1) := by decide +kernel
theorem dX6_orders_2 : decode cX6_orders 2 = .ok (.iload_n 1, 1) := by decide +kernel
theorem dX6_orders_3 : decode cX6_orders 3 = .ok (.bipush 7, 2) := by decide +kernel
theorem dX6_orders_5 : decode cX6_orders 5 = .ok (.if_icmp .ge 20, 3) := by decide +kernel
theorem dX6_orders_8 : decode cX6_orders 8 = .ok (.aload_n 0, 1) := by decide +kernel
theorem dX6_orders_9 : decode cX6_orders 9 = .ok (.getfield 22, 3) := by decide +kernel
theorem dX6_orders_12 : decode cX6_orders 12 = .ok (.aload_n 0, 1) := by decide +kernel
theorem dX6_orders_13 : decode cX6_orders 13 = .ok (.iload_n 1, 1) := by decide +kernel
theorem dX6_orders_14 : decode cX6_orders 14 = .ok (.invokevirtual 61, 3) := by decide +kernel
theorem dX6_orders_17 : decode cX6_orders 17 = .ok (.iload_n 1, 1) := by decide +kernel
theorem dX6_orders_18 : decode cX6_orders 18 = .ok (.iastore, 1) := by decide +kernel
theorem dX6_orders_19 : decode cX6_orders 19 = .ok (.iinc 1 1, 3) := by decide +kernel
theorem dX6_orders_22 : decode cX6_orders 22 = .ok (.goto (-20), 3) := by decide +kernel
theorem dX6_orders_25 : decode cX6_orders 25 = .ok (.return_, 1) := by decide +kernel
theorem dX6_ones_0 : decode cX6_ones 0 = .ok (.iconst 0, 1) := by decide +kernel
theorem dX6_ones_1 : decode cX6_ones 1 = .ok (.istore_n 1, 1) := by decide +kernel
theorem dX6_ones_2 : decode cX6_ones 2 = .ok (.iconst 0, 1) := by decide +kernel
theorem dX6_ones_3 : decode cX6_ones 3 = .ok (.istore_n 2, 1) := by decide +kernel
theorem dX6_ones_4 : decode cX6_ones 4 = .ok (.iload_n 2, 1) := by decide +kernel
theorem dX6_ones_5 : decode cX6_ones 5 = .ok (.bipush 7, 2) := by decide +kernel
theorem dX6_ones_7 : decode cX6_ones 7 = .ok (.if_icmp .ge 17, 3) := by decide +kernel
theorem dX6_ones_10 : decode cX6_ones 10 = .ok (.iload_n 1, 1) := by decide +kernel
theorem dX6_ones_11 : decode cX6_ones 11 = .ok (.iload_n 0, 1) := by decide +kernel
theorem dX6_ones_12 : decode cX6_ones 12 = .ok (.iload_n 2, 1) := by decide +kernel
theorem dX6_ones_13 : decode cX6_ones 13 = .ok (.ishr, 1) := by decide +kernel
theorem dX6_ones_14 : decode cX6_ones 14 = .ok (.iconst 1, 1) := by decide +kernel
theorem dX6_ones_15 : decode cX6_ones 15 = .ok (.iand, 1) := by decide +kernel
theorem dX6_ones_16 : decode cX6_ones 16 = .ok (.iadd, 1) := by decide +kernel
theorem dX6_ones_17 : decode cX6_ones 17 = .ok (.istore_n 1, 1) := by decide +kernel
theorem dX6_ones_18 : decode cX6_ones 18 = .ok (.iinc 2 1, 3) := by decide +kernel
theorem dX6_ones_21 : decode cX6_ones 21 = .ok (.goto (-17), 3) := by decide +kernel
theorem dX6_ones_24 : decode cX6_ones 24 = .ok (.iload_n 1, 1) := by decide +kernel
theorem dX6_ones_25 : decode cX6_ones 25 = .ok (.ireturn, 1) := by decide +kernel
set_option maxRecDepth 20000 in
theorem ggX6_fair_X6_worthFrom : GoodIn wsX6_fair wsX6_worthFrom := goodIn_r _ [5, 6, 7, 8, 4, 9, 10, 11, 12, 13, 14, 15, 16, 17, 18, 19] (by decide +kernel) (by decide +kernel)
set_option maxRecDepth 20000 in
theorem gX6_fair_X6_worthFrom : GoodIn wsX6_fair (wsV RX6 64 RX6 yX6_worthFrom wsX6_worthFrom) := goodIn_app (goodIn_of _ (by decide +kernel)) ggX6_fair_X6_worthFrom
set_option maxRecDepth 20000 in
theorem ggX6_fair_X6_worth : GoodIn wsX6_fair wsX6_worth := goodIn_r _ [9, 10, 11, 12, 13, 14, 15, 16, 17, 18, 19] (by decide +kernel) (by decide +kernel)
set_option maxRecDepth 20000 in
theorem gX6_fair_X6_worth : GoodIn wsX6_fair (wsV RX6 33 RX6 yX6_worth wsX6_worth) := goodIn_app (goodIn_of _ (by decide +kernel)) ggX6_fair_X6_worth
theorem dX6_fair_0 : decode cX6_fair 0 = .ok (.aload_n 0, 1) := by decide +kernel
theorem dX6_fair_1 : decode cX6_fair 1 = .ok (.iload_n 1, 1) := by decide +kernel
theorem dX6_fair_2 : decode cX6_fair 2 = .ok (.iload_n 2, 1) := by decide +kernel
theorem dX6_fair_3 : decode cX6_fair 3 = .ok (.invokevirtual 64, 3) := by decide +kernel
theorem dX6_fair_6 : decode cX6_fair 6 = .ok (.istore 4, 2) := by decide +kernel
theorem dX6_fair_8 : decode cX6_fair 8 = .ok (.iconst 0, 1) := by decide +kernel
theorem dX6_fair_9 : decode cX6_fair 9 = .ok (.istore 5, 2) := by decide +kernel
theorem dX6_fair_11 : decode cX6_fair 11 = .ok (.iconst 0, 1) := by decide +kernel
theorem dX6_fair_12 : decode cX6_fair 12 = .ok (.istore 6, 2) := by decide +kernel
theorem dX6_fair_14 : decode cX6_fair 14 = .ok (.iload 6, 2) := by decide +kernel
theorem dX6_fair_16 : decode cX6_fair 16 = .ok (.iload_n 3, 1) := by decide +kernel
theorem dX6_fair_17 : decode cX6_fair 17 = .ok (.imul, 1) := by decide +kernel
theorem dX6_fair_18 : decode cX6_fair 18 = .ok (.iload 4, 2) := by decide +kernel
theorem dX6_fair_20 : decode cX6_fair 20 = .ok (.if_icmp .ge 23, 3) := by decide +kernel
theorem dX6_fair_23 : decode cX6_fair 23 = .ok (.iload 6, 2) := by decide +kernel
theorem dX6_fair_25 : decode cX6_fair 25 = .ok (.aload_n 0, 1) := by decide +kernel
theorem dX6_fair_26 : decode cX6_fair 26 = .ok (.iload_n 1, 1) := by decide +kernel
theorem dX6_fair_27 : decode cX6_fair 27 = .ok (.iload_n 2, 1) := by decide +kernel
theorem dX6_fair_28 : decode cX6_fair 28 = .ok (.iload 5, 2) := by decide +kernel
theorem dX6_fair_30 : decode cX6_fair 30 = .ok (.iadd, 1) := by decide +kernel
theorem dX6_fair_31 : decode cX6_fair 31 = .ok (.invokevirtual 33, 3) := by decide +kernel
theorem dX6_fair_34 : decode cX6_fair 34 = .ok (.iadd, 1) := by decide +kernel
theorem dX6_fair_35 : decode cX6_fair 35 = .ok (.istore 6, 2) := by decide +kernel
theorem dX6_fair_37 : decode cX6_fair 37 = .ok (.iinc 5 1, 3) := by decide +kernel
theorem dX6_fair_40 : decode cX6_fair 40 = .ok (.goto (-26), 3) := by decide +kernel
theorem dX6_fair_43 : decode cX6_fair 43 = .ok (.iload 5, 2) := by decide +kernel
theorem dX6_fair_45 : decode cX6_fair 45 = .ok (.ireturn, 1) := by decide +kernel
set_option maxRecDepth 20000 in
theorem ggX6_round_X6_ones : GoodIn wsX6_round wsX6_ones := goodIn_r _ [6] (by decide +kernel) (by decide +kernel)
set_option maxRecDepth 20000 in
theorem gX6_round_X6_ones : GoodIn wsX6_round (va_wsS RX6 67 yX6_ones wsX6_ones) := goodIn_app (goodIn_of _ (by decide +kernel)) ggX6_round_X6_ones
set_option maxRecDepth 20000 in
theorem ggX6_round_X6_fair : GoodIn wsX6_round wsX6_fair := goodIn_r _ [10, 11, 12, 13, 5, 14, 15, 16, 17, 18, 2, 23, 24, 25, 26, 27, 28, 29, 30, 31] (by decide +kernel) (by decide +kernel)
set_option maxRecDepth 20000 in
theorem gX6_round_X6_fair : GoodIn wsX6_round (wsV RX6 70 RX6 yX6_fair wsX6_fair) := goodIn_app (goodIn_of _ (by decide +kernel)) ggX6_round_X6_fair
set_option maxRecDepth 20000 in
theorem ggX6_round_X6_grudgeOf : GoodIn wsX6_round wsX6_grudgeOf := goodIn_r _ [22, 2, 23, 24, 25, 26, 27, 28, 29, 30, 31] (by decide +kernel) (by decide +kernel)
set_option maxRecDepth 20000 in
theorem gX6_round_X6_grudgeOf : GoodIn wsX6_round (wsV RX6 41 RX6 yX6_grudgeOf wsX6_grudgeOf) := goodIn_app (goodIn_of _ (by decide +kernel)) ggX6_round_X6_grudgeOf
theorem dX6_round_0 : decode cX6_round 0 = .ok (.iload_n 3, 1) := by decide +kernel
theorem dX6_round_1 : decode cX6_round 1 = .ok (.invokestatic 67, 3) := by decide +kernel
theorem dX6_round_4 : decode cX6_round 4 = .ok (.istore 4, 2) := by decide +kernel
theorem dX6_round_6 : decode cX6_round 6 = .ok (.bipush 7, 2) := by decide +kernel
theorem dX6_round_8 : decode cX6_round 8 = .ok (.istore 5, 2) := by decide +kernel
theorem dX6_round_10 : decode cX6_round 10 = .ok (.iconst 0, 1) := by decide +kernel
theorem dX6_round_11 : decode cX6_round 11 = .ok (.istore 6, 2) := by decide +kernel
theorem dX6_round_13 : decode cX6_round 13 = .ok (.iconst 0, 1) := by decide +kernel
theorem dX6_round_14 : decode cX6_round 14 = .ok (.istore 7, 2) := by decide +kernel
theorem dX6_round_16 : decode cX6_round 16 = .ok (.iload 7, 2) := by decide +kernel
theorem dX6_round_18 : decode cX6_round 18 = .ok (.bipush 7, 2) := by decide +kernel
theorem dX6_round_20 : decode cX6_round 20 = .ok (.if_icmp .ge 221, 3) := by decide +kernel
theorem dX6_round_23 : decode cX6_round 23 = .ok (.aload_n 0, 1) := by decide +kernel
theorem dX6_round_24 : decode cX6_round 24 = .ok (.getfield 22, 3) := by decide +kernel
theorem dX6_round_27 : decode cX6_round 27 = .ok (.iload 7, 2) := by decide +kernel
theorem dX6_round_29 : decode cX6_round 29 = .ok (.iaload, 1) := by decide +kernel
theorem dX6_round_30 : decode cX6_round 30 = .ok (.istore 8, 2) := by decide +kernel
theorem dX6_round_32 : decode cX6_round 32 = .ok (.iload_n 3, 1) := by decide +kernel
theorem dX6_round_33 : decode cX6_round 33 = .ok (.iload 8, 2) := by decide +kernel
theorem dX6_round_35 : decode cX6_round 35 = .ok (.ishr, 1) := by decide +kernel
theorem dX6_round_36 : decode cX6_round 36 = .ok (.iconst 1, 1) := by decide +kernel
theorem dX6_round_37 : decode cX6_round 37 = .ok (.iand, 1) := by decide +kernel
theorem dX6_round_38 : decode cX6_round 38 = .ok (.iconst 1, 1) := by decide +kernel
theorem dX6_round_39 : decode cX6_round 39 = .ok (.if_icmp .ne 196, 3) := by decide +kernel
theorem dX6_round_42 : decode cX6_round 42 = .ok (.aload_n 0, 1) := by decide +kernel
theorem dX6_round_43 : decode cX6_round 43 = .ok (.iload 8, 2) := by decide +kernel
theorem dX6_round_45 : decode cX6_round 45 = .ok (.iload_n 2, 1) := by decide +kernel
theorem dX6_round_46 : decode cX6_round 46 = .ok (.iload 4, 2) := by decide +kernel
theorem dX6_round_48 : decode cX6_round 48 = .ok (.invokevirtual 70, 3) := by decide +kernel
theorem dX6_round_51 : decode cX6_round 51 = .ok (.istore 9, 2) := by decide +kernel
theorem dX6_round_53 : decode cX6_round 53 = .ok (.iload 5, 2) := by decide +kernel
theorem dX6_round_55 : decode cX6_round 55 = .ok (.bipush 7, 2) := by decide +kernel
theorem dX6_round_57 : decode cX6_round 57 = .ok (.if_icmp .ne 7, 3) := by decide +kernel
theorem dX6_round_60 : decode cX6_round 60 = .ok (.iconst 1, 1) := by decide +kernel
theorem dX6_round_61 : decode cX6_round 61 = .ok (.goto 4, 3) := by decide +kernel
theorem dX6_round_64 : decode cX6_round 64 = .ok (.iconst 0, 1) := by decide +kernel
theorem dX6_round_65 : decode cX6_round 65 = .ok (.istore 10, 2) := by decide +kernel
theorem dX6_round_67 : decode cX6_round 67 = .ok (.iload 10, 2) := by decide +kernel
theorem dX6_round_69 : decode cX6_round 69 = .ok (.ifCond .ne 14, 3) := by decide +kernel
theorem dX6_round_72 : decode cX6_round 72 = .ok (.iload 9, 2) := by decide +kernel
theorem dX6_round_74 : decode cX6_round 74 = .ok (.iload 6, 2) := by decide +kernel
theorem dX6_round_76 : decode cX6_round 76 = .ok (.if_icmp .ge 7, 3) := by decide +kernel
theorem dX6_round_79 : decode cX6_round 79 = .ok (.iconst 1, 1) := by decide +kernel
theorem dX6_round_80 : decode cX6_round 80 = .ok (.goto 4, 3) := by decide +kernel
theorem dX6_round_83 : decode cX6_round 83 = .ok (.iconst 0, 1) := by decide +kernel
theorem dX6_round_84 : decode cX6_round 84 = .ok (.istore 11, 2) := by decide +kernel
theorem dX6_round_86 : decode cX6_round 86 = .ok (.iload 10, 2) := by decide +kernel
theorem dX6_round_88 : decode cX6_round 88 = .ok (.ifCond .ne 38, 3) := by decide +kernel
theorem dX6_round_91 : decode cX6_round 91 = .ok (.iload 9, 2) := by decide +kernel
theorem dX6_round_93 : decode cX6_round 93 = .ok (.iload 6, 2) := by decide +kernel
theorem dX6_round_95 : decode cX6_round 95 = .ok (.if_icmp .ne 31, 3) := by decide +kernel
theorem dX6_round_98 : decode cX6_round 98 = .ok (.iload 9, 2) := by decide +kernel
theorem dX6_round_100 : decode cX6_round 100 = .ok (.ifCond .le 26, 3) := by decide +kernel
theorem dX6_round_103 : decode cX6_round 103 = .ok (.aload_n 0, 1) := by decide +kernel
theorem dX6_round_104 : decode cX6_round 104 = .ok (.iload 8, 2) := by decide +kernel
theorem dX6_round_106 : decode cX6_round 106 = .ok (.iload 5, 2) := by decide +kernel
theorem dX6_round_108 : decode cX6_round 108 = .ok (.invokevirtual 41, 3) := by decide +kernel
theorem dX6_round_111 : decode cX6_round 111 = .ok (.aload_n 0, 1) := by decide +kernel
theorem dX6_round_112 : decode cX6_round 112 = .ok (.getfield 7, 3) := by decide +kernel
theorem dX6_round_115 : decode cX6_round 115 = .ok (.sipush 198, 3) := by decide +kernel
theorem dX6_round_118 : decode cX6_round 118 = .ok (.iaload, 1) := by decide +kernel
theorem dX6_round_119 : decode cX6_round 119 = .ok (.if_icmp .lt 7, 3) := by decide +kernel
theorem dX6_round_122 : decode cX6_round 122 = .ok (.iconst 1, 1) := by decide +kernel
theorem dX6_round_123 : decode cX6_round 123 = .ok (.goto 4, 3) := by decide +kernel
theorem dX6_round_126 : decode cX6_round 126 = .ok (.iconst 0, 1) := by decide +kernel
theorem dX6_round_127 : decode cX6_round 127 = .ok (.istore 12, 2) := by decide +kernel
theorem dX6_round_129 : decode cX6_round 129 = .ok (.iload 10, 2) := by decide +kernel
theorem dX6_round_131 : decode cX6_round 131 = .ok (.ifCond .ne 8, 3) := by decide +kernel
theorem dX6_round_134 : decode cX6_round 134 = .ok (.iload 11, 2) := by decide +kernel
theorem dX6_round_136 : decode cX6_round 136 = .ok (.ifCond .eq 8, 3) := by decide +kernel
theorem dX6_round_139 : decode cX6_round 139 = .ok (.iload 9, 2) := by decide +kernel
theorem dX6_round_141 : decode cX6_round 141 = .ok (.goto 17, 3) := by decide +kernel
theorem dX6_round_144 : decode cX6_round 144 = .ok (.iload 12, 2) := by decide +kernel
theorem dX6_round_146 : decode cX6_round 146 = .ok (.ifCond .eq 10, 3) := by decide +kernel
theorem dX6_round_149 : decode cX6_round 149 = .ok (.iload 9, 2) := by decide +kernel
theorem dX6_round_151 : decode cX6_round 151 = .ok (.iconst 1, 1) := by decide +kernel
theorem dX6_round_152 : decode cX6_round 152 = .ok (.isub, 1) := by decide +kernel
theorem dX6_round_153 : decode cX6_round 153 = .ok (.goto 5, 3) := by decide +kernel
theorem dX6_round_156 : decode cX6_round 156 = .ok (.iload 6, 2) := by decide +kernel
theorem dX6_round_158 : decode cX6_round 158 = .ok (.istore 6, 2) := by decide +kernel
theorem dX6_round_160 : decode cX6_round 160 = .ok (.iload 10, 2) := by decide +kernel
theorem dX6_round_162 : decode cX6_round 162 = .ok (.ifCond .ne 13, 3) := by decide +kernel
theorem dX6_round_165 : decode cX6_round 165 = .ok (.iload 11, 2) := by decide +kernel
theorem dX6_round_167 : decode cX6_round 167 = .ok (.ifCond .ne 8, 3) := by decide +kernel
theorem dX6_round_170 : decode cX6_round 170 = .ok (.iload 12, 2) := by decide +kernel
theorem dX6_round_172 : decode cX6_round 172 = .ok (.ifCond .eq 8, 3) := by decide +kernel
theorem dX6_round_175 : decode cX6_round 175 = .ok (.iload 8, 2) := by decide +kernel
theorem dX6_round_177 : decode cX6_round 177 = .ok (.goto 5, 3) := by decide +kernel
theorem dX6_round_180 : decode cX6_round 180 = .ok (.iload 5, 2) := by decide +kernel
theorem dX6_round_182 : decode cX6_round 182 = .ok (.istore 5, 2) := by decide +kernel
theorem dX6_round_184 : decode cX6_round 184 = .ok (.aload_n 0, 1) := by decide +kernel
theorem dX6_round_185 : decode cX6_round 185 = .ok (.getfield 7, 3) := by decide +kernel
theorem dX6_round_188 : decode cX6_round 188 = .ok (.iload_n 1, 1) := by decide +kernel
theorem dX6_round_189 : decode cX6_round 189 = .ok (.sipush 199, 3) := by decide +kernel
theorem dX6_round_192 : decode cX6_round 192 = .ok (.iadd, 1) := by decide +kernel
theorem dX6_round_193 : decode cX6_round 193 = .ok (.dup2, 1) := by decide +kernel
theorem dX6_round_194 : decode cX6_round 194 = .ok (.iaload, 1) := by decide +kernel
theorem dX6_round_195 : decode cX6_round 195 = .ok (.iload 11, 2) := by decide +kernel
theorem dX6_round_197 : decode cX6_round 197 = .ok (.ifCond .ne 8, 3) := by decide +kernel
theorem dX6_round_200 : decode cX6_round 200 = .ok (.iload 12, 2) := by decide +kernel
theorem dX6_round_202 : decode cX6_round 202 = .ok (.ifCond .eq 7, 3) := by decide +kernel
theorem dX6_round_205 : decode cX6_round 205 = .ok (.iconst 1, 1) := by decide +kernel
theorem dX6_round_206 : decode cX6_round 206 = .ok (.goto 4, 3) := by decide +kernel
theorem dX6_round_209 : decode cX6_round 209 = .ok (.iconst 0, 1) := by decide +kernel
theorem dX6_round_210 : decode cX6_round 210 = .ok (.iadd, 1) := by decide +kernel
theorem dX6_round_211 : decode cX6_round 211 = .ok (.iastore, 1) := by decide +kernel
theorem dX6_round_212 : decode cX6_round 212 = .ok (.aload_n 0, 1) := by decide +kernel
theorem dX6_round_213 : decode cX6_round 213 = .ok (.getfield 7, 3) := by decide +kernel
theorem dX6_round_216 : decode cX6_round 216 = .ok (.iload_n 1, 1) := by decide +kernel
theorem dX6_round_217 : decode cX6_round 217 = .ok (.sipush 200, 3) := by decide +kernel
theorem dX6_round_220 : decode cX6_round 220 = .ok (.iadd, 1) := by decide +kernel
theorem dX6_round_221 : decode cX6_round 221 = .ok (.dup2, 1) := by decide +kernel
theorem dX6_round_222 : decode cX6_round 222 = .ok (.iaload, 1) := by decide +kernel
theorem dX6_round_223 : decode cX6_round 223 = .ok (.iload 12, 2) := by decide +kernel
theorem dX6_round_225 : decode cX6_round 225 = .ok (.ifCond .eq 7, 3) := by decide +kernel
theorem dX6_round_228 : decode cX6_round 228 = .ok (.iconst 1, 1) := by decide +kernel
theorem dX6_round_229 : decode cX6_round 229 = .ok (.goto 4, 3) := by decide +kernel
theorem dX6_round_232 : decode cX6_round 232 = .ok (.iconst 0, 1) := by decide +kernel
theorem dX6_round_233 : decode cX6_round 233 = .ok (.iadd, 1) := by decide +kernel
theorem dX6_round_234 : decode cX6_round 234 = .ok (.iastore, 1) := by decide +kernel
theorem dX6_round_235 : decode cX6_round 235 = .ok (.iinc 7 1, 3) := by decide +kernel
theorem dX6_round_238 : decode cX6_round 238 = .ok (.goto (-222), 3) := by decide +kernel
theorem dX6_round_241 : decode cX6_round 241 = .ok (.bipush 10, 2) := by decide +kernel
theorem dX6_round_243 : decode cX6_round 243 = .ok (.iload 6, 2) := by decide +kernel
theorem dX6_round_245 : decode cX6_round 245 = .ok (.imul, 1) := by decide +kernel
theorem dX6_round_246 : decode cX6_round 246 = .ok (.iload 5, 2) := by decide +kernel
theorem dX6_round_248 : decode cX6_round 248 = .ok (.iadd, 1) := by decide +kernel
theorem dX6_round_249 : decode cX6_round 249 = .ok (.ireturn, 1) := by decide +kernel
theorem dX6_gets_0 : decode cX6_gets 0 = .ok (.iload_n 2, 1) := by decide +kernel
theorem dX6_gets_1 : decode cX6_gets 1 = .ok (.istore 5, 2) := by decide +kernel
theorem dX6_gets_3 : decode cX6_gets 3 = .ok (.iload 5, 2) := by decide +kernel
theorem dX6_gets_5 : decode cX6_gets 5 = .ok (.iload_n 3, 1) := by decide +kernel
theorem dX6_gets_6 : decode cX6_gets 6 = .ok (.if_icmp .ge 23, 3) := by decide +kernel
theorem dX6_gets_9 : decode cX6_gets 9 = .ok (.aload_n 0, 1) := by decide +kernel
theorem dX6_gets_10 : decode cX6_gets 10 = .ok (.getfield 7, 3) := by decide +kernel
theorem dX6_gets_13 : decode cX6_gets 13 = .ok (.iload_n 1, 1) := by decide +kernel
theorem dX6_gets_14 : decode cX6_gets 14 = .ok (.bipush 96, 2) := by decide +kernel
theorem dX6_gets_16 : decode cX6_gets 16 = .ok (.iadd, 1) := by decide +kernel
theorem dX6_gets_17 : decode cX6_gets 17 = .ok (.iload 5, 2) := by decide +kernel
theorem dX6_gets_19 : decode cX6_gets 19 = .ok (.iadd, 1) := by decide +kernel
theorem dX6_gets_20 : decode cX6_gets 20 = .ok (.iload 4, 2) := by decide +kernel
theorem dX6_gets_22 : decode cX6_gets 22 = .ok (.iastore, 1) := by decide +kernel
theorem dX6_gets_23 : decode cX6_gets 23 = .ok (.iinc 5 1, 3) := by decide +kernel
theorem dX6_gets_26 : decode cX6_gets 26 = .ok (.goto (-23), 3) := by decide +kernel
theorem dX6_gets_29 : decode cX6_gets 29 = .ok (.return_, 1) := by decide +kernel
set_option maxRecDepth 20000 in
theorem ggX6_divides_X6_orders : GoodIn wsX6_divides wsX6_orders := goodIn_r _ [7, 8, 9, 10, 11, 6, 12, 13, 14, 15, 16, 1, 17, 18, 19, 20, 21, 22, 23, 24, 48, 49, 50, 51, 52, 53, 54, 55, 56] (by decide +kernel) (by decide +kernel)
set_option maxRecDepth 20000 in
theorem gX6_divides_X6_orders : GoodIn wsX6_divides (wsV RX6 73 RX6 yX6_orders wsX6_orders) := goodIn_app (goodIn_of _ (by decide +kernel)) ggX6_divides_X6_orders
set_option maxRecDepth 20000 in
theorem ggX6_divides_X6_ones : GoodIn wsX6_divides wsX6_ones := goodIn_r _ [27] (by decide +kernel) (by decide +kernel)
set_option maxRecDepth 20000 in
theorem gX6_divides_X6_ones : GoodIn wsX6_divides (va_wsS RX6 67 yX6_ones wsX6_ones) := goodIn_app (goodIn_of _ (by decide +kernel)) ggX6_divides_X6_ones
set_option maxRecDepth 20000 in
theorem ggX6_divides_X6_round : GoodIn wsX6_divides wsX6_round := goodIn_r _ [31, 8, 1, 25, 26, 6, 27, 32, 33, 34, 35, 36, 37, 38, 39, 40, 41, 42, 43, 21, 22, 23, 24, 48, 49, 50, 51, 52, 53, 54, 55, 56] (by decide +kernel) (by decide +kernel)
set_option maxRecDepth 20000 in
theorem gX6_divides_X6_round : GoodIn wsX6_divides (wsV RX6 76 RX6 yX6_round wsX6_round) := goodIn_app (goodIn_of _ (by decide +kernel)) ggX6_divides_X6_round
set_option maxRecDepth 20000 in
theorem ggX6_divides_X6_gets : GoodIn wsX6_divides wsX6_gets := goodIn_r _ [47, 1, 48, 49, 50, 51, 52, 53, 54, 55, 56] (by decide +kernel) (by decide +kernel)
set_option maxRecDepth 20000 in
theorem gX6_divides_X6_gets : GoodIn wsX6_divides (wsV RX6 79 RX6 yX6_gets wsX6_gets) := goodIn_app (goodIn_of _ (by decide +kernel)) ggX6_divides_X6_gets
theorem dX6_divides_0 : decode cX6_divides 0 = .ok (.aload_n 0, 1) := by decide +kernel
theorem dX6_divides_1 : decode cX6_divides 1 = .ok (.getfield 7, 3) := by decide +kernel
theorem dX6_divides_4 : decode cX6_divides 4 = .ok (.iload_n 1, 1) := by decide +kernel
theorem dX6_divides_5 : decode cX6_divides 5 = .ok (.sipush 199, 3) := by decide +kernel
theorem dX6_divides_8 : decode cX6_divides 8 = .ok (.iadd, 1) := by decide +kernel
theorem dX6_divides_9 : decode cX6_divides 9 = .ok (.iaload, 1) := by decide +kernel
theorem dX6_divides_10 : decode cX6_divides 10 = .ok (.istore_n 3, 1) := by decide +kernel
theorem dX6_divides_11 : decode cX6_divides 11 = .ok (.iload_n 2, 1) := by decide +kernel
theorem dX6_divides_12 : decode cX6_divides 12 = .ok (.istore 4, 2) := by decide +kernel
theorem dX6_divides_14 : decode cX6_divides 14 = .ok (.iconst 0, 1) := by decide +kernel
theorem dX6_divides_15 : decode cX6_divides 15 = .ok (.istore 5, 2) := by decide +kernel
theorem dX6_divides_17 : decode cX6_divides 17 = .ok (.aload_n 0, 1) := by decide +kernel
theorem dX6_divides_18 : decode cX6_divides 18 = .ok (.invokevirtual 73, 3) := by decide +kernel
theorem dX6_divides_21 : decode cX6_divides 21 = .ok (.iload 4, 2) := by decide +kernel
theorem dX6_divides_23 : decode cX6_divides 23 = .ok (.invokestatic 67, 3) := by decide +kernel
theorem dX6_divides_26 : decode cX6_divides 26 = .ok (.iconst 1, 1) := by decide +kernel
theorem dX6_divides_27 : decode cX6_divides 27 = .ok (.if_icmp .le 61, 3) := by decide +kernel
theorem dX6_divides_30 : decode cX6_divides 30 = .ok (.aload_n 0, 1) := by decide +kernel
theorem dX6_divides_31 : decode cX6_divides 31 = .ok (.iload_n 1, 1) := by decide +kernel
theorem dX6_divides_32 : decode cX6_divides 32 = .ok (.iload 5, 2) := by decide +kernel
theorem dX6_divides_34 : decode cX6_divides 34 = .ok (.iload 4, 2) := by decide +kernel
theorem dX6_divides_36 : decode cX6_divides 36 = .ok (.invokevirtual 76, 3) := by decide +kernel
theorem dX6_divides_39 : decode cX6_divides 39 = .ok (.istore 6, 2) := by decide +kernel
theorem dX6_divides_41 : decode cX6_divides 41 = .ok (.aload_n 0, 1) := by decide +kernel
theorem dX6_divides_42 : decode cX6_divides 42 = .ok (.iload_n 1, 1) := by decide +kernel
theorem dX6_divides_43 : decode cX6_divides 43 = .ok (.iload 5, 2) := by decide +kernel
theorem dX6_divides_45 : decode cX6_divides 45 = .ok (.iload 5, 2) := by decide +kernel
theorem dX6_divides_47 : decode cX6_divides 47 = .ok (.iload 6, 2) := by decide +kernel
theorem dX6_divides_49 : decode cX6_divides 49 = .ok (.bipush 10, 2) := by decide +kernel
theorem dX6_divides_51 : decode cX6_divides 51 = .ok (.idiv, 1) := by decide +kernel
theorem dX6_divides_52 : decode cX6_divides 52 = .ok (.iadd, 1) := by decide +kernel
theorem dX6_divides_53 : decode cX6_divides 53 = .ok (.iload 6, 2) := by decide +kernel
theorem dX6_divides_55 : decode cX6_divides 55 = .ok (.bipush 10, 2) := by decide +kernel
theorem dX6_divides_57 : decode cX6_divides 57 = .ok (.irem, 1) := by decide +kernel
theorem dX6_divides_58 : decode cX6_divides 58 = .ok (.invokevirtual 79, 3) := by decide +kernel
theorem dX6_divides_61 : decode cX6_divides 61 = .ok (.iload 5, 2) := by decide +kernel
theorem dX6_divides_63 : decode cX6_divides 63 = .ok (.iload 6, 2) := by decide +kernel
theorem dX6_divides_65 : decode cX6_divides 65 = .ok (.bipush 10, 2) := by decide +kernel
theorem dX6_divides_67 : decode cX6_divides 67 = .ok (.idiv, 1) := by decide +kernel
theorem dX6_divides_68 : decode cX6_divides 68 = .ok (.iadd, 1) := by decide +kernel
theorem dX6_divides_69 : decode cX6_divides 69 = .ok (.istore 5, 2) := by decide +kernel
theorem dX6_divides_71 : decode cX6_divides 71 = .ok (.iload 4, 2) := by decide +kernel
theorem dX6_divides_73 : decode cX6_divides 73 = .ok (.iconst 1, 1) := by decide +kernel
theorem dX6_divides_74 : decode cX6_divides 74 = .ok (.iload 6, 2) := by decide +kernel
theorem dX6_divides_76 : decode cX6_divides 76 = .ok (.bipush 10, 2) := by decide +kernel
theorem dX6_divides_78 : decode cX6_divides 78 = .ok (.irem, 1) := by decide +kernel
theorem dX6_divides_79 : decode cX6_divides 79 = .ok (.ishl, 1) := by decide +kernel
theorem dX6_divides_80 : decode cX6_divides 80 = .ok (.iconst (-1), 1) := by decide +kernel
theorem dX6_divides_81 : decode cX6_divides 81 = .ok (.ixor, 1) := by decide +kernel
theorem dX6_divides_82 : decode cX6_divides 82 = .ok (.iand, 1) := by decide +kernel
theorem dX6_divides_83 : decode cX6_divides 83 = .ok (.istore 4, 2) := by decide +kernel
theorem dX6_divides_85 : decode cX6_divides 85 = .ok (.goto (-64), 3) := by decide +kernel
theorem dX6_divides_88 : decode cX6_divides 88 = .ok (.aload_n 0, 1) := by decide +kernel
theorem dX6_divides_89 : decode cX6_divides 89 = .ok (.iconst 0, 1) := by decide +kernel
theorem dX6_divides_90 : decode cX6_divides 90 = .ok (.putfield 83, 3) := by decide +kernel
theorem dX6_divides_93 : decode cX6_divides 93 = .ok (.iload 4, 2) := by decide +kernel
theorem dX6_divides_95 : decode cX6_divides 95 = .ok (.aload_n 0, 1) := by decide +kernel
theorem dX6_divides_96 : decode cX6_divides 96 = .ok (.getfield 83, 3) := by decide +kernel
theorem dX6_divides_99 : decode cX6_divides 99 = .ok (.ishr, 1) := by decide +kernel
theorem dX6_divides_100 : decode cX6_divides 100 = .ok (.iconst 1, 1) := by decide +kernel
theorem dX6_divides_101 : decode cX6_divides 101 = .ok (.iand, 1) := by decide +kernel
theorem dX6_divides_102 : decode cX6_divides 102 = .ok (.ifCond .ne 16, 3) := by decide +kernel
theorem dX6_divides_105 : decode cX6_divides 105 = .ok (.aload_n 0, 1) := by decide +kernel
theorem dX6_divides_106 : decode cX6_divides 106 = .ok (.dup, 1) := by decide +kernel
theorem dX6_divides_107 : decode cX6_divides 107 = .ok (.getfield 83, 3) := by decide +kernel
theorem dX6_divides_110 : decode cX6_divides 110 = .ok (.iconst 1, 1) := by decide +kernel
theorem dX6_divides_111 : decode cX6_divides 111 = .ok (.iadd, 1) := by decide +kernel
theorem dX6_divides_112 : decode cX6_divides 112 = .ok (.putfield 83, 3) := by decide +kernel
theorem dX6_divides_115 : decode cX6_divides 115 = .ok (.goto (-22), 3) := by decide +kernel
theorem dX6_divides_118 : decode cX6_divides 118 = .ok (.aload_n 0, 1) := by decide +kernel
theorem dX6_divides_119 : decode cX6_divides 119 = .ok (.iload_n 1, 1) := by decide +kernel
theorem dX6_divides_120 : decode cX6_divides 120 = .ok (.iload 5, 2) := by decide +kernel
theorem dX6_divides_122 : decode cX6_divides 122 = .ok (.bipush 24, 2) := by decide +kernel
theorem dX6_divides_124 : decode cX6_divides 124 = .ok (.aload_n 0, 1) := by decide +kernel
theorem dX6_divides_125 : decode cX6_divides 125 = .ok (.getfield 83, 3) := by decide +kernel
theorem dX6_divides_128 : decode cX6_divides 128 = .ok (.invokevirtual 79, 3) := by decide +kernel
theorem dX6_divides_131 : decode cX6_divides 131 = .ok (.aload_n 0, 1) := by decide +kernel
theorem dX6_divides_132 : decode cX6_divides 132 = .ok (.getfield 7, 3) := by decide +kernel
theorem dX6_divides_135 : decode cX6_divides 135 = .ok (.iload_n 1, 1) := by decide +kernel
theorem dX6_divides_136 : decode cX6_divides 136 = .ok (.sipush 199, 3) := by decide +kernel
theorem dX6_divides_139 : decode cX6_divides 139 = .ok (.iadd, 1) := by decide +kernel
theorem dX6_divides_140 : decode cX6_divides 140 = .ok (.iaload, 1) := by decide +kernel
theorem dX6_divides_141 : decode cX6_divides 141 = .ok (.iload_n 3, 1) := by decide +kernel
theorem dX6_divides_142 : decode cX6_divides 142 = .ok (.isub, 1) := by decide +kernel
theorem dX6_divides_143 : decode cX6_divides 143 = .ok (.ireturn, 1) := by decide +kernel
set_option maxRecDepth 20000 in
theorem ggX6_reason_X6_grudgeOf : GoodIn wsX6_reason wsX6_grudgeOf := goodIn_r _ [6, 1, 15, 16, 17, 18, 19, 20, 21, 22, 23] (by decide +kernel) (by decide +kernel)
set_option maxRecDepth 20000 in
theorem gX6_reason_X6_grudgeOf : GoodIn wsX6_reason (wsV RX6 41 RX6 yX6_grudgeOf wsX6_grudgeOf) := goodIn_app (goodIn_of _ (by decide +kernel)) ggX6_reason_X6_grudgeOf
set_option maxRecDepth 20000 in
theorem ggX6_reason_X6_share : GoodIn wsX6_reason wsX6_share := goodIn_r _ [10, 1, 11, 12, 13, 5, 14, 15, 16, 17, 18, 19, 20, 21, 22, 23] (by decide +kernel) (by decide +kernel)
set_option maxRecDepth 20000 in
theorem gX6_reason_X6_share : GoodIn wsX6_reason (wsV RX6 37 RX6 yX6_share wsX6_share) := goodIn_app (goodIn_of _ (by decide +kernel)) ggX6_reason_X6_share
theorem dX6_reason_0 : decode cX6_reason 0 = .ok (.aload_n 0, 1) := by decide +kernel
theorem dX6_reason_1 : decode cX6_reason 1 = .ok (.getfield 7, 3) := by decide +kernel
theorem dX6_reason_4 : decode cX6_reason 4 = .ok (.sipush 198, 3) := by decide +kernel
theorem dX6_reason_7 : decode cX6_reason 7 = .ok (.iaload, 1) := by decide +kernel
theorem dX6_reason_8 : decode cX6_reason 8 = .ok (.istore 4, 2) := by decide +kernel
theorem dX6_reason_10 : decode cX6_reason 10 = .ok (.aload_n 0, 1) := by decide +kernel
theorem dX6_reason_11 : decode cX6_reason 11 = .ok (.iload_n 2, 1) := by decide +kernel
theorem dX6_reason_12 : decode cX6_reason 12 = .ok (.iload_n 3, 1) := by decide +kernel
theorem dX6_reason_13 : decode cX6_reason 13 = .ok (.invokevirtual 41, 3) := by decide +kernel
theorem dX6_reason_16 : decode cX6_reason 16 = .ok (.iload 4, 2) := by decide +kernel
theorem dX6_reason_18 : decode cX6_reason 18 = .ok (.if_icmp .ge 14, 3) := by decide +kernel
theorem dX6_reason_21 : decode cX6_reason 21 = .ok (.aload_n 0, 1) := by decide +kernel
theorem dX6_reason_22 : decode cX6_reason 22 = .ok (.iload_n 3, 1) := by decide +kernel
theorem dX6_reason_23 : decode cX6_reason 23 = .ok (.iload_n 2, 1) := by decide +kernel
theorem dX6_reason_24 : decode cX6_reason 24 = .ok (.invokevirtual 41, 3) := by decide +kernel
theorem dX6_reason_27 : decode cX6_reason 27 = .ok (.iload 4, 2) := by decide +kernel
theorem dX6_reason_29 : decode cX6_reason 29 = .ok (.if_icmp .lt 5, 3) := by decide +kernel
theorem dX6_reason_32 : decode cX6_reason 32 = .ok (.iconst 1, 1) := by decide +kernel
theorem dX6_reason_33 : decode cX6_reason 33 = .ok (.ireturn, 1) := by decide +kernel
theorem dX6_reason_34 : decode cX6_reason 34 = .ok (.aload_n 0, 1) := by decide +kernel
theorem dX6_reason_35 : decode cX6_reason 35 = .ok (.iload_n 1, 1) := by decide +kernel
theorem dX6_reason_36 : decode cX6_reason 36 = .ok (.iload_n 2, 1) := by decide +kernel
theorem dX6_reason_37 : decode cX6_reason 37 = .ok (.iload_n 3, 1) := by decide +kernel
theorem dX6_reason_38 : decode cX6_reason 38 = .ok (.invokevirtual 37, 3) := by decide +kernel
theorem dX6_reason_41 : decode cX6_reason 41 = .ok (.aload_n 0, 1) := by decide +kernel
theorem dX6_reason_42 : decode cX6_reason 42 = .ok (.iload_n 1, 1) := by decide +kernel
theorem dX6_reason_43 : decode cX6_reason 43 = .ok (.iload_n 2, 1) := by decide +kernel
theorem dX6_reason_44 : decode cX6_reason 44 = .ok (.iload_n 2, 1) := by decide +kernel
theorem dX6_reason_45 : decode cX6_reason 45 = .ok (.invokevirtual 37, 3) := by decide +kernel
theorem dX6_reason_48 : decode cX6_reason 48 = .ok (.if_icmp .le 7, 3) := by decide +kernel
theorem dX6_reason_51 : decode cX6_reason 51 = .ok (.iconst 1, 1) := by decide +kernel
theorem dX6_reason_52 : decode cX6_reason 52 = .ok (.goto 4, 3) := by decide +kernel
theorem dX6_reason_55 : decode cX6_reason 55 = .ok (.iconst 0, 1) := by decide +kernel
theorem dX6_reason_56 : decode cX6_reason 56 = .ok (.istore 5, 2) := by decide +kernel
theorem dX6_reason_58 : decode cX6_reason 58 = .ok (.aload_n 0, 1) := by decide +kernel
theorem dX6_reason_59 : decode cX6_reason 59 = .ok (.iload_n 1, 1) := by decide +kernel
theorem dX6_reason_60 : decode cX6_reason 60 = .ok (.iload_n 3, 1) := by decide +kernel
theorem dX6_reason_61 : decode cX6_reason 61 = .ok (.iload_n 2, 1) := by decide +kernel
theorem dX6_reason_62 : decode cX6_reason 62 = .ok (.invokevirtual 37, 3) := by decide +kernel
theorem dX6_reason_65 : decode cX6_reason 65 = .ok (.aload_n 0, 1) := by decide +kernel
theorem dX6_reason_66 : decode cX6_reason 66 = .ok (.iload_n 1, 1) := by decide +kernel
theorem dX6_reason_67 : decode cX6_reason 67 = .ok (.iload_n 3, 1) := by decide +kernel
theorem dX6_reason_68 : decode cX6_reason 68 = .ok (.iload_n 3, 1) := by decide +kernel
theorem dX6_reason_69 : decode cX6_reason 69 = .ok (.invokevirtual 37, 3) := by decide +kernel
theorem dX6_reason_72 : decode cX6_reason 72 = .ok (.if_icmp .le 7, 3) := by decide +kernel
theorem dX6_reason_75 : decode cX6_reason 75 = .ok (.iconst 1, 1) := by decide +kernel
theorem dX6_reason_76 : decode cX6_reason 76 = .ok (.goto 4, 3) := by decide +kernel
theorem dX6_reason_79 : decode cX6_reason 79 = .ok (.iconst 0, 1) := by decide +kernel
theorem dX6_reason_80 : decode cX6_reason 80 = .ok (.istore 6, 2) := by decide +kernel
theorem dX6_reason_82 : decode cX6_reason 82 = .ok (.iload 5, 2) := by decide +kernel
theorem dX6_reason_84 : decode cX6_reason 84 = .ok (.ifCond .ne 7, 3) := by decide +kernel
theorem dX6_reason_87 : decode cX6_reason 87 = .ok (.iconst 2, 1) := by decide +kernel
theorem dX6_reason_88 : decode cX6_reason 88 = .ok (.goto 13, 3) := by decide +kernel
theorem dX6_reason_91 : decode cX6_reason 91 = .ok (.iload 6, 2) := by decide +kernel
theorem dX6_reason_93 : decode cX6_reason 93 = .ok (.ifCond .eq 7, 3) := by decide +kernel
theorem dX6_reason_96 : decode cX6_reason 96 = .ok (.iconst 0, 1) := by decide +kernel
theorem dX6_reason_97 : decode cX6_reason 97 = .ok (.goto 4, 3) := by decide +kernel
theorem dX6_reason_100 : decode cX6_reason 100 = .ok (.iconst 3, 1) := by decide +kernel
theorem dX6_reason_101 : decode cX6_reason 101 = .ok (.ireturn, 1) := by decide +kernel
theorem dX6_trades_0 : decode cX6_trades 0 = .ok (.iconst 0, 1) := by decide +kernel
theorem dX6_trades_1 : decode cX6_trades 1 = .ok (.istore 4, 2) := by decide +kernel
theorem dX6_trades_3 : decode cX6_trades 3 = .ok (.iload 4, 2) := by decide +kernel
theorem dX6_trades_5 : decode cX6_trades 5 = .ok (.bipush 24, 2) := by decide +kernel
theorem dX6_trades_7 : decode cX6_trades 7 = .ok (.if_icmp .ge 57, 3) := by decide +kernel
theorem dX6_trades_10 : decode cX6_trades 10 = .ok (.aload_n 0, 1) := by decide +kernel
theorem dX6_trades_11 : decode cX6_trades 11 = .ok (.getfield 7, 3) := by decide +kernel
theorem dX6_trades_14 : decode cX6_trades 14 = .ok (.iload_n 1, 1) := by decide +kernel
theorem dX6_trades_15 : decode cX6_trades 15 = .ok (.bipush 96, 2) := by decide +kernel
theorem dX6_trades_17 : decode cX6_trades 17 = .ok (.iadd, 1) := by decide +kernel
theorem dX6_trades_18 : decode cX6_trades 18 = .ok (.iload 4, 2) := by decide +kernel
theorem dX6_trades_20 : decode cX6_trades 20 = .ok (.iadd, 1) := by decide +kernel
theorem dX6_trades_21 : decode cX6_trades 21 = .ok (.iaload, 1) := by decide +kernel
theorem dX6_trades_22 : decode cX6_trades 22 = .ok (.istore 5, 2) := by decide +kernel
theorem dX6_trades_24 : decode cX6_trades 24 = .ok (.aload_n 0, 1) := by decide +kernel
theorem dX6_trades_25 : decode cX6_trades 25 = .ok (.getfield 7, 3) := by decide +kernel
theorem dX6_trades_28 : decode cX6_trades 28 = .ok (.iload_n 1, 1) := by decide +kernel
theorem dX6_trades_29 : decode cX6_trades 29 = .ok (.bipush 96, 2) := by decide +kernel
theorem dX6_trades_31 : decode cX6_trades 31 = .ok (.iadd, 1) := by decide +kernel
theorem dX6_trades_32 : decode cX6_trades 32 = .ok (.iload 4, 2) := by decide +kernel
theorem dX6_trades_34 : decode cX6_trades 34 = .ok (.iadd, 1) := by decide +kernel
theorem dX6_trades_35 : decode cX6_trades 35 = .ok (.iload 5, 2) := by decide +kernel
theorem dX6_trades_37 : decode cX6_trades 37 = .ok (.iload_n 2, 1) := by decide +kernel
theorem dX6_trades_38 : decode cX6_trades 38 = .ok (.if_icmp .ne 7, 3) := by decide +kernel
theorem dX6_trades_41 : decode cX6_trades 41 = .ok (.iload_n 3, 1) := by decide +kernel
theorem dX6_trades_42 : decode cX6_trades 42 = .ok (.goto 15, 3) := by decide +kernel
theorem dX6_trades_45 : decode cX6_trades 45 = .ok (.iload 5, 2) := by decide +kernel
theorem dX6_trades_47 : decode cX6_trades 47 = .ok (.iload_n 3, 1) := by decide +kernel
theorem dX6_trades_48 : decode cX6_trades 48 = .ok (.if_icmp .ne 7, 3) := by decide +kernel
theorem dX6_trades_51 : decode cX6_trades 51 = .ok (.iload_n 2, 1) := by decide +kernel
theorem dX6_trades_52 : decode cX6_trades 52 = .ok (.goto 5, 3) := by decide +kernel
theorem dX6_trades_55 : decode cX6_trades 55 = .ok (.iload 5, 2) := by decide +kernel
theorem dX6_trades_57 : decode cX6_trades 57 = .ok (.iastore, 1) := by decide +kernel
theorem dX6_trades_58 : decode cX6_trades 58 = .ok (.iinc 4 1, 3) := by decide +kernel
theorem dX6_trades_61 : decode cX6_trades 61 = .ok (.goto (-58), 3) := by decide +kernel
theorem dX6_trades_64 : decode cX6_trades 64 = .ok (.return_, 1) := by decide +kernel
set_option maxRecDepth 20000 in
theorem ggX6_best_X6_reason : GoodIn wsX6_best wsX6_reason := goodIn_r _ [5, 6, 7, 8, 9, 4, 10, 11, 12, 13, 14, 15, 16, 17, 18, 39, 40, 41, 42, 43, 44, 45, 46, 47] (by decide +kernel) (by decide +kernel)
set_option maxRecDepth 20000 in
theorem gX6_best_X6_reason : GoodIn wsX6_best (wsV RX6 86 RX6 yX6_reason wsX6_reason) := goodIn_app (goodIn_of _ (by decide +kernel)) ggX6_best_X6_reason
set_option maxRecDepth 20000 in
theorem ggX6_best_X6_trades : GoodIn wsX6_best wsX6_trades := goodIn_r _ [22, 6, 39, 40, 41, 42, 43, 44, 45, 46, 47] (by decide +kernel) (by decide +kernel)
set_option maxRecDepth 20000 in
theorem gX6_best_X6_trades : GoodIn wsX6_best (wsV RX6 89 RX6 yX6_trades wsX6_trades) := goodIn_app (goodIn_of _ (by decide +kernel)) ggX6_best_X6_trades
set_option maxRecDepth 20000 in
theorem ggX6_best_X6_allEnvies : GoodIn wsX6_best wsX6_allEnvies := goodIn_r _ [26, 27, 28, 29, 4, 30, 31, 32, 33, 34, 35, 36, 37, 38, 11, 12, 13, 14, 6, 15, 16, 17, 18, 7, 8, 9, 10, 39, 40, 41, 42, 43, 44, 45, 46, 47] (by decide +kernel) (by decide +kernel)
set_option maxRecDepth 20000 in
theorem gX6_best_X6_allEnvies : GoodIn wsX6_best (wsV RX6 93 RX6 yX6_allEnvies wsX6_allEnvies) := goodIn_app (goodIn_of _ (by decide +kernel)) ggX6_best_X6_allEnvies
theorem dX6_best_0 : decode cX6_best 0 = .ok (.bipush (-5), 2) := by decide +kernel
theorem dX6_best_2 : decode cX6_best 2 = .ok (.istore_n 2, 1) := by decide +kernel
theorem dX6_best_3 : decode cX6_best 3 = .ok (.iconst 0, 1) := by decide +kernel
theorem dX6_best_4 : decode cX6_best 4 = .ok (.istore_n 3, 1) := by decide +kernel
theorem dX6_best_5 : decode cX6_best 5 = .ok (.iconst 0, 1) := by decide +kernel
theorem dX6_best_6 : decode cX6_best 6 = .ok (.istore 4, 2) := by decide +kernel
theorem dX6_best_8 : decode cX6_best 8 = .ok (.iload 4, 2) := by decide +kernel
theorem dX6_best_10 : decode cX6_best 10 = .ok (.bipush 49, 2) := by decide +kernel
theorem dX6_best_12 : decode cX6_best 12 = .ok (.if_icmp .ge 111, 3) := by decide +kernel
theorem dX6_best_15 : decode cX6_best 15 = .ok (.iload 4, 2) := by decide +kernel
theorem dX6_best_17 : decode cX6_best 17 = .ok (.bipush 7, 2) := by decide +kernel
theorem dX6_best_19 : decode cX6_best 19 = .ok (.idiv, 1) := by decide +kernel
theorem dX6_best_20 : decode cX6_best 20 = .ok (.istore 5, 2) := by decide +kernel
theorem dX6_best_22 : decode cX6_best 22 = .ok (.iload 4, 2) := by decide +kernel
theorem dX6_best_24 : decode cX6_best 24 = .ok (.bipush 7, 2) := by decide +kernel
theorem dX6_best_26 : decode cX6_best 26 = .ok (.irem, 1) := by decide +kernel
theorem dX6_best_27 : decode cX6_best 27 = .ok (.istore 6, 2) := by decide +kernel
theorem dX6_best_29 : decode cX6_best 29 = .ok (.iload 5, 2) := by decide +kernel
theorem dX6_best_31 : decode cX6_best 31 = .ok (.iload 6, 2) := by decide +kernel
theorem dX6_best_33 : decode cX6_best 33 = .ok (.if_icmp .ge 84, 3) := by decide +kernel
theorem dX6_best_36 : decode cX6_best 36 = .ok (.aload_n 0, 1) := by decide +kernel
theorem dX6_best_37 : decode cX6_best 37 = .ok (.iload_n 1, 1) := by decide +kernel
theorem dX6_best_38 : decode cX6_best 38 = .ok (.iload 5, 2) := by decide +kernel
theorem dX6_best_40 : decode cX6_best 40 = .ok (.iload 6, 2) := by decide +kernel
theorem dX6_best_42 : decode cX6_best 42 = .ok (.invokevirtual 86, 3) := by decide +kernel
theorem dX6_best_45 : decode cX6_best 45 = .ok (.ifCond .ne 72, 3) := by decide +kernel
theorem dX6_best_48 : decode cX6_best 48 = .ok (.aload_n 0, 1) := by decide +kernel
theorem dX6_best_49 : decode cX6_best 49 = .ok (.iload_n 1, 1) := by decide +kernel
theorem dX6_best_50 : decode cX6_best 50 = .ok (.iload 5, 2) := by decide +kernel
theorem dX6_best_52 : decode cX6_best 52 = .ok (.iload 6, 2) := by decide +kernel
theorem dX6_best_54 : decode cX6_best 54 = .ok (.invokevirtual 89, 3) := by decide +kernel
theorem dX6_best_57 : decode cX6_best 57 = .ok (.aload_n 0, 1) := by decide +kernel
theorem dX6_best_58 : decode cX6_best 58 = .ok (.iload_n 1, 1) := by decide +kernel
theorem dX6_best_59 : decode cX6_best 59 = .ok (.invokevirtual 93, 3) := by decide +kernel
theorem dX6_best_62 : decode cX6_best 62 = .ok (.istore 7, 2) := by decide +kernel
theorem dX6_best_64 : decode cX6_best 64 = .ok (.aload_n 0, 1) := by decide +kernel
theorem dX6_best_65 : decode cX6_best 65 = .ok (.iload_n 1, 1) := by decide +kernel
theorem dX6_best_66 : decode cX6_best 66 = .ok (.iload 5, 2) := by decide +kernel
theorem dX6_best_68 : decode cX6_best 68 = .ok (.iload 6, 2) := by decide +kernel
theorem dX6_best_70 : decode cX6_best 70 = .ok (.invokevirtual 89, 3) := by decide +kernel
theorem dX6_best_73 : decode cX6_best 73 = .ok (.iload_n 2, 1) := by decide +kernel
theorem dX6_best_74 : decode cX6_best 74 = .ok (.bipush (-5), 2) := by decide +kernel
theorem dX6_best_76 : decode cX6_best 76 = .ok (.if_icmp .eq 9, 3) := by decide +kernel
theorem dX6_best_79 : decode cX6_best 79 = .ok (.iload 7, 2) := by decide +kernel
theorem dX6_best_81 : decode cX6_best 81 = .ok (.iload_n 3, 1) := by decide +kernel
theorem dX6_best_82 : decode cX6_best 82 = .ok (.if_icmp .ge 14, 3) := by decide +kernel
theorem dX6_best_85 : decode cX6_best 85 = .ok (.bipush 10, 2) := by decide +kernel
theorem dX6_best_87 : decode cX6_best 87 = .ok (.iload 5, 2) := by decide +kernel
theorem dX6_best_89 : decode cX6_best 89 = .ok (.imul, 1) := by decide +kernel
theorem dX6_best_90 : decode cX6_best 90 = .ok (.iload 6, 2) := by decide +kernel
theorem dX6_best_92 : decode cX6_best 92 = .ok (.iadd, 1) := by decide +kernel
theorem dX6_best_93 : decode cX6_best 93 = .ok (.goto 4, 3) := by decide +kernel
theorem dX6_best_96 : decode cX6_best 96 = .ok (.iload_n 2, 1) := by decide +kernel
theorem dX6_best_97 : decode cX6_best 97 = .ok (.istore_n 2, 1) := by decide +kernel
theorem dX6_best_98 : decode cX6_best 98 = .ok (.iload_n 2, 1) := by decide +kernel
theorem dX6_best_99 : decode cX6_best 99 = .ok (.bipush 10, 2) := by decide +kernel
theorem dX6_best_101 : decode cX6_best 101 = .ok (.iload 5, 2) := by decide +kernel
theorem dX6_best_103 : decode cX6_best 103 = .ok (.imul, 1) := by decide +kernel
theorem dX6_best_104 : decode cX6_best 104 = .ok (.iload 6, 2) := by decide +kernel
theorem dX6_best_106 : decode cX6_best 106 = .ok (.iadd, 1) := by decide +kernel
theorem dX6_best_107 : decode cX6_best 107 = .ok (.if_icmp .ne 8, 3) := by decide +kernel
theorem dX6_best_110 : decode cX6_best 110 = .ok (.iload 7, 2) := by decide +kernel
theorem dX6_best_112 : decode cX6_best 112 = .ok (.goto 4, 3) := by decide +kernel
theorem dX6_best_115 : decode cX6_best 115 = .ok (.iload_n 3, 1) := by decide +kernel
theorem dX6_best_116 : decode cX6_best 116 = .ok (.istore_n 3, 1) := by decide +kernel
theorem dX6_best_117 : decode cX6_best 117 = .ok (.iinc 4 1, 3) := by decide +kernel
theorem dX6_best_120 : decode cX6_best 120 = .ok (.goto (-112), 3) := by decide +kernel
theorem dX6_best_123 : decode cX6_best 123 = .ok (.iload_n 2, 1) := by decide +kernel
theorem dX6_best_124 : decode cX6_best 124 = .ok (.ireturn, 1) := by decide +kernel
set_option maxRecDepth 20000 in
theorem ggX6_settles_X6_best : GoodIn wsX6_settles wsX6_best := goodIn_r _ [6, 7, 8, 9, 5, 10, 1, 11, 12, 13, 14, 15, 16, 17, 18, 19, 20, 21, 22, 23, 24, 25, 26, 27, 28, 29, 30, 31, 32, 33, 34, 35, 36, 37, 38, 39, 40, 41, 42, 43, 44, 45, 46, 47, 48, 49, 50, 51] (by decide +kernel) (by decide +kernel)
set_option maxRecDepth 20000 in
theorem gX6_settles_X6_best : GoodIn wsX6_settles (wsV RX6 96 RX6 yX6_best wsX6_best) := goodIn_app (goodIn_of _ (by decide +kernel)) ggX6_settles_X6_best
set_option maxRecDepth 20000 in
theorem ggX6_settles_X6_trades : GoodIn wsX6_settles wsX6_trades := goodIn_r _ [26, 1, 43, 44, 45, 46, 47, 48, 49, 50, 51] (by decide +kernel) (by decide +kernel)
set_option maxRecDepth 20000 in
theorem gX6_settles_X6_trades : GoodIn wsX6_settles (wsV RX6 89 RX6 yX6_trades wsX6_trades) := goodIn_app (goodIn_of _ (by decide +kernel)) ggX6_settles_X6_trades
theorem dX6_settles_0 : decode cX6_settles 0 = .ok (.iconst 0, 1) := by decide +kernel
theorem dX6_settles_1 : decode cX6_settles 1 = .ok (.istore_n 2, 1) := by decide +kernel
theorem dX6_settles_2 : decode cX6_settles 2 = .ok (.aload_n 0, 1) := by decide +kernel
theorem dX6_settles_3 : decode cX6_settles 3 = .ok (.iload_n 1, 1) := by decide +kernel
theorem dX6_settles_4 : decode cX6_settles 4 = .ok (.invokevirtual 96, 3) := by decide +kernel
theorem dX6_settles_7 : decode cX6_settles 7 = .ok (.istore_n 3, 1) := by decide +kernel
theorem dX6_settles_8 : decode cX6_settles 8 = .ok (.iload_n 3, 1) := by decide +kernel
theorem dX6_settles_9 : decode cX6_settles 9 = .ok (.bipush (-5), 2) := by decide +kernel
theorem dX6_settles_11 : decode cX6_settles 11 = .ok (.if_icmp .eq 28, 3) := by decide +kernel
theorem dX6_settles_14 : decode cX6_settles 14 = .ok (.aload_n 0, 1) := by decide +kernel
theorem dX6_settles_15 : decode cX6_settles 15 = .ok (.iload_n 1, 1) := by decide +kernel
theorem dX6_settles_16 : decode cX6_settles 16 = .ok (.iload_n 3, 1) := by decide +kernel
theorem dX6_settles_17 : decode cX6_settles 17 = .ok (.bipush 10, 2) := by decide +kernel
theorem dX6_settles_19 : decode cX6_settles 19 = .ok (.idiv, 1) := by decide +kernel
theorem dX6_settles_20 : decode cX6_settles 20 = .ok (.iload_n 3, 1) := by decide +kernel
theorem dX6_settles_21 : decode cX6_settles 21 = .ok (.bipush 10, 2) := by decide +kernel
theorem dX6_settles_23 : decode cX6_settles 23 = .ok (.irem, 1) := by decide +kernel
theorem dX6_settles_24 : decode cX6_settles 24 = .ok (.invokevirtual 89, 3) := by decide +kernel
theorem dX6_settles_27 : decode cX6_settles 27 = .ok (.iinc 2 1, 3) := by decide +kernel
theorem dX6_settles_30 : decode cX6_settles 30 = .ok (.aload_n 0, 1) := by decide +kernel
theorem dX6_settles_31 : decode cX6_settles 31 = .ok (.iload_n 1, 1) := by decide +kernel
theorem dX6_settles_32 : decode cX6_settles 32 = .ok (.invokevirtual 96, 3) := by decide +kernel
theorem dX6_settles_35 : decode cX6_settles 35 = .ok (.istore_n 3, 1) := by decide +kernel
theorem dX6_settles_36 : decode cX6_settles 36 = .ok (.goto (-28), 3) := by decide +kernel
theorem dX6_settles_39 : decode cX6_settles 39 = .ok (.aload_n 0, 1) := by decide +kernel
theorem dX6_settles_40 : decode cX6_settles 40 = .ok (.getfield 7, 3) := by decide +kernel
theorem dX6_settles_43 : decode cX6_settles 43 = .ok (.iload_n 1, 1) := by decide +kernel
theorem dX6_settles_44 : decode cX6_settles 44 = .ok (.sipush 201, 3) := by decide +kernel
theorem dX6_settles_47 : decode cX6_settles 47 = .ok (.iadd, 1) := by decide +kernel
theorem dX6_settles_48 : decode cX6_settles 48 = .ok (.dup2, 1) := by decide +kernel
theorem dX6_settles_49 : decode cX6_settles 49 = .ok (.iaload, 1) := by decide +kernel
theorem dX6_settles_50 : decode cX6_settles 50 = .ok (.iload_n 2, 1) := by decide +kernel
theorem dX6_settles_51 : decode cX6_settles 51 = .ok (.iadd, 1) := by decide +kernel
theorem dX6_settles_52 : decode cX6_settles 52 = .ok (.iastore, 1) := by decide +kernel
theorem dX6_settles_53 : decode cX6_settles 53 = .ok (.iload_n 2, 1) := by decide +kernel
theorem dX6_settles_54 : decode cX6_settles 54 = .ok (.ireturn, 1) := by decide +kernel
set_option maxRecDepth 20000 in
theorem ggX6_changes_X6_remembers : GoodIn wsX6_changes wsX6_remembers := goodIn_r _ [6, 7, 8, 1, 9, 10, 11, 12, 13, 14, 15, 16, 17] (by decide +kernel) (by decide +kernel)
set_option maxRecDepth 20000 in
theorem gX6_changes_X6_remembers : GoodIn wsX6_changes (wsV RX6 99 RX6 yX6_remembers wsX6_remembers) := goodIn_app (goodIn_of _ (by decide +kernel)) ggX6_changes_X6_remembers
theorem dX6_changes_0 : decode cX6_changes 0 = .ok (.aload_n 0, 1) := by decide +kernel
theorem dX6_changes_1 : decode cX6_changes 1 = .ok (.getfield 7, 3) := by decide +kernel
theorem dX6_changes_4 : decode cX6_changes 4 = .ok (.iload_n 1, 1) := by decide +kernel
theorem dX6_changes_5 : decode cX6_changes 5 = .ok (.iaload, 1) := by decide +kernel
theorem dX6_changes_6 : decode cX6_changes 6 = .ok (.istore_n 3, 1) := by decide +kernel
theorem dX6_changes_7 : decode cX6_changes 7 = .ok (.iload_n 3, 1) := by decide +kernel
theorem dX6_changes_8 : decode cX6_changes 8 = .ok (.iload_n 2, 1) := by decide +kernel
theorem dX6_changes_9 : decode cX6_changes 9 = .ok (.if_icmp .ne 6, 3) := by decide +kernel
theorem dX6_changes_12 : decode cX6_changes 12 = .ok (.bipush (-5), 2) := by decide +kernel
theorem dX6_changes_14 : decode cX6_changes 14 = .ok (.ireturn, 1) := by decide +kernel
theorem dX6_changes_15 : decode cX6_changes 15 = .ok (.aload_n 0, 1) := by decide +kernel
theorem dX6_changes_16 : decode cX6_changes 16 = .ok (.invokevirtual 99, 3) := by decide +kernel
theorem dX6_changes_19 : decode cX6_changes 19 = .ok (.aload_n 0, 1) := by decide +kernel
theorem dX6_changes_20 : decode cX6_changes 20 = .ok (.getfield 7, 3) := by decide +kernel
theorem dX6_changes_23 : decode cX6_changes 23 = .ok (.iload_n 1, 1) := by decide +kernel
theorem dX6_changes_24 : decode cX6_changes 24 = .ok (.iload_n 2, 1) := by decide +kernel
theorem dX6_changes_25 : decode cX6_changes 25 = .ok (.iastore, 1) := by decide +kernel
theorem dX6_changes_26 : decode cX6_changes 26 = .ok (.iload_n 3, 1) := by decide +kernel
theorem dX6_changes_27 : decode cX6_changes 27 = .ok (.ireturn, 1) := by decide +kernel
set_option maxRecDepth 20000 in
theorem ggX6_plant_X6_isPlot : GoodIn wsX6_plant wsX6_isPlot := goodIn_r _ [4, 5, 6, 3, 7] (by decide +kernel) (by decide +kernel)
set_option maxRecDepth 20000 in
theorem gX6_plant_X6_isPlot : GoodIn wsX6_plant (va_wsS RX6 102 yX6_isPlot wsX6_isPlot) := goodIn_app (goodIn_of _ (by decide +kernel)) ggX6_plant_X6_isPlot
set_option maxRecDepth 20000 in
theorem ggX6_plant_X6_isCrop : GoodIn wsX6_plant wsX6_isCrop := goodIn_r _ [10, 5, 6, 3, 7] (by decide +kernel) (by decide +kernel)
set_option maxRecDepth 20000 in
theorem gX6_plant_X6_isCrop : GoodIn wsX6_plant (va_wsS RX6 106 yX6_isCrop wsX6_isCrop) := goodIn_app (goodIn_of _ (by decide +kernel)) ggX6_plant_X6_isCrop
set_option maxRecDepth 20000 in
theorem ggX6_plant_X6_in : GoodIn wsX6_plant wsX6_in := goodIn_r _ [7] (by decide +kernel) (by decide +kernel)
set_option maxRecDepth 20000 in
theorem gX6_plant_X6_in : GoodIn wsX6_plant (va_wsS RX6 25 yX6_in wsX6_in) := goodIn_app (goodIn_of _ (by decide +kernel)) ggX6_plant_X6_in
set_option maxRecDepth 20000 in
theorem ggX6_plant_X6_changes : GoodIn wsX6_plant wsX6_changes := goodIn_r _ [14, 15, 16, 17, 18, 3, 19, 20, 21, 22, 23, 24, 25, 26, 27, 28, 29, 30] (by decide +kernel) (by decide +kernel)
set_option maxRecDepth 20000 in
theorem gX6_plant_X6_changes : GoodIn wsX6_plant (wsV RX6 109 RX6 yX6_changes wsX6_changes) := goodIn_app (goodIn_of _ (by decide +kernel)) ggX6_plant_X6_changes
theorem dX6_plant_0 : decode cX6_plant 0 = .ok (.iload_n 1, 1) := by decide +kernel
theorem dX6_plant_1 : decode cX6_plant 1 = .ok (.invokestatic 102, 3) := by decide +kernel
theorem dX6_plant_4 : decode cX6_plant 4 = .ok (.ifCond .eq 10, 3) := by decide +kernel
theorem dX6_plant_7 : decode cX6_plant 7 = .ok (.iload_n 2, 1) := by decide +kernel
theorem dX6_plant_8 : decode cX6_plant 8 = .ok (.invokestatic 106, 3) := by decide +kernel
theorem dX6_plant_11 : decode cX6_plant 11 = .ok (.ifCond .ne 5, 3) := by decide +kernel
theorem dX6_plant_14 : decode cX6_plant 14 = .ok (.iconst (-1), 1) := by decide +kernel
theorem dX6_plant_15 : decode cX6_plant 15 = .ok (.ireturn, 1) := by decide +kernel
theorem dX6_plant_16 : decode cX6_plant 16 = .ok (.iload_n 3, 1) := by decide +kernel
theorem dX6_plant_17 : decode cX6_plant 17 = .ok (.iconst 0, 1) := by decide +kernel
theorem dX6_plant_18 : decode cX6_plant 18 = .ok (.bipush 9, 2) := by decide +kernel
theorem dX6_plant_20 : decode cX6_plant 20 = .ok (.invokestatic 25, 3) := by decide +kernel
theorem dX6_plant_23 : decode cX6_plant 23 = .ok (.ifCond .eq 18, 3) := by decide +kernel
theorem dX6_plant_26 : decode cX6_plant 26 = .ok (.aload_n 0, 1) := by decide +kernel
theorem dX6_plant_27 : decode cX6_plant 27 = .ok (.iconst 0, 1) := by decide +kernel
theorem dX6_plant_28 : decode cX6_plant 28 = .ok (.iconst 4, 1) := by decide +kernel
theorem dX6_plant_29 : decode cX6_plant 29 = .ok (.iload_n 1, 1) := by decide +kernel
theorem dX6_plant_30 : decode cX6_plant 30 = .ok (.imul, 1) := by decide +kernel
theorem dX6_plant_31 : decode cX6_plant 31 = .ok (.iadd, 1) := by decide +kernel
theorem dX6_plant_32 : decode cX6_plant 32 = .ok (.iload_n 2, 1) := by decide +kernel
theorem dX6_plant_33 : decode cX6_plant 33 = .ok (.iadd, 1) := by decide +kernel
theorem dX6_plant_34 : decode cX6_plant 34 = .ok (.iload_n 3, 1) := by decide +kernel
theorem dX6_plant_35 : decode cX6_plant 35 = .ok (.invokevirtual 109, 3) := by decide +kernel
theorem dX6_plant_38 : decode cX6_plant 38 = .ok (.goto 5, 3) := by decide +kernel
theorem dX6_plant_41 : decode cX6_plant 41 = .ok (.bipush (-2), 2) := by decide +kernel
theorem dX6_plant_43 : decode cX6_plant 43 = .ok (.ireturn, 1) := by decide +kernel
set_option maxRecDepth 20000 in
theorem ggX6_weigh_X6_isCousin : GoodIn wsX6_weigh wsX6_isCousin := goodIn_r _ [4, 5, 6, 3, 7] (by decide +kernel) (by decide +kernel)
set_option maxRecDepth 20000 in
theorem gX6_weigh_X6_isCousin : GoodIn wsX6_weigh (va_wsS RX6 112 yX6_isCousin wsX6_isCousin) := goodIn_app (goodIn_of _ (by decide +kernel)) ggX6_weigh_X6_isCousin
set_option maxRecDepth 20000 in
theorem ggX6_weigh_X6_isCrop : GoodIn wsX6_weigh wsX6_isCrop := goodIn_r _ [10, 5, 6, 3, 7] (by decide +kernel) (by decide +kernel)
set_option maxRecDepth 20000 in
theorem gX6_weigh_X6_isCrop : GoodIn wsX6_weigh (va_wsS RX6 106 yX6_isCrop wsX6_isCrop) := goodIn_app (goodIn_of _ (by decide +kernel)) ggX6_weigh_X6_isCrop
set_option maxRecDepth 20000 in
theorem ggX6_weigh_X6_in : GoodIn wsX6_weigh wsX6_in := goodIn_r _ [7] (by decide +kernel) (by decide +kernel)
set_option maxRecDepth 20000 in
theorem gX6_weigh_X6_in : GoodIn wsX6_weigh (va_wsS RX6 25 yX6_in wsX6_in) := goodIn_app (goodIn_of _ (by decide +kernel)) ggX6_weigh_X6_in
set_option maxRecDepth 20000 in
theorem ggX6_weigh_X6_changes : GoodIn wsX6_weigh wsX6_changes := goodIn_r _ [14, 15, 16, 17, 18, 3, 19, 20, 21, 22, 23, 24, 25, 26, 27, 28, 29, 30] (by decide +kernel) (by decide +kernel)
set_option maxRecDepth 20000 in
theorem gX6_weigh_X6_changes : GoodIn wsX6_weigh (wsV RX6 109 RX6 yX6_changes wsX6_changes) := goodIn_app (goodIn_of _ (by decide +kernel)) ggX6_weigh_X6_changes
theorem dX6_weigh_0 : decode cX6_weigh 0 = .ok (.iload_n 1, 1) := by decide +kernel
theorem dX6_weigh_1 : decode cX6_weigh 1 = .ok (.invokestatic 112, 3) := by decide +kernel
theorem dX6_weigh_4 : decode cX6_weigh 4 = .ok (.ifCond .eq 10, 3) := by decide +kernel
theorem dX6_weigh_7 : decode cX6_weigh 7 = .ok (.iload_n 2, 1) := by decide +kernel
theorem dX6_weigh_8 : decode cX6_weigh 8 = .ok (.invokestatic 106, 3) := by decide +kernel
theorem dX6_weigh_11 : decode cX6_weigh 11 = .ok (.ifCond .ne 5, 3) := by decide +kernel
theorem dX6_weigh_14 : decode cX6_weigh 14 = .ok (.iconst (-1), 1) := by decide +kernel
theorem dX6_weigh_15 : decode cX6_weigh 15 = .ok (.ireturn, 1) := by decide +kernel
theorem dX6_weigh_16 : decode cX6_weigh 16 = .ok (.iload_n 3, 1) := by decide +kernel
theorem dX6_weigh_17 : decode cX6_weigh 17 = .ok (.iconst 0, 1) := by decide +kernel
theorem dX6_weigh_18 : decode cX6_weigh 18 = .ok (.bipush 9, 2) := by decide +kernel
theorem dX6_weigh_20 : decode cX6_weigh 20 = .ok (.invokestatic 25, 3) := by decide +kernel
theorem dX6_weigh_23 : decode cX6_weigh 23 = .ok (.ifCond .eq 19, 3) := by decide +kernel
theorem dX6_weigh_26 : decode cX6_weigh 26 = .ok (.aload_n 0, 1) := by decide +kernel
theorem dX6_weigh_27 : decode cX6_weigh 27 = .ok (.bipush 120, 2) := by decide +kernel
theorem dX6_weigh_29 : decode cX6_weigh 29 = .ok (.iconst 4, 1) := by decide +kernel
theorem dX6_weigh_30 : decode cX6_weigh 30 = .ok (.iload_n 1, 1) := by decide +kernel
theorem dX6_weigh_31 : decode cX6_weigh 31 = .ok (.imul, 1) := by decide +kernel
theorem dX6_weigh_32 : decode cX6_weigh 32 = .ok (.iadd, 1) := by decide +kernel
theorem dX6_weigh_33 : decode cX6_weigh 33 = .ok (.iload_n 2, 1) := by decide +kernel
theorem dX6_weigh_34 : decode cX6_weigh 34 = .ok (.iadd, 1) := by decide +kernel
theorem dX6_weigh_35 : decode cX6_weigh 35 = .ok (.iload_n 3, 1) := by decide +kernel
theorem dX6_weigh_36 : decode cX6_weigh 36 = .ok (.invokevirtual 109, 3) := by decide +kernel
theorem dX6_weigh_39 : decode cX6_weigh 39 = .ok (.goto 5, 3) := by decide +kernel
theorem dX6_weigh_42 : decode cX6_weigh 42 = .ok (.bipush (-2), 2) := by decide +kernel
theorem dX6_weigh_44 : decode cX6_weigh 44 = .ok (.ireturn, 1) := by decide +kernel
set_option maxRecDepth 20000 in
theorem ggX6_grudge_X6_isCousin : GoodIn wsX6_grudge wsX6_isCousin := goodIn_r _ [4, 5, 6, 3, 7] (by decide +kernel) (by decide +kernel)
set_option maxRecDepth 20000 in
theorem gX6_grudge_X6_isCousin : GoodIn wsX6_grudge (va_wsS RX6 112 yX6_isCousin wsX6_isCousin) := goodIn_app (goodIn_of _ (by decide +kernel)) ggX6_grudge_X6_isCousin
set_option maxRecDepth 20000 in
theorem ggX6_grudge_X6_in : GoodIn wsX6_grudge wsX6_in := goodIn_r _ [7] (by decide +kernel) (by decide +kernel)
set_option maxRecDepth 20000 in
theorem gX6_grudge_X6_in : GoodIn wsX6_grudge (va_wsS RX6 25 yX6_in wsX6_in) := goodIn_app (goodIn_of _ (by decide +kernel)) ggX6_grudge_X6_in
set_option maxRecDepth 20000 in
theorem ggX6_grudge_X6_changes : GoodIn wsX6_grudge wsX6_changes := goodIn_r _ [11, 12, 13, 14, 15, 3, 16, 17, 18, 19, 20, 21, 22, 23, 24, 25, 26, 27] (by decide +kernel) (by decide +kernel)
set_option maxRecDepth 20000 in
theorem gX6_grudge_X6_changes : GoodIn wsX6_grudge (wsV RX6 109 RX6 yX6_changes wsX6_changes) := goodIn_app (goodIn_of _ (by decide +kernel)) ggX6_grudge_X6_changes
theorem dX6_grudge_0 : decode cX6_grudge 0 = .ok (.iload_n 1, 1) := by decide +kernel
theorem dX6_grudge_1 : decode cX6_grudge 1 = .ok (.invokestatic 112, 3) := by decide +kernel
theorem dX6_grudge_4 : decode cX6_grudge 4 = .ok (.ifCond .eq 10, 3) := by decide +kernel
theorem dX6_grudge_7 : decode cX6_grudge 7 = .ok (.iload_n 2, 1) := by decide +kernel
theorem dX6_grudge_8 : decode cX6_grudge 8 = .ok (.invokestatic 112, 3) := by decide +kernel
theorem dX6_grudge_11 : decode cX6_grudge 11 = .ok (.ifCond .ne 5, 3) := by decide +kernel
theorem dX6_grudge_14 : decode cX6_grudge 14 = .ok (.iconst (-1), 1) := by decide +kernel
theorem dX6_grudge_15 : decode cX6_grudge 15 = .ok (.ireturn, 1) := by decide +kernel
theorem dX6_grudge_16 : decode cX6_grudge 16 = .ok (.iload_n 1, 1) := by decide +kernel
theorem dX6_grudge_17 : decode cX6_grudge 17 = .ok (.iload_n 2, 1) := by decide +kernel
theorem dX6_grudge_18 : decode cX6_grudge 18 = .ok (.if_icmp .eq 31, 3) := by decide +kernel
theorem dX6_grudge_21 : decode cX6_grudge 21 = .ok (.iload_n 3, 1) := by decide +kernel
theorem dX6_grudge_22 : decode cX6_grudge 22 = .ok (.iconst 0, 1) := by decide +kernel
theorem dX6_grudge_23 : decode cX6_grudge 23 = .ok (.bipush 9, 2) := by decide +kernel
theorem dX6_grudge_25 : decode cX6_grudge 25 = .ok (.invokestatic 25, 3) := by decide +kernel
theorem dX6_grudge_28 : decode cX6_grudge 28 = .ok (.ifCond .eq 21, 3) := by decide +kernel
theorem dX6_grudge_31 : decode cX6_grudge 31 = .ok (.aload_n 0, 1) := by decide +kernel
theorem dX6_grudge_32 : decode cX6_grudge 32 = .ok (.sipush 148, 3) := by decide +kernel
theorem dX6_grudge_35 : decode cX6_grudge 35 = .ok (.bipush 7, 2) := by decide +kernel
theorem dX6_grudge_37 : decode cX6_grudge 37 = .ok (.iload_n 1, 1) := by decide +kernel
theorem dX6_grudge_38 : decode cX6_grudge 38 = .ok (.imul, 1) := by decide +kernel
theorem dX6_grudge_39 : decode cX6_grudge 39 = .ok (.iadd, 1) := by decide +kernel
theorem dX6_grudge_40 : decode cX6_grudge 40 = .ok (.iload_n 2, 1) := by decide +kernel
theorem dX6_grudge_41 : decode cX6_grudge 41 = .ok (.iadd, 1) := by decide +kernel
theorem dX6_grudge_42 : decode cX6_grudge 42 = .ok (.iload_n 3, 1) := by decide +kernel
theorem dX6_grudge_43 : decode cX6_grudge 43 = .ok (.invokevirtual 109, 3) := by decide +kernel
theorem dX6_grudge_46 : decode cX6_grudge 46 = .ok (.goto 5, 3) := by decide +kernel
theorem dX6_grudge_49 : decode cX6_grudge 49 = .ok (.bipush (-2), 2) := by decide +kernel
theorem dX6_grudge_51 : decode cX6_grudge 51 = .ok (.ireturn, 1) := by decide +kernel
set_option maxRecDepth 20000 in
theorem ggX6_set_X6_in : GoodIn wsX6_set wsX6_in := goodIn_r _ [4] (by decide +kernel) (by decide +kernel)
set_option maxRecDepth 20000 in
theorem gX6_set_X6_in : GoodIn wsX6_set (va_wsS RX6 25 yX6_in wsX6_in) := goodIn_app (goodIn_of _ (by decide +kernel)) ggX6_set_X6_in
set_option maxRecDepth 20000 in
theorem ggX6_set_X6_changes : GoodIn wsX6_set wsX6_changes := goodIn_r _ [8, 9, 10, 11, 12, 3, 13, 14, 15, 16, 17, 18, 19, 20, 21, 22, 23, 24] (by decide +kernel) (by decide +kernel)
set_option maxRecDepth 20000 in
theorem gX6_set_X6_changes : GoodIn wsX6_set (wsV RX6 109 RX6 yX6_changes wsX6_changes) := goodIn_app (goodIn_of _ (by decide +kernel)) ggX6_set_X6_changes
theorem dX6_set_0 : decode cX6_set 0 = .ok (.iload_n 1, 1) := by decide +kernel
theorem dX6_set_1 : decode cX6_set 1 = .ok (.iconst 0, 1) := by decide +kernel
theorem dX6_set_2 : decode cX6_set 2 = .ok (.iconst 1, 1) := by decide +kernel
theorem dX6_set_3 : decode cX6_set 3 = .ok (.invokestatic 25, 3) := by decide +kernel
theorem dX6_set_6 : decode cX6_set 6 = .ok (.ifCond .ne 5, 3) := by decide +kernel
theorem dX6_set_9 : decode cX6_set 9 = .ok (.iconst (-1), 1) := by decide +kernel
theorem dX6_set_10 : decode cX6_set 10 = .ok (.ireturn, 1) := by decide +kernel
theorem dX6_set_11 : decode cX6_set 11 = .ok (.iload_n 1, 1) := by decide +kernel
theorem dX6_set_12 : decode cX6_set 12 = .ok (.ifCond .ne 12, 3) := by decide +kernel
theorem dX6_set_15 : decode cX6_set 15 = .ok (.iload_n 2, 1) := by decide +kernel
theorem dX6_set_16 : decode cX6_set 16 = .ok (.iconst 0, 1) := by decide +kernel
theorem dX6_set_17 : decode cX6_set 17 = .ok (.iconst 1, 1) := by decide +kernel
theorem dX6_set_18 : decode cX6_set 18 = .ok (.invokestatic 25, 3) := by decide +kernel
theorem dX6_set_21 : decode cX6_set 21 = .ok (.goto 10, 3) := by decide +kernel
theorem dX6_set_24 : decode cX6_set 24 = .ok (.iload_n 2, 1) := by decide +kernel
theorem dX6_set_25 : decode cX6_set 25 = .ok (.iconst 1, 1) := by decide +kernel
theorem dX6_set_26 : decode cX6_set 26 = .ok (.bipush 10, 2) := by decide +kernel
theorem dX6_set_28 : decode cX6_set 28 = .ok (.invokestatic 25, 3) := by decide +kernel
theorem dX6_set_31 : decode cX6_set 31 = .ok (.istore_n 3, 1) := by decide +kernel
theorem dX6_set_32 : decode cX6_set 32 = .ok (.iload_n 3, 1) := by decide +kernel
theorem dX6_set_33 : decode cX6_set 33 = .ok (.ifCond .eq 16, 3) := by decide +kernel
theorem dX6_set_36 : decode cX6_set 36 = .ok (.aload_n 0, 1) := by decide +kernel
theorem dX6_set_37 : decode cX6_set 37 = .ok (.sipush 197, 3) := by decide +kernel
theorem dX6_set_40 : decode cX6_set 40 = .ok (.iload_n 1, 1) := by decide +kernel
theorem dX6_set_41 : decode cX6_set 41 = .ok (.iadd, 1) := by decide +kernel
theorem dX6_set_42 : decode cX6_set 42 = .ok (.iload_n 2, 1) := by decide +kernel
theorem dX6_set_43 : decode cX6_set 43 = .ok (.invokevirtual 109, 3) := by decide +kernel
theorem dX6_set_46 : decode cX6_set 46 = .ok (.goto 5, 3) := by decide +kernel
theorem dX6_set_49 : decode cX6_set 49 = .ok (.bipush (-2), 2) := by decide +kernel
theorem dX6_set_51 : decode cX6_set 51 = .ok (.ireturn, 1) := by decide +kernel
set_option maxRecDepth 20000 in
theorem ggX6_divide_X6_in : GoodIn wsX6_divide wsX6_in := goodIn_r _ [4] (by decide +kernel) (by decide +kernel)
set_option maxRecDepth 20000 in
theorem gX6_divide_X6_in : GoodIn wsX6_divide (va_wsS RX6 25 yX6_in wsX6_in) := goodIn_app (goodIn_of _ (by decide +kernel)) ggX6_divide_X6_in
set_option maxRecDepth 20000 in
theorem ggX6_divide_X6_remembers : GoodIn wsX6_divide wsX6_remembers := goodIn_r _ [8, 9, 10, 11, 61, 62, 63, 64, 65, 66, 67, 68, 69] (by decide +kernel) (by decide +kernel)
set_option maxRecDepth 20000 in
theorem gX6_divide_X6_remembers : GoodIn wsX6_divide (wsV RX6 99 RX6 yX6_remembers wsX6_remembers) := goodIn_app (goodIn_of _ (by decide +kernel)) ggX6_divide_X6_remembers
set_option maxRecDepth 20000 in
theorem ggX6_divide_X6_divides : GoodIn wsX6_divide wsX6_divides := goodIn_r _ [15, 11, 16, 17, 18, 19, 3, 20, 21, 22, 23, 24, 25, 26, 27, 28, 29, 30, 31, 32, 33, 34, 35, 36, 37, 38, 39, 40, 41, 42, 43, 44, 45, 46, 47, 48, 49, 50, 51, 52, 53, 54, 55, 56, 57, 58, 59, 60, 61, 62, 63, 64, 65, 66, 67, 68, 69] (by decide +kernel) (by decide +kernel)
set_option maxRecDepth 20000 in
theorem gX6_divide_X6_divides : GoodIn wsX6_divide (wsV RX6 115 RX6 yX6_divides wsX6_divides) := goodIn_app (goodIn_of _ (by decide +kernel)) ggX6_divide_X6_divides
theorem dX6_divide_0 : decode cX6_divide 0 = .ok (.iload_n 1, 1) := by decide +kernel
theorem dX6_divide_1 : decode cX6_divide 1 = .ok (.iconst 1, 1) := by decide +kernel
theorem dX6_divide_2 : decode cX6_divide 2 = .ok (.bipush 127, 2) := by decide +kernel
theorem dX6_divide_4 : decode cX6_divide 4 = .ok (.invokestatic 25, 3) := by decide +kernel
theorem dX6_divide_7 : decode cX6_divide 7 = .ok (.ifCond .ne 6, 3) := by decide +kernel
theorem dX6_divide_10 : decode cX6_divide 10 = .ok (.bipush (-2), 2) := by decide +kernel
theorem dX6_divide_12 : decode cX6_divide 12 = .ok (.ireturn, 1) := by decide +kernel
theorem dX6_divide_13 : decode cX6_divide 13 = .ok (.aload_n 0, 1) := by decide +kernel
theorem dX6_divide_14 : decode cX6_divide 14 = .ok (.invokevirtual 99, 3) := by decide +kernel
theorem dX6_divide_17 : decode cX6_divide 17 = .ok (.aload_n 0, 1) := by decide +kernel
theorem dX6_divide_18 : decode cX6_divide 18 = .ok (.iconst 0, 1) := by decide +kernel
theorem dX6_divide_19 : decode cX6_divide 19 = .ok (.iload_n 1, 1) := by decide +kernel
theorem dX6_divide_20 : decode cX6_divide 20 = .ok (.invokevirtual 115, 3) := by decide +kernel
theorem dX6_divide_23 : decode cX6_divide 23 = .ok (.ireturn, 1) := by decide +kernel
set_option maxRecDepth 20000 in
theorem ggX6_give_X6_isPlot : GoodIn wsX6_give wsX6_isPlot := goodIn_r _ [4, 5, 6, 3, 7] (by decide +kernel) (by decide +kernel)
set_option maxRecDepth 20000 in
theorem gX6_give_X6_isPlot : GoodIn wsX6_give (va_wsS RX6 102 yX6_isPlot wsX6_isPlot) := goodIn_app (goodIn_of _ (by decide +kernel)) ggX6_give_X6_isPlot
set_option maxRecDepth 20000 in
theorem ggX6_give_X6_in : GoodIn wsX6_give wsX6_in := goodIn_r _ [7] (by decide +kernel) (by decide +kernel)
set_option maxRecDepth 20000 in
theorem gX6_give_X6_in : GoodIn wsX6_give (va_wsS RX6 25 yX6_in wsX6_in) := goodIn_app (goodIn_of _ (by decide +kernel)) ggX6_give_X6_in
set_option maxRecDepth 20000 in
theorem ggX6_give_X6_changes : GoodIn wsX6_give wsX6_changes := goodIn_r _ [11, 12, 13, 14, 15, 3, 16, 17, 18, 19, 20, 21, 22, 23, 24, 25, 26, 27] (by decide +kernel) (by decide +kernel)
set_option maxRecDepth 20000 in
theorem gX6_give_X6_changes : GoodIn wsX6_give (wsV RX6 109 RX6 yX6_changes wsX6_changes) := goodIn_app (goodIn_of _ (by decide +kernel)) ggX6_give_X6_changes
theorem dX6_give_0 : decode cX6_give 0 = .ok (.iload_n 1, 1) := by decide +kernel
theorem dX6_give_1 : decode cX6_give 1 = .ok (.invokestatic 102, 3) := by decide +kernel
theorem dX6_give_4 : decode cX6_give 4 = .ok (.ifCond .eq 25, 3) := by decide +kernel
theorem dX6_give_7 : decode cX6_give 7 = .ok (.iload_n 2, 1) := by decide +kernel
theorem dX6_give_8 : decode cX6_give 8 = .ok (.iconst 0, 1) := by decide +kernel
theorem dX6_give_9 : decode cX6_give 9 = .ok (.bipush 7, 2) := by decide +kernel
theorem dX6_give_11 : decode cX6_give 11 = .ok (.invokestatic 25, 3) := by decide +kernel
theorem dX6_give_14 : decode cX6_give 14 = .ok (.ifCond .eq 15, 3) := by decide +kernel
theorem dX6_give_17 : decode cX6_give 17 = .ok (.aload_n 0, 1) := by decide +kernel
theorem dX6_give_18 : decode cX6_give 18 = .ok (.bipush 96, 2) := by decide +kernel
theorem dX6_give_20 : decode cX6_give 20 = .ok (.iload_n 1, 1) := by decide +kernel
theorem dX6_give_21 : decode cX6_give 21 = .ok (.iadd, 1) := by decide +kernel
theorem dX6_give_22 : decode cX6_give 22 = .ok (.iload_n 2, 1) := by decide +kernel
theorem dX6_give_23 : decode cX6_give 23 = .ok (.invokevirtual 109, 3) := by decide +kernel
theorem dX6_give_26 : decode cX6_give 26 = .ok (.goto 4, 3) := by decide +kernel
theorem dX6_give_29 : decode cX6_give 29 = .ok (.iconst (-1), 1) := by decide +kernel
theorem dX6_give_30 : decode cX6_give 30 = .ok (.ireturn, 1) := by decide +kernel
set_option maxRecDepth 20000 in
theorem ggX6_trade_X6_isCousin : GoodIn wsX6_trade wsX6_isCousin := goodIn_r _ [5, 6, 7, 4, 8] (by decide +kernel) (by decide +kernel)
set_option maxRecDepth 20000 in
theorem gX6_trade_X6_isCousin : GoodIn wsX6_trade (va_wsS RX6 112 yX6_isCousin wsX6_isCousin) := goodIn_app (goodIn_of _ (by decide +kernel)) ggX6_trade_X6_isCousin
set_option maxRecDepth 20000 in
theorem ggX6_trade_X6_reason : GoodIn wsX6_trade wsX6_reason := goodIn_r _ [12, 1, 13, 14, 15, 4, 16, 17, 18, 19, 20, 21, 22, 23, 24, 51, 52, 53, 54, 55, 56, 57, 58, 59] (by decide +kernel) (by decide +kernel)
set_option maxRecDepth 20000 in
theorem gX6_trade_X6_reason : GoodIn wsX6_trade (wsV RX6 86 RX6 yX6_reason wsX6_reason) := goodIn_app (goodIn_of _ (by decide +kernel)) ggX6_trade_X6_reason
set_option maxRecDepth 20000 in
theorem ggX6_trade_X6_remembers : GoodIn wsX6_trade wsX6_remembers := goodIn_r _ [28, 29, 30, 1, 51, 52, 53, 54, 55, 56, 57, 58, 59] (by decide +kernel) (by decide +kernel)
set_option maxRecDepth 20000 in
theorem gX6_trade_X6_remembers : GoodIn wsX6_trade (wsV RX6 99 RX6 yX6_remembers wsX6_remembers) := goodIn_app (goodIn_of _ (by decide +kernel)) ggX6_trade_X6_remembers
set_option maxRecDepth 20000 in
theorem ggX6_trade_X6_trades : GoodIn wsX6_trade wsX6_trades := goodIn_r _ [34, 1, 51, 52, 53, 54, 55, 56, 57, 58, 59] (by decide +kernel) (by decide +kernel)
set_option maxRecDepth 20000 in
theorem gX6_trade_X6_trades : GoodIn wsX6_trade (wsV RX6 89 RX6 yX6_trades wsX6_trades) := goodIn_app (goodIn_of _ (by decide +kernel)) ggX6_trade_X6_trades
set_option maxRecDepth 20000 in
theorem ggX6_trade_X6_allEnvies : GoodIn wsX6_trade wsX6_allEnvies := goodIn_r _ [38, 39, 40, 41, 4, 42, 43, 44, 45, 46, 47, 48, 49, 50, 17, 18, 19, 20, 1, 21, 22, 23, 24, 13, 14, 15, 16, 51, 52, 53, 54, 55, 56, 57, 58, 59] (by decide +kernel) (by decide +kernel)
set_option maxRecDepth 20000 in
theorem gX6_trade_X6_allEnvies : GoodIn wsX6_trade (wsV RX6 93 RX6 yX6_allEnvies wsX6_allEnvies) := goodIn_app (goodIn_of _ (by decide +kernel)) ggX6_trade_X6_allEnvies
theorem dX6_trade_0 : decode cX6_trade 0 = .ok (.iload_n 1, 1) := by decide +kernel
theorem dX6_trade_1 : decode cX6_trade 1 = .ok (.invokestatic 112, 3) := by decide +kernel
theorem dX6_trade_4 : decode cX6_trade 4 = .ok (.ifCond .eq 10, 3) := by decide +kernel
theorem dX6_trade_7 : decode cX6_trade 7 = .ok (.iload_n 2, 1) := by decide +kernel
theorem dX6_trade_8 : decode cX6_trade 8 = .ok (.invokestatic 112, 3) := by decide +kernel
theorem dX6_trade_11 : decode cX6_trade 11 = .ok (.ifCond .ne 5, 3) := by decide +kernel
theorem dX6_trade_14 : decode cX6_trade 14 = .ok (.iconst (-1), 1) := by decide +kernel
theorem dX6_trade_15 : decode cX6_trade 15 = .ok (.ireturn, 1) := by decide +kernel
theorem dX6_trade_16 : decode cX6_trade 16 = .ok (.iload_n 1, 1) := by decide +kernel
theorem dX6_trade_17 : decode cX6_trade 17 = .ok (.iload_n 2, 1) := by decide +kernel
theorem dX6_trade_18 : decode cX6_trade 18 = .ok (.if_icmp .ne 6, 3) := by decide +kernel
theorem dX6_trade_21 : decode cX6_trade 21 = .ok (.bipush (-2), 2) := by decide +kernel
theorem dX6_trade_23 : decode cX6_trade 23 = .ok (.ireturn, 1) := by decide +kernel
theorem dX6_trade_24 : decode cX6_trade 24 = .ok (.aload_n 0, 1) := by decide +kernel
theorem dX6_trade_25 : decode cX6_trade 25 = .ok (.iconst 0, 1) := by decide +kernel
theorem dX6_trade_26 : decode cX6_trade 26 = .ok (.iload_n 1, 1) := by decide +kernel
theorem dX6_trade_27 : decode cX6_trade 27 = .ok (.iload_n 2, 1) := by decide +kernel
theorem dX6_trade_28 : decode cX6_trade 28 = .ok (.invokevirtual 86, 3) := by decide +kernel
theorem dX6_trade_31 : decode cX6_trade 31 = .ok (.istore_n 3, 1) := by decide +kernel
theorem dX6_trade_32 : decode cX6_trade 32 = .ok (.iload_n 3, 1) := by decide +kernel
theorem dX6_trade_33 : decode cX6_trade 33 = .ok (.ifCond .le 8, 3) := by decide +kernel
theorem dX6_trade_36 : decode cX6_trade 36 = .ok (.bipush (-10), 2) := by decide +kernel
theorem dX6_trade_38 : decode cX6_trade 38 = .ok (.iload_n 3, 1) := by decide +kernel
theorem dX6_trade_39 : decode cX6_trade 39 = .ok (.isub, 1) := by decide +kernel
theorem dX6_trade_40 : decode cX6_trade 40 = .ok (.ireturn, 1) := by decide +kernel
theorem dX6_trade_41 : decode cX6_trade 41 = .ok (.aload_n 0, 1) := by decide +kernel
theorem dX6_trade_42 : decode cX6_trade 42 = .ok (.invokevirtual 99, 3) := by decide +kernel
theorem dX6_trade_45 : decode cX6_trade 45 = .ok (.aload_n 0, 1) := by decide +kernel
theorem dX6_trade_46 : decode cX6_trade 46 = .ok (.iconst 0, 1) := by decide +kernel
theorem dX6_trade_47 : decode cX6_trade 47 = .ok (.iload_n 1, 1) := by decide +kernel
theorem dX6_trade_48 : decode cX6_trade 48 = .ok (.iload_n 2, 1) := by decide +kernel
theorem dX6_trade_49 : decode cX6_trade 49 = .ok (.invokevirtual 89, 3) := by decide +kernel
theorem dX6_trade_52 : decode cX6_trade 52 = .ok (.aload_n 0, 1) := by decide +kernel
theorem dX6_trade_53 : decode cX6_trade 53 = .ok (.getfield 7, 3) := by decide +kernel
theorem dX6_trade_56 : decode cX6_trade 56 = .ok (.sipush 201, 3) := by decide +kernel
theorem dX6_trade_59 : decode cX6_trade 59 = .ok (.dup2, 1) := by decide +kernel
theorem dX6_trade_60 : decode cX6_trade 60 = .ok (.iaload, 1) := by decide +kernel
theorem dX6_trade_61 : decode cX6_trade 61 = .ok (.iconst 1, 1) := by decide +kernel
theorem dX6_trade_62 : decode cX6_trade 62 = .ok (.iadd, 1) := by decide +kernel
theorem dX6_trade_63 : decode cX6_trade 63 = .ok (.iastore, 1) := by decide +kernel
theorem dX6_trade_64 : decode cX6_trade 64 = .ok (.aload_n 0, 1) := by decide +kernel
theorem dX6_trade_65 : decode cX6_trade 65 = .ok (.iconst 0, 1) := by decide +kernel
theorem dX6_trade_66 : decode cX6_trade 66 = .ok (.invokevirtual 93, 3) := by decide +kernel
theorem dX6_trade_69 : decode cX6_trade 69 = .ok (.ireturn, 1) := by decide +kernel
set_option maxRecDepth 20000 in
theorem ggX6_settle_X6_best : GoodIn wsX6_settle wsX6_best := goodIn_r _ [5, 6, 7, 8, 4, 9, 10, 11, 12, 13, 14, 15, 16, 17, 18, 19, 20, 21, 22, 23, 24, 25, 26, 27, 28, 29, 30, 31, 32, 33, 34, 35, 36, 37, 38, 39, 40, 41, 42, 53, 54, 55, 56, 57, 58, 59, 60, 61] (by decide +kernel) (by decide +kernel)
set_option maxRecDepth 20000 in
theorem gX6_settle_X6_best : GoodIn wsX6_settle (wsV RX6 96 RX6 yX6_best wsX6_best) := goodIn_app (goodIn_of _ (by decide +kernel)) ggX6_settle_X6_best
set_option maxRecDepth 20000 in
theorem ggX6_settle_X6_remembers : GoodIn wsX6_settle wsX6_remembers := goodIn_r _ [46, 47, 48, 10, 53, 54, 55, 56, 57, 58, 59, 60, 61] (by decide +kernel) (by decide +kernel)
set_option maxRecDepth 20000 in
theorem gX6_settle_X6_remembers : GoodIn wsX6_settle (wsV RX6 99 RX6 yX6_remembers wsX6_remembers) := goodIn_app (goodIn_of _ (by decide +kernel)) ggX6_settle_X6_remembers
set_option maxRecDepth 20000 in
theorem ggX6_settle_X6_settles : GoodIn wsX6_settle wsX6_settles := goodIn_r _ [52, 10, 1, 2, 3, 4, 5, 6, 7, 8, 9, 11, 12, 13, 14, 15, 16, 17, 18, 19, 20, 21, 22, 23, 24, 25, 26, 27, 28, 29, 30, 31, 32, 33, 34, 35, 36, 37, 38, 39, 40, 41, 42, 53, 54, 55, 56, 57, 58, 59, 60, 61] (by decide +kernel) (by decide +kernel)
set_option maxRecDepth 20000 in
theorem gX6_settle_X6_settles : GoodIn wsX6_settle (wsV RX6 118 RX6 yX6_settles wsX6_settles) := goodIn_app (goodIn_of _ (by decide +kernel)) ggX6_settle_X6_settles
theorem dX6_settle_0 : decode cX6_settle 0 = .ok (.aload_n 0, 1) := by decide +kernel
theorem dX6_settle_1 : decode cX6_settle 1 = .ok (.iconst 0, 1) := by decide +kernel
theorem dX6_settle_2 : decode cX6_settle 2 = .ok (.invokevirtual 96, 3) := by decide +kernel
theorem dX6_settle_5 : decode cX6_settle 5 = .ok (.bipush (-5), 2) := by decide +kernel
theorem dX6_settle_7 : decode cX6_settle 7 = .ok (.if_icmp .ne 6, 3) := by decide +kernel
theorem dX6_settle_10 : decode cX6_settle 10 = .ok (.bipush (-5), 2) := by decide +kernel
theorem dX6_settle_12 : decode cX6_settle 12 = .ok (.ireturn, 1) := by decide +kernel
theorem dX6_settle_13 : decode cX6_settle 13 = .ok (.aload_n 0, 1) := by decide +kernel
theorem dX6_settle_14 : decode cX6_settle 14 = .ok (.invokevirtual 99, 3) := by decide +kernel
theorem dX6_settle_17 : decode cX6_settle 17 = .ok (.aload_n 0, 1) := by decide +kernel
theorem dX6_settle_18 : decode cX6_settle 18 = .ok (.iconst 0, 1) := by decide +kernel
theorem dX6_settle_19 : decode cX6_settle 19 = .ok (.invokevirtual 118, 3) := by decide +kernel
theorem dX6_settle_22 : decode cX6_settle 22 = .ok (.ireturn, 1) := by decide +kernel
theorem dX6_type_0 : decode cX6_type 0 = .ok (.aload_n 0, 1) := by decide +kernel
theorem dX6_type_1 : decode cX6_type 1 = .ok (.getfield 121, 3) := by decide +kernel
theorem dX6_type_4 : decode cX6_type 4 = .ok (.bipush 60, 2) := by decide +kernel
theorem dX6_type_6 : decode cX6_type 6 = .ok (.if_icmp .ne 6, 3) := by decide +kernel
theorem dX6_type_9 : decode cX6_type 9 = .ok (.bipush (-3), 2) := by decide +kernel
theorem dX6_type_11 : decode cX6_type 11 = .ok (.ireturn, 1) := by decide +kernel
theorem dX6_type_12 : decode cX6_type 12 = .ok (.aload_n 0, 1) := by decide +kernel
theorem dX6_type_13 : decode cX6_type 13 = .ok (.getfield 19, 3) := by decide +kernel
theorem dX6_type_16 : decode cX6_type 16 = .ok (.aload_n 0, 1) := by decide +kernel
theorem dX6_type_17 : decode cX6_type 17 = .ok (.getfield 121, 3) := by decide +kernel
theorem dX6_type_20 : decode cX6_type 20 = .ok (.iload_n 1, 1) := by decide +kernel
theorem dX6_type_21 : decode cX6_type 21 = .ok (.iastore, 1) := by decide +kernel
theorem dX6_type_22 : decode cX6_type 22 = .ok (.aload_n 0, 1) := by decide +kernel
theorem dX6_type_23 : decode cX6_type 23 = .ok (.dup, 1) := by decide +kernel
theorem dX6_type_24 : decode cX6_type 24 = .ok (.getfield 121, 3) := by decide +kernel
theorem dX6_type_27 : decode cX6_type 27 = .ok (.iconst 1, 1) := by decide +kernel
theorem dX6_type_28 : decode cX6_type 28 = .ok (.iadd, 1) := by decide +kernel
theorem dX6_type_29 : decode cX6_type 29 = .ok (.putfield 121, 3) := by decide +kernel
theorem dX6_type_32 : decode cX6_type 32 = .ok (.aload_n 0, 1) := by decide +kernel
theorem dX6_type_33 : decode cX6_type 33 = .ok (.getfield 121, 3) := by decide +kernel
theorem dX6_type_36 : decode cX6_type 36 = .ok (.ireturn, 1) := by decide +kernel
theorem dX6_clearText_0 : decode cX6_clearText 0 = .ok (.aload_n 0, 1) := by decide +kernel
theorem dX6_clearText_1 : decode cX6_clearText 1 = .ok (.getfield 121, 3) := by decide +kernel
theorem dX6_clearText_4 : decode cX6_clearText 4 = .ok (.istore_n 1, 1) := by decide +kernel
theorem dX6_clearText_5 : decode cX6_clearText 5 = .ok (.aload_n 0, 1) := by decide +kernel
theorem dX6_clearText_6 : decode cX6_clearText 6 = .ok (.iconst 0, 1) := by decide +kernel
theorem dX6_clearText_7 : decode cX6_clearText 7 = .ok (.putfield 121, 3) := by decide +kernel
theorem dX6_clearText_10 : decode cX6_clearText 10 = .ok (.iload_n 1, 1) := by decide +kernel
theorem dX6_clearText_11 : decode cX6_clearText 11 = .ok (.ireturn, 1) := by decide +kernel
theorem dX6_sign_0 : decode cX6_sign 0 = .ok (.iload_n 1, 1) := by decide +kernel
theorem dX6_sign_1 : decode cX6_sign 1 = .ok (.aload_n 0, 1) := by decide +kernel
theorem dX6_sign_2 : decode cX6_sign 2 = .ok (.getfield 121, 3) := by decide +kernel
theorem dX6_sign_5 : decode cX6_sign 5 = .ok (.if_icmp .ge 12, 3) := by decide +kernel
theorem dX6_sign_8 : decode cX6_sign 8 = .ok (.aload_n 0, 1) := by decide +kernel
theorem dX6_sign_9 : decode cX6_sign 9 = .ok (.getfield 19, 3) := by decide +kernel
theorem dX6_sign_12 : decode cX6_sign 12 = .ok (.iload_n 1, 1) := by decide +kernel
theorem dX6_sign_13 : decode cX6_sign 13 = .ok (.iaload, 1) := by decide +kernel
theorem dX6_sign_14 : decode cX6_sign 14 = .ok (.goto 4, 3) := by decide +kernel
theorem dX6_sign_17 : decode cX6_sign 17 = .ok (.iconst (-1), 1) := by decide +kernel
theorem dX6_sign_18 : decode cX6_sign 18 = .ok (.ireturn, 1) := by decide +kernel
set_option maxRecDepth 20000 in
theorem ggX6_digit_X6_sign : GoodIn wsX6_digit wsX6_sign := goodIn_r _ [5, 6, 7, 11, 12, 13, 14, 15, 16, 17, 18, 19] (by decide +kernel) (by decide +kernel)
set_option maxRecDepth 20000 in
theorem gX6_digit_X6_sign : GoodIn wsX6_digit (wsV RX6 124 RX6 yX6_sign wsX6_sign) := goodIn_app (goodIn_of _ (by decide +kernel)) ggX6_digit_X6_sign
set_option maxRecDepth 20000 in
theorem ggX6_digit_X6_in : GoodIn wsX6_digit wsX6_in := goodIn_r _ [10] (by decide +kernel) (by decide +kernel)
set_option maxRecDepth 20000 in
theorem gX6_digit_X6_in : GoodIn wsX6_digit (va_wsS RX6 25 yX6_in wsX6_in) := goodIn_app (goodIn_of _ (by decide +kernel)) ggX6_digit_X6_in
theorem dX6_digit_0 : decode cX6_digit 0 = .ok (.aload_n 0, 1) := by decide +kernel
theorem dX6_digit_1 : decode cX6_digit 1 = .ok (.iload_n 1, 1) := by decide +kernel
theorem dX6_digit_2 : decode cX6_digit 2 = .ok (.invokevirtual 124, 3) := by decide +kernel
theorem dX6_digit_5 : decode cX6_digit 5 = .ok (.bipush 48, 2) := by decide +kernel
theorem dX6_digit_7 : decode cX6_digit 7 = .ok (.bipush 57, 2) := by decide +kernel
theorem dX6_digit_9 : decode cX6_digit 9 = .ok (.invokestatic 25, 3) := by decide +kernel
theorem dX6_digit_12 : decode cX6_digit 12 = .ok (.ifCond .eq 14, 3) := by decide +kernel
theorem dX6_digit_15 : decode cX6_digit 15 = .ok (.aload_n 0, 1) := by decide +kernel
theorem dX6_digit_16 : decode cX6_digit 16 = .ok (.iload_n 1, 1) := by decide +kernel
theorem dX6_digit_17 : decode cX6_digit 17 = .ok (.invokevirtual 124, 3) := by decide +kernel
theorem dX6_digit_20 : decode cX6_digit 20 = .ok (.bipush 48, 2) := by decide +kernel
theorem dX6_digit_22 : decode cX6_digit 22 = .ok (.isub, 1) := by decide +kernel
theorem dX6_digit_23 : decode cX6_digit 23 = .ok (.goto 4, 3) := by decide +kernel
theorem dX6_digit_26 : decode cX6_digit 26 = .ok (.iconst (-1), 1) := by decide +kernel
theorem dX6_digit_27 : decode cX6_digit 27 = .ok (.ireturn, 1) := by decide +kernel
set_option maxRecDepth 20000 in
theorem ggX6_digitsEnd_X6_sign : GoodIn wsX6_digitsEnd wsX6_sign := goodIn_r _ [5, 6, 7, 15, 16, 17, 18, 19, 20, 21, 22, 23] (by decide +kernel) (by decide +kernel)
set_option maxRecDepth 20000 in
theorem gX6_digitsEnd_X6_sign : GoodIn wsX6_digitsEnd (wsV RX6 124 RX6 yX6_sign wsX6_sign) := goodIn_app (goodIn_of _ (by decide +kernel)) ggX6_digitsEnd_X6_sign
set_option maxRecDepth 20000 in
theorem ggX6_digitsEnd_X6_digit : GoodIn wsX6_digitsEnd wsX6_digit := goodIn_r _ [11, 1, 2, 3, 4, 5, 6, 7, 12, 13, 14, 15, 16, 17, 18, 19, 20, 21, 22, 23] (by decide +kernel) (by decide +kernel)
set_option maxRecDepth 20000 in
theorem gX6_digitsEnd_X6_digit : GoodIn wsX6_digitsEnd (wsV RX6 127 RX6 yX6_digit wsX6_digit) := goodIn_app (goodIn_of _ (by decide +kernel)) ggX6_digitsEnd_X6_digit
theorem dX6_digitsEnd_0 : decode cX6_digitsEnd 0 = .ok (.aload_n 0, 1) := by decide +kernel
theorem dX6_digitsEnd_1 : decode cX6_digitsEnd 1 = .ok (.iload_n 1, 1) := by decide +kernel
theorem dX6_digitsEnd_2 : decode cX6_digitsEnd 2 = .ok (.invokevirtual 124, 3) := by decide +kernel
theorem dX6_digitsEnd_5 : decode cX6_digitsEnd 5 = .ok (.bipush 61, 2) := by decide +kernel
theorem dX6_digitsEnd_7 : decode cX6_digitsEnd 7 = .ok (.if_icmp .eq 7, 3) := by decide +kernel
theorem dX6_digitsEnd_10 : decode cX6_digitsEnd 10 = .ok (.iconst (-1), 1) := by decide +kernel
theorem dX6_digitsEnd_11 : decode cX6_digitsEnd 11 = .ok (.iload_n 1, 1) := by decide +kernel
theorem dX6_digitsEnd_12 : decode cX6_digitsEnd 12 = .ok (.isub, 1) := by decide +kernel
theorem dX6_digitsEnd_13 : decode cX6_digitsEnd 13 = .ok (.ireturn, 1) := by decide +kernel
theorem dX6_digitsEnd_14 : decode cX6_digitsEnd 14 = .ok (.iconst 1, 1) := by decide +kernel
theorem dX6_digitsEnd_15 : decode cX6_digitsEnd 15 = .ok (.istore_n 3, 1) := by decide +kernel
theorem dX6_digitsEnd_16 : decode cX6_digitsEnd 16 = .ok (.iload_n 3, 1) := by decide +kernel
theorem dX6_digitsEnd_17 : decode cX6_digitsEnd 17 = .ok (.iload_n 2, 1) := by decide +kernel
theorem dX6_digitsEnd_18 : decode cX6_digitsEnd 18 = .ok (.if_icmp .gt 25, 3) := by decide +kernel
theorem dX6_digitsEnd_21 : decode cX6_digitsEnd 21 = .ok (.aload_n 0, 1) := by decide +kernel
theorem dX6_digitsEnd_22 : decode cX6_digitsEnd 22 = .ok (.iload_n 1, 1) := by decide +kernel
theorem dX6_digitsEnd_23 : decode cX6_digitsEnd 23 = .ok (.iload_n 3, 1) := by decide +kernel
theorem dX6_digitsEnd_24 : decode cX6_digitsEnd 24 = .ok (.iadd, 1) := by decide +kernel
theorem dX6_digitsEnd_25 : decode cX6_digitsEnd 25 = .ok (.invokevirtual 127, 3) := by decide +kernel
theorem dX6_digitsEnd_28 : decode cX6_digitsEnd 28 = .ok (.ifCond .ge 9, 3) := by decide +kernel
theorem dX6_digitsEnd_31 : decode cX6_digitsEnd 31 = .ok (.iconst (-1), 1) := by decide +kernel
theorem dX6_digitsEnd_32 : decode cX6_digitsEnd 32 = .ok (.iload_n 1, 1) := by decide +kernel
theorem dX6_digitsEnd_33 : decode cX6_digitsEnd 33 = .ok (.isub, 1) := by decide +kernel
theorem dX6_digitsEnd_34 : decode cX6_digitsEnd 34 = .ok (.iload_n 3, 1) := by decide +kernel
theorem dX6_digitsEnd_35 : decode cX6_digitsEnd 35 = .ok (.isub, 1) := by decide +kernel
theorem dX6_digitsEnd_36 : decode cX6_digitsEnd 36 = .ok (.ireturn, 1) := by decide +kernel
theorem dX6_digitsEnd_37 : decode cX6_digitsEnd 37 = .ok (.iinc 3 1, 3) := by decide +kernel
theorem dX6_digitsEnd_40 : decode cX6_digitsEnd 40 = .ok (.goto (-24), 3) := by decide +kernel
theorem dX6_digitsEnd_43 : decode cX6_digitsEnd 43 = .ok (.iload_n 1, 1) := by decide +kernel
theorem dX6_digitsEnd_44 : decode cX6_digitsEnd 44 = .ok (.iload_n 2, 1) := by decide +kernel
theorem dX6_digitsEnd_45 : decode cX6_digitsEnd 45 = .ok (.iadd, 1) := by decide +kernel
theorem dX6_digitsEnd_46 : decode cX6_digitsEnd 46 = .ok (.iconst 1, 1) := by decide +kernel
theorem dX6_digitsEnd_47 : decode cX6_digitsEnd 47 = .ok (.iadd, 1) := by decide +kernel
theorem dX6_digitsEnd_48 : decode cX6_digitsEnd 48 = .ok (.ireturn, 1) := by decide +kernel
set_option maxRecDepth 20000 in
theorem ggX6_plotEnd_X6_digit : GoodIn wsX6_plotEnd wsX6_digit := goodIn_r _ [5, 6, 7, 8, 4, 9, 10, 11, 12, 13, 14, 15, 16, 17, 18, 19, 20, 21, 22, 23] (by decide +kernel) (by decide +kernel)
set_option maxRecDepth 20000 in
theorem gX6_plotEnd_X6_digit : GoodIn wsX6_plotEnd (wsV RX6 127 RX6 yX6_digit wsX6_digit) := goodIn_app (goodIn_of _ (by decide +kernel)) ggX6_plotEnd_X6_digit
set_option maxRecDepth 20000 in
theorem ggX6_plotEnd_X6_in : GoodIn wsX6_plotEnd wsX6_in := goodIn_r _ [14] (by decide +kernel) (by decide +kernel)
set_option maxRecDepth 20000 in
theorem gX6_plotEnd_X6_in : GoodIn wsX6_plotEnd (va_wsS RX6 25 yX6_in wsX6_in) := goodIn_app (goodIn_of _ (by decide +kernel)) ggX6_plotEnd_X6_in
theorem dX6_plotEnd_0 : decode cX6_plotEnd 0 = .ok (.aload_n 0, 1) := by decide +kernel
theorem dX6_plotEnd_1 : decode cX6_plotEnd 1 = .ok (.iload_n 1, 1) := by decide +kernel
theorem dX6_plotEnd_2 : decode cX6_plotEnd 2 = .ok (.invokevirtual 127, 3) := by decide +kernel
theorem dX6_plotEnd_5 : decode cX6_plotEnd 5 = .ok (.istore_n 2, 1) := by decide +kernel
theorem dX6_plotEnd_6 : decode cX6_plotEnd 6 = .ok (.iload_n 2, 1) := by decide +kernel
theorem dX6_plotEnd_7 : decode cX6_plotEnd 7 = .ok (.ifCond .ge 7, 3) := by decide +kernel
theorem dX6_plotEnd_10 : decode cX6_plotEnd 10 = .ok (.iconst (-1), 1) := by decide +kernel
theorem dX6_plotEnd_11 : decode cX6_plotEnd 11 = .ok (.iload_n 1, 1) := by decide +kernel
theorem dX6_plotEnd_12 : decode cX6_plotEnd 12 = .ok (.isub, 1) := by decide +kernel
theorem dX6_plotEnd_13 : decode cX6_plotEnd 13 = .ok (.ireturn, 1) := by decide +kernel
theorem dX6_plotEnd_14 : decode cX6_plotEnd 14 = .ok (.iload_n 2, 1) := by decide +kernel
theorem dX6_plotEnd_15 : decode cX6_plotEnd 15 = .ok (.iconst 1, 1) := by decide +kernel
theorem dX6_plotEnd_16 : decode cX6_plotEnd 16 = .ok (.if_icmp .ne 13, 3) := by decide +kernel
theorem dX6_plotEnd_19 : decode cX6_plotEnd 19 = .ok (.aload_n 0, 1) := by decide +kernel
theorem dX6_plotEnd_20 : decode cX6_plotEnd 20 = .ok (.iload_n 1, 1) := by decide +kernel
theorem dX6_plotEnd_21 : decode cX6_plotEnd 21 = .ok (.iconst 1, 1) := by decide +kernel
theorem dX6_plotEnd_22 : decode cX6_plotEnd 22 = .ok (.iadd, 1) := by decide +kernel
theorem dX6_plotEnd_23 : decode cX6_plotEnd 23 = .ok (.invokevirtual 127, 3) := by decide +kernel
theorem dX6_plotEnd_26 : decode cX6_plotEnd 26 = .ok (.ifCond .ge 23, 3) := by decide +kernel
theorem dX6_plotEnd_29 : decode cX6_plotEnd 29 = .ok (.iload_n 2, 1) := by decide +kernel
theorem dX6_plotEnd_30 : decode cX6_plotEnd 30 = .ok (.iconst 2, 1) := by decide +kernel
theorem dX6_plotEnd_31 : decode cX6_plotEnd 31 = .ok (.if_icmp .ne 22, 3) := by decide +kernel
theorem dX6_plotEnd_34 : decode cX6_plotEnd 34 = .ok (.aload_n 0, 1) := by decide +kernel
theorem dX6_plotEnd_35 : decode cX6_plotEnd 35 = .ok (.iload_n 1, 1) := by decide +kernel
theorem dX6_plotEnd_36 : decode cX6_plotEnd 36 = .ok (.iconst 1, 1) := by decide +kernel
theorem dX6_plotEnd_37 : decode cX6_plotEnd 37 = .ok (.iadd, 1) := by decide +kernel
theorem dX6_plotEnd_38 : decode cX6_plotEnd 38 = .ok (.invokevirtual 127, 3) := by decide +kernel
theorem dX6_plotEnd_41 : decode cX6_plotEnd 41 = .ok (.iconst 0, 1) := by decide +kernel
theorem dX6_plotEnd_42 : decode cX6_plotEnd 42 = .ok (.iconst 3, 1) := by decide +kernel
theorem dX6_plotEnd_43 : decode cX6_plotEnd 43 = .ok (.invokestatic 25, 3) := by decide +kernel
theorem dX6_plotEnd_46 : decode cX6_plotEnd 46 = .ok (.ifCond .eq 7, 3) := by decide +kernel
theorem dX6_plotEnd_49 : decode cX6_plotEnd 49 = .ok (.iconst 1, 1) := by decide +kernel
theorem dX6_plotEnd_50 : decode cX6_plotEnd 50 = .ok (.goto 4, 3) := by decide +kernel
theorem dX6_plotEnd_53 : decode cX6_plotEnd 53 = .ok (.iconst 0, 1) := by decide +kernel
theorem dX6_plotEnd_54 : decode cX6_plotEnd 54 = .ok (.istore_n 3, 1) := by decide +kernel
theorem dX6_plotEnd_55 : decode cX6_plotEnd 55 = .ok (.iload_n 3, 1) := by decide +kernel
theorem dX6_plotEnd_56 : decode cX6_plotEnd 56 = .ok (.ifCond .eq 9, 3) := by decide +kernel
theorem dX6_plotEnd_59 : decode cX6_plotEnd 59 = .ok (.iload_n 1, 1) := by decide +kernel
theorem dX6_plotEnd_60 : decode cX6_plotEnd 60 = .ok (.iconst 2, 1) := by decide +kernel
theorem dX6_plotEnd_61 : decode cX6_plotEnd 61 = .ok (.iadd, 1) := by decide +kernel
theorem dX6_plotEnd_62 : decode cX6_plotEnd 62 = .ok (.goto 6, 3) := by decide +kernel
theorem dX6_plotEnd_65 : decode cX6_plotEnd 65 = .ok (.iload_n 1, 1) := by decide +kernel
theorem dX6_plotEnd_66 : decode cX6_plotEnd 66 = .ok (.iconst 1, 1) := by decide +kernel
theorem dX6_plotEnd_67 : decode cX6_plotEnd 67 = .ok (.iadd, 1) := by decide +kernel
theorem dX6_plotEnd_68 : decode cX6_plotEnd 68 = .ok (.ireturn, 1) := by decide +kernel
set_option maxRecDepth 20000 in
theorem ggX6_cousinsEnd_X6_digit : GoodIn wsX6_cousinsEnd wsX6_digit := goodIn_r _ [5, 6, 7, 8, 4, 9, 10, 11, 12, 13, 14, 18, 19, 20, 21, 22, 23, 24, 25, 26] (by decide +kernel) (by decide +kernel)
set_option maxRecDepth 20000 in
theorem gX6_cousinsEnd_X6_digit : GoodIn wsX6_cousinsEnd (wsV RX6 127 RX6 yX6_digit wsX6_digit) := goodIn_app (goodIn_of _ (by decide +kernel)) ggX6_cousinsEnd_X6_digit
set_option maxRecDepth 20000 in
theorem ggX6_cousinsEnd_X6_isCousin : GoodIn wsX6_cousinsEnd wsX6_isCousin := goodIn_r _ [17, 12, 13, 4, 14] (by decide +kernel) (by decide +kernel)
set_option maxRecDepth 20000 in
theorem gX6_cousinsEnd_X6_isCousin : GoodIn wsX6_cousinsEnd (va_wsS RX6 112 yX6_isCousin wsX6_isCousin) := goodIn_app (goodIn_of _ (by decide +kernel)) ggX6_cousinsEnd_X6_isCousin
theorem dX6_cousinsEnd_0 : decode cX6_cousinsEnd 0 = .ok (.iconst (-1), 1) := by decide +kernel
theorem dX6_cousinsEnd_1 : decode cX6_cousinsEnd 1 = .ok (.istore_n 2, 1) := by decide +kernel
theorem dX6_cousinsEnd_2 : decode cX6_cousinsEnd 2 = .ok (.iload_n 1, 1) := by decide +kernel
theorem dX6_cousinsEnd_3 : decode cX6_cousinsEnd 3 = .ok (.istore_n 3, 1) := by decide +kernel
theorem dX6_cousinsEnd_4 : decode cX6_cousinsEnd 4 = .ok (.aload_n 0, 1) := by decide +kernel
theorem dX6_cousinsEnd_5 : decode cX6_cousinsEnd 5 = .ok (.iload_n 3, 1) := by decide +kernel
theorem dX6_cousinsEnd_6 : decode cX6_cousinsEnd 6 = .ok (.invokevirtual 127, 3) := by decide +kernel
theorem dX6_cousinsEnd_9 : decode cX6_cousinsEnd 9 = .ok (.invokestatic 112, 3) := by decide +kernel
theorem dX6_cousinsEnd_12 : decode cX6_cousinsEnd 12 = .ok (.ifCond .eq 24, 3) := by decide +kernel
theorem dX6_cousinsEnd_15 : decode cX6_cousinsEnd 15 = .ok (.aload_n 0, 1) := by decide +kernel
theorem dX6_cousinsEnd_16 : decode cX6_cousinsEnd 16 = .ok (.iload_n 3, 1) := by decide +kernel
theorem dX6_cousinsEnd_17 : decode cX6_cousinsEnd 17 = .ok (.invokevirtual 127, 3) := by decide +kernel
theorem dX6_cousinsEnd_20 : decode cX6_cousinsEnd 20 = .ok (.iload_n 2, 1) := by decide +kernel
theorem dX6_cousinsEnd_21 : decode cX6_cousinsEnd 21 = .ok (.if_icmp .le 15, 3) := by decide +kernel
theorem dX6_cousinsEnd_24 : decode cX6_cousinsEnd 24 = .ok (.aload_n 0, 1) := by decide +kernel
theorem dX6_cousinsEnd_25 : decode cX6_cousinsEnd 25 = .ok (.iload_n 3, 1) := by decide +kernel
theorem dX6_cousinsEnd_26 : decode cX6_cousinsEnd 26 = .ok (.invokevirtual 127, 3) := by decide +kernel
theorem dX6_cousinsEnd_29 : decode cX6_cousinsEnd 29 = .ok (.istore_n 2, 1) := by decide +kernel
theorem dX6_cousinsEnd_30 : decode cX6_cousinsEnd 30 = .ok (.iinc 3 1, 3) := by decide +kernel
theorem dX6_cousinsEnd_33 : decode cX6_cousinsEnd 33 = .ok (.goto (-29), 3) := by decide +kernel
theorem dX6_cousinsEnd_36 : decode cX6_cousinsEnd 36 = .ok (.iload_n 3, 1) := by decide +kernel
theorem dX6_cousinsEnd_37 : decode cX6_cousinsEnd 37 = .ok (.iload_n 1, 1) := by decide +kernel
theorem dX6_cousinsEnd_38 : decode cX6_cousinsEnd 38 = .ok (.if_icmp .ne 9, 3) := by decide +kernel
theorem dX6_cousinsEnd_41 : decode cX6_cousinsEnd 41 = .ok (.iconst (-1), 1) := by decide +kernel
theorem dX6_cousinsEnd_42 : decode cX6_cousinsEnd 42 = .ok (.iload_n 1, 1) := by decide +kernel
theorem dX6_cousinsEnd_43 : decode cX6_cousinsEnd 43 = .ok (.isub, 1) := by decide +kernel
theorem dX6_cousinsEnd_44 : decode cX6_cousinsEnd 44 = .ok (.goto 4, 3) := by decide +kernel
theorem dX6_cousinsEnd_47 : decode cX6_cousinsEnd 47 = .ok (.iload_n 3, 1) := by decide +kernel
theorem dX6_cousinsEnd_48 : decode cX6_cousinsEnd 48 = .ok (.ireturn, 1) := by decide +kernel
set_option maxRecDepth 20000 in
theorem ggX6_orderEnd_X6_digit : GoodIn wsX6_orderEnd wsX6_digit := goodIn_r _ [5, 6, 7, 8, 4, 9, 10, 11, 12, 13, 14, 30, 31, 32, 33, 34, 35, 36, 37, 38] (by decide +kernel) (by decide +kernel)
set_option maxRecDepth 20000 in
theorem gX6_orderEnd_X6_digit : GoodIn wsX6_orderEnd (wsV RX6 127 RX6 yX6_digit wsX6_digit) := goodIn_app (goodIn_of _ (by decide +kernel)) ggX6_orderEnd_X6_digit
set_option maxRecDepth 20000 in
theorem ggX6_orderEnd_X6_sign : GoodIn wsX6_orderEnd wsX6_sign := goodIn_r _ [9, 10, 11, 30, 31, 32, 33, 34, 35, 36, 37, 38] (by decide +kernel) (by decide +kernel)
set_option maxRecDepth 20000 in
theorem gX6_orderEnd_X6_sign : GoodIn wsX6_orderEnd (wsV RX6 124 RX6 yX6_sign wsX6_sign) := goodIn_app (goodIn_of _ (by decide +kernel)) ggX6_orderEnd_X6_sign
set_option maxRecDepth 20000 in
theorem ggX6_orderEnd_X6_plotEnd : GoodIn wsX6_orderEnd wsX6_plotEnd := goodIn_r _ [18, 1, 2, 3, 4, 5, 6, 7, 8, 9, 10, 11, 12, 13, 14, 30, 31, 32, 33, 34, 35, 36, 37, 38] (by decide +kernel) (by decide +kernel)
set_option maxRecDepth 20000 in
theorem gX6_orderEnd_X6_plotEnd : GoodIn wsX6_orderEnd (wsV RX6 130 RX6 yX6_plotEnd wsX6_plotEnd) := goodIn_app (goodIn_of _ (by decide +kernel)) ggX6_orderEnd_X6_plotEnd
set_option maxRecDepth 20000 in
theorem ggX6_orderEnd_X6_digitsEnd : GoodIn wsX6_orderEnd wsX6_digitsEnd := goodIn_r _ [22, 6, 7, 8, 4, 9, 10, 11, 1, 2, 3, 5, 12, 13, 14, 30, 31, 32, 33, 34, 35, 36, 37, 38] (by decide +kernel) (by decide +kernel)
set_option maxRecDepth 20000 in
theorem gX6_orderEnd_X6_digitsEnd : GoodIn wsX6_orderEnd (wsV RX6 133 RX6 yX6_digitsEnd wsX6_digitsEnd) := goodIn_app (goodIn_of _ (by decide +kernel)) ggX6_orderEnd_X6_digitsEnd
set_option maxRecDepth 20000 in
theorem ggX6_orderEnd_X6_isCousin : GoodIn wsX6_orderEnd wsX6_isCousin := goodIn_r _ [25, 12, 13, 4, 14] (by decide +kernel) (by decide +kernel)
set_option maxRecDepth 20000 in
theorem gX6_orderEnd_X6_isCousin : GoodIn wsX6_orderEnd (va_wsS RX6 112 yX6_isCousin wsX6_isCousin) := goodIn_app (goodIn_of _ (by decide +kernel)) ggX6_orderEnd_X6_isCousin
set_option maxRecDepth 20000 in
theorem ggX6_orderEnd_X6_cousinsEnd : GoodIn wsX6_orderEnd wsX6_cousinsEnd := goodIn_r _ [29, 1, 2, 3, 4, 5, 6, 7, 8, 9, 10, 11, 12, 13, 14, 23, 24, 25, 30, 31, 32, 33, 34, 35, 36, 37, 38] (by decide +kernel) (by decide +kernel)
set_option maxRecDepth 20000 in
theorem gX6_orderEnd_X6_cousinsEnd : GoodIn wsX6_orderEnd (wsV RX6 136 RX6 yX6_cousinsEnd wsX6_cousinsEnd) := goodIn_app (goodIn_of _ (by decide +kernel)) ggX6_orderEnd_X6_cousinsEnd
theorem dX6_orderEnd_0 : decode cX6_orderEnd 0 = .ok (.aload_n 0, 1) := by decide +kernel
theorem dX6_orderEnd_1 : decode cX6_orderEnd 1 = .ok (.iload_n 1, 1) := by decide +kernel
theorem dX6_orderEnd_2 : decode cX6_orderEnd 2 = .ok (.iconst 1, 1) := by decide +kernel
theorem dX6_orderEnd_3 : decode cX6_orderEnd 3 = .ok (.iadd, 1) := by decide +kernel
theorem dX6_orderEnd_4 : decode cX6_orderEnd 4 = .ok (.invokevirtual 127, 3) := by decide +kernel
theorem dX6_orderEnd_7 : decode cX6_orderEnd 7 = .ok (.istore_n 2, 1) := by decide +kernel
theorem dX6_orderEnd_8 : decode cX6_orderEnd 8 = .ok (.aload_n 0, 1) := by decide +kernel
theorem dX6_orderEnd_9 : decode cX6_orderEnd 9 = .ok (.iload_n 1, 1) := by decide +kernel
theorem dX6_orderEnd_10 : decode cX6_orderEnd 10 = .ok (.invokevirtual 124, 3) := by decide +kernel
theorem dX6_orderEnd_13 : decode cX6_orderEnd 13 = .ok (.lookupswitch 149 #[(100, 141), (103, 89), (112, 43), (119, 66)], 43) := by decide +kernel
theorem dX6_orderEnd_56 : decode cX6_orderEnd 56 = .ok (.aload_n 0, 1) := by decide +kernel
theorem dX6_orderEnd_57 : decode cX6_orderEnd 57 = .ok (.iload_n 1, 1) := by decide +kernel
theorem dX6_orderEnd_58 : decode cX6_orderEnd 58 = .ok (.iconst 1, 1) := by decide +kernel
theorem dX6_orderEnd_59 : decode cX6_orderEnd 59 = .ok (.iadd, 1) := by decide +kernel
theorem dX6_orderEnd_60 : decode cX6_orderEnd 60 = .ok (.invokevirtual 130, 3) := by decide +kernel
theorem dX6_orderEnd_63 : decode cX6_orderEnd 63 = .ok (.istore_n 3, 1) := by decide +kernel
theorem dX6_orderEnd_64 : decode cX6_orderEnd 64 = .ok (.iload_n 3, 1) := by decide +kernel
theorem dX6_orderEnd_65 : decode cX6_orderEnd 65 = .ok (.ifCond .ge 7, 3) := by decide +kernel
theorem dX6_orderEnd_68 : decode cX6_orderEnd 68 = .ok (.iload_n 3, 1) := by decide +kernel
theorem dX6_orderEnd_69 : decode cX6_orderEnd 69 = .ok (.goto 9, 3) := by decide +kernel
theorem dX6_orderEnd_72 : decode cX6_orderEnd 72 = .ok (.aload_n 0, 1) := by decide +kernel
theorem dX6_orderEnd_73 : decode cX6_orderEnd 73 = .ok (.iload_n 3, 1) := by decide +kernel
theorem dX6_orderEnd_74 : decode cX6_orderEnd 74 = .ok (.iconst 4, 1) := by decide +kernel
theorem dX6_orderEnd_75 : decode cX6_orderEnd 75 = .ok (.invokevirtual 133, 3) := by decide +kernel
theorem dX6_orderEnd_78 : decode cX6_orderEnd 78 = .ok (.ireturn, 1) := by decide +kernel
theorem dX6_orderEnd_79 : decode cX6_orderEnd 79 = .ok (.iload_n 2, 1) := by decide +kernel
theorem dX6_orderEnd_80 : decode cX6_orderEnd 80 = .ok (.invokestatic 112, 3) := by decide +kernel
theorem dX6_orderEnd_83 : decode cX6_orderEnd 83 = .ok (.ifCond .eq 14, 3) := by decide +kernel
theorem dX6_orderEnd_86 : decode cX6_orderEnd 86 = .ok (.aload_n 0, 1) := by decide +kernel
theorem dX6_orderEnd_87 : decode cX6_orderEnd 87 = .ok (.iload_n 1, 1) := by decide +kernel
theorem dX6_orderEnd_88 : decode cX6_orderEnd 88 = .ok (.iconst 2, 1) := by decide +kernel
theorem dX6_orderEnd_89 : decode cX6_orderEnd 89 = .ok (.iadd, 1) := by decide +kernel
theorem dX6_orderEnd_90 : decode cX6_orderEnd 90 = .ok (.iconst 4, 1) := by decide +kernel
theorem dX6_orderEnd_91 : decode cX6_orderEnd 91 = .ok (.invokevirtual 133, 3) := by decide +kernel
theorem dX6_orderEnd_94 : decode cX6_orderEnd 94 = .ok (.goto 7, 3) := by decide +kernel
theorem dX6_orderEnd_97 : decode cX6_orderEnd 97 = .ok (.bipush (-2), 2) := by decide +kernel
theorem dX6_orderEnd_99 : decode cX6_orderEnd 99 = .ok (.iload_n 1, 1) := by decide +kernel
theorem dX6_orderEnd_100 : decode cX6_orderEnd 100 = .ok (.isub, 1) := by decide +kernel
theorem dX6_orderEnd_101 : decode cX6_orderEnd 101 = .ok (.ireturn, 1) := by decide +kernel
theorem dX6_orderEnd_102 : decode cX6_orderEnd 102 = .ok (.iload_n 2, 1) := by decide +kernel
theorem dX6_orderEnd_103 : decode cX6_orderEnd 103 = .ok (.invokestatic 112, 3) := by decide +kernel
theorem dX6_orderEnd_106 : decode cX6_orderEnd 106 = .ok (.ifCond .ne 8, 3) := by decide +kernel
theorem dX6_orderEnd_109 : decode cX6_orderEnd 109 = .ok (.bipush (-2), 2) := by decide +kernel
theorem dX6_orderEnd_111 : decode cX6_orderEnd 111 = .ok (.iload_n 1, 1) := by decide +kernel
theorem dX6_orderEnd_112 : decode cX6_orderEnd 112 = .ok (.isub, 1) := by decide +kernel
theorem dX6_orderEnd_113 : decode cX6_orderEnd 113 = .ok (.ireturn, 1) := by decide +kernel
theorem dX6_orderEnd_114 : decode cX6_orderEnd 114 = .ok (.aload_n 0, 1) := by decide +kernel
theorem dX6_orderEnd_115 : decode cX6_orderEnd 115 = .ok (.iload_n 1, 1) := by decide +kernel
theorem dX6_orderEnd_116 : decode cX6_orderEnd 116 = .ok (.iconst 2, 1) := by decide +kernel
theorem dX6_orderEnd_117 : decode cX6_orderEnd 117 = .ok (.iadd, 1) := by decide +kernel
theorem dX6_orderEnd_118 : decode cX6_orderEnd 118 = .ok (.invokevirtual 127, 3) := by decide +kernel
theorem dX6_orderEnd_121 : decode cX6_orderEnd 121 = .ok (.invokestatic 112, 3) := by decide +kernel
theorem dX6_orderEnd_124 : decode cX6_orderEnd 124 = .ok (.ifCond .eq 25, 3) := by decide +kernel
theorem dX6_orderEnd_127 : decode cX6_orderEnd 127 = .ok (.aload_n 0, 1) := by decide +kernel
theorem dX6_orderEnd_128 : decode cX6_orderEnd 128 = .ok (.iload_n 1, 1) := by decide +kernel
theorem dX6_orderEnd_129 : decode cX6_orderEnd 129 = .ok (.iconst 2, 1) := by decide +kernel
theorem dX6_orderEnd_130 : decode cX6_orderEnd 130 = .ok (.iadd, 1) := by decide +kernel
theorem dX6_orderEnd_131 : decode cX6_orderEnd 131 = .ok (.invokevirtual 127, 3) := by decide +kernel
theorem dX6_orderEnd_134 : decode cX6_orderEnd 134 = .ok (.iload_n 2, 1) := by decide +kernel
theorem dX6_orderEnd_135 : decode cX6_orderEnd 135 = .ok (.if_icmp .eq 14, 3) := by decide +kernel
theorem dX6_orderEnd_138 : decode cX6_orderEnd 138 = .ok (.aload_n 0, 1) := by decide +kernel
theorem dX6_orderEnd_139 : decode cX6_orderEnd 139 = .ok (.iload_n 1, 1) := by decide +kernel
theorem dX6_orderEnd_140 : decode cX6_orderEnd 140 = .ok (.iconst 3, 1) := by decide +kernel
theorem dX6_orderEnd_141 : decode cX6_orderEnd 141 = .ok (.iadd, 1) := by decide +kernel
theorem dX6_orderEnd_142 : decode cX6_orderEnd 142 = .ok (.iconst 1, 1) := by decide +kernel
theorem dX6_orderEnd_143 : decode cX6_orderEnd 143 = .ok (.invokevirtual 133, 3) := by decide +kernel
theorem dX6_orderEnd_146 : decode cX6_orderEnd 146 = .ok (.goto 7, 3) := by decide +kernel
theorem dX6_orderEnd_149 : decode cX6_orderEnd 149 = .ok (.bipush (-3), 2) := by decide +kernel
theorem dX6_orderEnd_151 : decode cX6_orderEnd 151 = .ok (.iload_n 1, 1) := by decide +kernel
theorem dX6_orderEnd_152 : decode cX6_orderEnd 152 = .ok (.isub, 1) := by decide +kernel
theorem dX6_orderEnd_153 : decode cX6_orderEnd 153 = .ok (.ireturn, 1) := by decide +kernel
theorem dX6_orderEnd_154 : decode cX6_orderEnd 154 = .ok (.aload_n 0, 1) := by decide +kernel
theorem dX6_orderEnd_155 : decode cX6_orderEnd 155 = .ok (.iload_n 1, 1) := by decide +kernel
theorem dX6_orderEnd_156 : decode cX6_orderEnd 156 = .ok (.iconst 1, 1) := by decide +kernel
theorem dX6_orderEnd_157 : decode cX6_orderEnd 157 = .ok (.iadd, 1) := by decide +kernel
theorem dX6_orderEnd_158 : decode cX6_orderEnd 158 = .ok (.invokevirtual 136, 3) := by decide +kernel
theorem dX6_orderEnd_161 : decode cX6_orderEnd 161 = .ok (.ireturn, 1) := by decide +kernel
theorem dX6_orderEnd_162 : decode cX6_orderEnd 162 = .ok (.iconst (-1), 1) := by decide +kernel
theorem dX6_orderEnd_163 : decode cX6_orderEnd 163 = .ok (.iload_n 1, 1) := by decide +kernel
theorem dX6_orderEnd_164 : decode cX6_orderEnd 164 = .ok (.isub, 1) := by decide +kernel
theorem dX6_orderEnd_165 : decode cX6_orderEnd 165 = .ok (.ireturn, 1) := by decide +kernel
set_option maxRecDepth 20000 in
theorem ggX6_fault_X6_orderEnd : GoodIn wsX6_fault wsX6_orderEnd := goodIn_r _ [6, 7, 8, 9, 5, 10, 11, 12, 13, 14, 1, 15, 16, 17, 18, 19, 20, 21, 22, 23, 24, 25, 26, 27, 28, 29, 30, 31, 32, 33, 34, 35, 36, 37, 38, 39, 40, 41, 42] (by decide +kernel) (by decide +kernel)
set_option maxRecDepth 20000 in
theorem gX6_fault_X6_orderEnd : GoodIn wsX6_fault (wsV RX6 139 RX6 yX6_orderEnd wsX6_orderEnd) := goodIn_app (goodIn_of _ (by decide +kernel)) ggX6_fault_X6_orderEnd
set_option maxRecDepth 20000 in
theorem ggX6_fault_X6_sign : GoodIn wsX6_fault wsX6_sign := goodIn_r _ [14, 1, 15, 34, 35, 36, 37, 38, 39, 40, 41, 42] (by decide +kernel) (by decide +kernel)
set_option maxRecDepth 20000 in
theorem gX6_fault_X6_sign : GoodIn wsX6_fault (wsV RX6 124 RX6 yX6_sign wsX6_sign) := goodIn_app (goodIn_of _ (by decide +kernel)) ggX6_fault_X6_sign
theorem dX6_fault_0 : decode cX6_fault 0 = .ok (.iconst 0, 1) := by decide +kernel
theorem dX6_fault_1 : decode cX6_fault 1 = .ok (.istore_n 1, 1) := by decide +kernel
theorem dX6_fault_2 : decode cX6_fault 2 = .ok (.iconst 0, 1) := by decide +kernel
theorem dX6_fault_3 : decode cX6_fault 3 = .ok (.istore_n 2, 1) := by decide +kernel
theorem dX6_fault_4 : decode cX6_fault 4 = .ok (.iload_n 2, 1) := by decide +kernel
theorem dX6_fault_5 : decode cX6_fault 5 = .ok (.bipush 60, 2) := by decide +kernel
theorem dX6_fault_7 : decode cX6_fault 7 = .ok (.if_icmp .ge 50, 3) := by decide +kernel
theorem dX6_fault_10 : decode cX6_fault 10 = .ok (.aload_n 0, 1) := by decide +kernel
theorem dX6_fault_11 : decode cX6_fault 11 = .ok (.iload_n 1, 1) := by decide +kernel
theorem dX6_fault_12 : decode cX6_fault 12 = .ok (.invokevirtual 139, 3) := by decide +kernel
theorem dX6_fault_15 : decode cX6_fault 15 = .ok (.istore_n 3, 1) := by decide +kernel
theorem dX6_fault_16 : decode cX6_fault 16 = .ok (.iload_n 3, 1) := by decide +kernel
theorem dX6_fault_17 : decode cX6_fault 17 = .ok (.ifCond .ge 7, 3) := by decide +kernel
theorem dX6_fault_20 : decode cX6_fault 20 = .ok (.iconst (-1), 1) := by decide +kernel
theorem dX6_fault_21 : decode cX6_fault 21 = .ok (.iload_n 3, 1) := by decide +kernel
theorem dX6_fault_22 : decode cX6_fault 22 = .ok (.isub, 1) := by decide +kernel
theorem dX6_fault_23 : decode cX6_fault 23 = .ok (.ireturn, 1) := by decide +kernel
theorem dX6_fault_24 : decode cX6_fault 24 = .ok (.iload_n 3, 1) := by decide +kernel
theorem dX6_fault_25 : decode cX6_fault 25 = .ok (.aload_n 0, 1) := by decide +kernel
theorem dX6_fault_26 : decode cX6_fault 26 = .ok (.getfield 121, 3) := by decide +kernel
theorem dX6_fault_29 : decode cX6_fault 29 = .ok (.if_icmp .ne 6, 3) := by decide +kernel
theorem dX6_fault_32 : decode cX6_fault 32 = .ok (.bipush (-5), 2) := by decide +kernel
theorem dX6_fault_34 : decode cX6_fault 34 = .ok (.ireturn, 1) := by decide +kernel
theorem dX6_fault_35 : decode cX6_fault 35 = .ok (.aload_n 0, 1) := by decide +kernel
theorem dX6_fault_36 : decode cX6_fault 36 = .ok (.iload_n 3, 1) := by decide +kernel
theorem dX6_fault_37 : decode cX6_fault 37 = .ok (.invokevirtual 124, 3) := by decide +kernel
theorem dX6_fault_40 : decode cX6_fault 40 = .ok (.bipush 59, 2) := by decide +kernel
theorem dX6_fault_42 : decode cX6_fault 42 = .ok (.if_icmp .eq 5, 3) := by decide +kernel
theorem dX6_fault_45 : decode cX6_fault 45 = .ok (.iload_n 3, 1) := by decide +kernel
theorem dX6_fault_46 : decode cX6_fault 46 = .ok (.ireturn, 1) := by decide +kernel
theorem dX6_fault_47 : decode cX6_fault 47 = .ok (.iload_n 3, 1) := by decide +kernel
theorem dX6_fault_48 : decode cX6_fault 48 = .ok (.iconst 1, 1) := by decide +kernel
theorem dX6_fault_49 : decode cX6_fault 49 = .ok (.iadd, 1) := by decide +kernel
theorem dX6_fault_50 : decode cX6_fault 50 = .ok (.istore_n 1, 1) := by decide +kernel
theorem dX6_fault_51 : decode cX6_fault 51 = .ok (.iinc 2 1, 3) := by decide +kernel
theorem dX6_fault_54 : decode cX6_fault 54 = .ok (.goto (-50), 3) := by decide +kernel
theorem dX6_fault_57 : decode cX6_fault 57 = .ok (.bipush (-5), 2) := by decide +kernel
theorem dX6_fault_59 : decode cX6_fault 59 = .ok (.ireturn, 1) := by decide +kernel
set_option maxRecDepth 20000 in
theorem ggX6_setsFour_X6_digit : GoodIn wsX6_setsFour wsX6_digit := goodIn_r _ [6, 7, 8, 9, 5, 10, 11, 12, 13, 14, 15, 16, 17, 18, 19, 20, 21, 22, 23, 24] (by decide +kernel) (by decide +kernel)
set_option maxRecDepth 20000 in
theorem gX6_setsFour_X6_digit : GoodIn wsX6_setsFour (wsV RX6 127 RX6 yX6_digit wsX6_digit) := goodIn_app (goodIn_of _ (by decide +kernel)) ggX6_setsFour_X6_digit
theorem dX6_setsFour_0 : decode cX6_setsFour 0 = .ok (.iconst 0, 1) := by decide +kernel
theorem dX6_setsFour_1 : decode cX6_setsFour 1 = .ok (.istore_n 3, 1) := by decide +kernel
theorem dX6_setsFour_2 : decode cX6_setsFour 2 = .ok (.iload_n 3, 1) := by decide +kernel
theorem dX6_setsFour_3 : decode cX6_setsFour 3 = .ok (.iconst 4, 1) := by decide +kernel
theorem dX6_setsFour_4 : decode cX6_setsFour 4 = .ok (.if_icmp .ge 24, 3) := by decide +kernel
theorem dX6_setsFour_7 : decode cX6_setsFour 7 = .ok (.aload_n 0, 1) := by decide +kernel
theorem dX6_setsFour_8 : decode cX6_setsFour 8 = .ok (.getfield 7, 3) := by decide +kernel
theorem dX6_setsFour_11 : decode cX6_setsFour 11 = .ok (.iload_n 1, 1) := by decide +kernel
theorem dX6_setsFour_12 : decode cX6_setsFour 12 = .ok (.iload_n 3, 1) := by decide +kernel
theorem dX6_setsFour_13 : decode cX6_setsFour 13 = .ok (.iadd, 1) := by decide +kernel
theorem dX6_setsFour_14 : decode cX6_setsFour 14 = .ok (.aload_n 0, 1) := by decide +kernel
theorem dX6_setsFour_15 : decode cX6_setsFour 15 = .ok (.iload_n 2, 1) := by decide +kernel
theorem dX6_setsFour_16 : decode cX6_setsFour 16 = .ok (.iload_n 3, 1) := by decide +kernel
theorem dX6_setsFour_17 : decode cX6_setsFour 17 = .ok (.iadd, 1) := by decide +kernel
theorem dX6_setsFour_18 : decode cX6_setsFour 18 = .ok (.invokevirtual 127, 3) := by decide +kernel
theorem dX6_setsFour_21 : decode cX6_setsFour 21 = .ok (.iastore, 1) := by decide +kernel
theorem dX6_setsFour_22 : decode cX6_setsFour 22 = .ok (.iinc 3 1, 3) := by decide +kernel
theorem dX6_setsFour_25 : decode cX6_setsFour 25 = .ok (.goto (-23), 3) := by decide +kernel
theorem dX6_setsFour_28 : decode cX6_setsFour 28 = .ok (.return_, 1) := by decide +kernel
set_option maxRecDepth 20000 in
theorem ggX6_does_X6_orderEnd : GoodIn wsX6_does wsX6_orderEnd := goodIn_r _ [6, 7, 8, 9, 5, 10, 11, 12, 13, 14, 15, 16, 17, 18, 19, 20, 21, 22, 23, 24, 25, 26, 27, 28, 29, 30, 31, 32, 33, 34, 88, 89, 90, 91, 92, 93, 94, 95, 96] (by decide +kernel) (by decide +kernel)
set_option maxRecDepth 20000 in
theorem gX6_does_X6_orderEnd : GoodIn wsX6_does (wsV RX6 139 RX6 yX6_orderEnd wsX6_orderEnd) := goodIn_app (goodIn_of _ (by decide +kernel)) ggX6_does_X6_orderEnd
set_option maxRecDepth 20000 in
theorem ggX6_does_X6_digit : GoodIn wsX6_does wsX6_digit := goodIn_r _ [10, 11, 12, 13, 5, 14, 15, 16, 17, 18, 19, 88, 89, 90, 91, 92, 93, 94, 95, 96] (by decide +kernel) (by decide +kernel)
set_option maxRecDepth 20000 in
theorem gX6_does_X6_digit : GoodIn wsX6_does (wsV RX6 127 RX6 yX6_digit wsX6_digit) := goodIn_app (goodIn_of _ (by decide +kernel)) ggX6_does_X6_digit
set_option maxRecDepth 20000 in
theorem ggX6_does_X6_sign : GoodIn wsX6_does wsX6_sign := goodIn_r _ [14, 15, 16, 88, 89, 90, 91, 92, 93, 94, 95, 96] (by decide +kernel) (by decide +kernel)
set_option maxRecDepth 20000 in
theorem gX6_does_X6_sign : GoodIn wsX6_does (wsV RX6 124 RX6 yX6_sign wsX6_sign) := goodIn_app (goodIn_of _ (by decide +kernel)) ggX6_does_X6_sign
set_option maxRecDepth 20000 in
theorem ggX6_does_X6_plotEnd : GoodIn wsX6_does wsX6_plotEnd := goodIn_r _ [23, 7, 8, 9, 5, 10, 11, 12, 13, 14, 15, 16, 17, 18, 19, 88, 89, 90, 91, 92, 93, 94, 95, 96] (by decide +kernel) (by decide +kernel)
set_option maxRecDepth 20000 in
theorem gX6_does_X6_plotEnd : GoodIn wsX6_does (wsV RX6 130 RX6 yX6_plotEnd wsX6_plotEnd) := goodIn_app (goodIn_of _ (by decide +kernel)) ggX6_does_X6_plotEnd
set_option maxRecDepth 20000 in
theorem ggX6_does_X6_setsFour : GoodIn wsX6_does wsX6_setsFour := goodIn_r _ [38, 1, 7, 8, 9, 5, 10, 11, 12, 13, 14, 15, 16, 17, 18, 19, 88, 89, 90, 91, 92, 93, 94, 95, 96] (by decide +kernel) (by decide +kernel)
set_option maxRecDepth 20000 in
theorem gX6_does_X6_setsFour : GoodIn wsX6_does (wsV RX6 142 RX6 yX6_setsFour wsX6_setsFour) := goodIn_app (goodIn_of _ (by decide +kernel)) ggX6_does_X6_setsFour
set_option maxRecDepth 20000 in
theorem ggX6_does_X6_divides : GoodIn wsX6_does wsX6_divides := goodIn_r _ [42, 1, 43, 44, 45, 46, 5, 47, 48, 49, 50, 51, 52, 53, 54, 55, 56, 57, 58, 59, 60, 61, 62, 63, 64, 65, 66, 67, 68, 69, 70, 71, 72, 73, 74, 75, 76, 77, 78, 79, 80, 81, 82, 83, 84, 85, 86, 87, 88, 89, 90, 91, 92, 93, 94, 95, 96] (by decide +kernel) (by decide +kernel)
set_option maxRecDepth 20000 in
theorem gX6_does_X6_divides : GoodIn wsX6_does (wsV RX6 115 RX6 yX6_divides wsX6_divides) := goodIn_app (goodIn_of _ (by decide +kernel)) ggX6_does_X6_divides
theorem dX6_does_0 : decode cX6_does 0 = .ok (.aload_n 0, 1) := by decide +kernel
theorem dX6_does_1 : decode cX6_does 1 = .ok (.iload_n 1, 1) := by decide +kernel
theorem dX6_does_2 : decode cX6_does 2 = .ok (.invokevirtual 139, 3) := by decide +kernel
theorem dX6_does_5 : decode cX6_does 5 = .ok (.istore_n 2, 1) := by decide +kernel
theorem dX6_does_6 : decode cX6_does 6 = .ok (.aload_n 0, 1) := by decide +kernel
theorem dX6_does_7 : decode cX6_does 7 = .ok (.iload_n 1, 1) := by decide +kernel
theorem dX6_does_8 : decode cX6_does 8 = .ok (.iconst 1, 1) := by decide +kernel
theorem dX6_does_9 : decode cX6_does 9 = .ok (.iadd, 1) := by decide +kernel
theorem dX6_does_10 : decode cX6_does 10 = .ok (.invokevirtual 127, 3) := by decide +kernel
theorem dX6_does_13 : decode cX6_does 13 = .ok (.istore_n 3, 1) := by decide +kernel
theorem dX6_does_14 : decode cX6_does 14 = .ok (.aload_n 0, 1) := by decide +kernel
theorem dX6_does_15 : decode cX6_does 15 = .ok (.iload_n 1, 1) := by decide +kernel
theorem dX6_does_16 : decode cX6_does 16 = .ok (.invokevirtual 124, 3) := by decide +kernel
theorem dX6_does_19 : decode cX6_does 19 = .ok (.lookupswitch 127 #[(103, 96), (112, 33), (119, 80)], 33) := by decide +kernel
theorem dX6_does_52 : decode cX6_does 52 = .ok (.aload_n 0, 1) := by decide +kernel
theorem dX6_does_53 : decode cX6_does 53 = .ok (.iload_n 1, 1) := by decide +kernel
theorem dX6_does_54 : decode cX6_does 54 = .ok (.iconst 1, 1) := by decide +kernel
theorem dX6_does_55 : decode cX6_does 55 = .ok (.iadd, 1) := by decide +kernel
theorem dX6_does_56 : decode cX6_does 56 = .ok (.invokevirtual 130, 3) := by decide +kernel
theorem dX6_does_59 : decode cX6_does 59 = .ok (.iload_n 1, 1) := by decide +kernel
theorem dX6_does_60 : decode cX6_does 60 = .ok (.iconst 2, 1) := by decide +kernel
theorem dX6_does_61 : decode cX6_does 61 = .ok (.iadd, 1) := by decide +kernel
theorem dX6_does_62 : decode cX6_does 62 = .ok (.if_icmp .ne 7, 3) := by decide +kernel
theorem dX6_does_65 : decode cX6_does 65 = .ok (.iload_n 3, 1) := by decide +kernel
theorem dX6_does_66 : decode cX6_does 66 = .ok (.goto 15, 3) := by decide +kernel
theorem dX6_does_69 : decode cX6_does 69 = .ok (.bipush 10, 2) := by decide +kernel
theorem dX6_does_71 : decode cX6_does 71 = .ok (.iload_n 3, 1) := by decide +kernel
theorem dX6_does_72 : decode cX6_does 72 = .ok (.imul, 1) := by decide +kernel
theorem dX6_does_73 : decode cX6_does 73 = .ok (.aload_n 0, 1) := by decide +kernel
theorem dX6_does_74 : decode cX6_does 74 = .ok (.iload_n 1, 1) := by decide +kernel
theorem dX6_does_75 : decode cX6_does 75 = .ok (.iconst 2, 1) := by decide +kernel
theorem dX6_does_76 : decode cX6_does 76 = .ok (.iadd, 1) := by decide +kernel
theorem dX6_does_77 : decode cX6_does 77 = .ok (.invokevirtual 127, 3) := by decide +kernel
theorem dX6_does_80 : decode cX6_does 80 = .ok (.iadd, 1) := by decide +kernel
theorem dX6_does_81 : decode cX6_does 81 = .ok (.istore 4, 2) := by decide +kernel
theorem dX6_does_83 : decode cX6_does 83 = .ok (.aload_n 0, 1) := by decide +kernel
theorem dX6_does_84 : decode cX6_does 84 = .ok (.iconst 0, 1) := by decide +kernel
theorem dX6_does_85 : decode cX6_does 85 = .ok (.iconst 4, 1) := by decide +kernel
theorem dX6_does_86 : decode cX6_does 86 = .ok (.iload 4, 2) := by decide +kernel
theorem dX6_does_88 : decode cX6_does 88 = .ok (.imul, 1) := by decide +kernel
theorem dX6_does_89 : decode cX6_does 89 = .ok (.iadd, 1) := by decide +kernel
theorem dX6_does_90 : decode cX6_does 90 = .ok (.iload_n 2, 1) := by decide +kernel
theorem dX6_does_91 : decode cX6_does 91 = .ok (.iconst 4, 1) := by decide +kernel
theorem dX6_does_92 : decode cX6_does 92 = .ok (.isub, 1) := by decide +kernel
theorem dX6_does_93 : decode cX6_does 93 = .ok (.invokevirtual 142, 3) := by decide +kernel
theorem dX6_does_96 : decode cX6_does 96 = .ok (.goto 92, 3) := by decide +kernel
theorem dX6_does_99 : decode cX6_does 99 = .ok (.aload_n 0, 1) := by decide +kernel
theorem dX6_does_100 : decode cX6_does 100 = .ok (.bipush 120, 2) := by decide +kernel
theorem dX6_does_102 : decode cX6_does 102 = .ok (.iconst 4, 1) := by decide +kernel
theorem dX6_does_103 : decode cX6_does 103 = .ok (.iload_n 3, 1) := by decide +kernel
theorem dX6_does_104 : decode cX6_does 104 = .ok (.imul, 1) := by decide +kernel
theorem dX6_does_105 : decode cX6_does 105 = .ok (.iadd, 1) := by decide +kernel
theorem dX6_does_106 : decode cX6_does 106 = .ok (.iload_n 2, 1) := by decide +kernel
theorem dX6_does_107 : decode cX6_does 107 = .ok (.iconst 4, 1) := by decide +kernel
theorem dX6_does_108 : decode cX6_does 108 = .ok (.isub, 1) := by decide +kernel
theorem dX6_does_109 : decode cX6_does 109 = .ok (.invokevirtual 142, 3) := by decide +kernel
theorem dX6_does_112 : decode cX6_does 112 = .ok (.goto 76, 3) := by decide +kernel
theorem dX6_does_115 : decode cX6_does 115 = .ok (.aload_n 0, 1) := by decide +kernel
theorem dX6_does_116 : decode cX6_does 116 = .ok (.getfield 7, 3) := by decide +kernel
theorem dX6_does_119 : decode cX6_does 119 = .ok (.sipush 148, 3) := by decide +kernel
theorem dX6_does_122 : decode cX6_does 122 = .ok (.bipush 7, 2) := by decide +kernel
theorem dX6_does_124 : decode cX6_does 124 = .ok (.iload_n 3, 1) := by decide +kernel
theorem dX6_does_125 : decode cX6_does 125 = .ok (.imul, 1) := by decide +kernel
theorem dX6_does_126 : decode cX6_does 126 = .ok (.iadd, 1) := by decide +kernel
theorem dX6_does_127 : decode cX6_does 127 = .ok (.aload_n 0, 1) := by decide +kernel
theorem dX6_does_128 : decode cX6_does 128 = .ok (.iload_n 1, 1) := by decide +kernel
theorem dX6_does_129 : decode cX6_does 129 = .ok (.iconst 2, 1) := by decide +kernel
theorem dX6_does_130 : decode cX6_does 130 = .ok (.iadd, 1) := by decide +kernel
theorem dX6_does_131 : decode cX6_does 131 = .ok (.invokevirtual 127, 3) := by decide +kernel
theorem dX6_does_134 : decode cX6_does 134 = .ok (.iadd, 1) := by decide +kernel
theorem dX6_does_135 : decode cX6_does 135 = .ok (.aload_n 0, 1) := by decide +kernel
theorem dX6_does_136 : decode cX6_does 136 = .ok (.iload_n 2, 1) := by decide +kernel
theorem dX6_does_137 : decode cX6_does 137 = .ok (.iconst 1, 1) := by decide +kernel
theorem dX6_does_138 : decode cX6_does 138 = .ok (.isub, 1) := by decide +kernel
theorem dX6_does_139 : decode cX6_does 139 = .ok (.invokevirtual 127, 3) := by decide +kernel
theorem dX6_does_142 : decode cX6_does 142 = .ok (.iastore, 1) := by decide +kernel
theorem dX6_does_143 : decode cX6_does 143 = .ok (.goto 45, 3) := by decide +kernel
theorem dX6_does_146 : decode cX6_does 146 = .ok (.iconst 0, 1) := by decide +kernel
theorem dX6_does_147 : decode cX6_does 147 = .ok (.istore 5, 2) := by decide +kernel
theorem dX6_does_149 : decode cX6_does 149 = .ok (.iload_n 1, 1) := by decide +kernel
theorem dX6_does_150 : decode cX6_does 150 = .ok (.iconst 1, 1) := by decide +kernel
theorem dX6_does_151 : decode cX6_does 151 = .ok (.iadd, 1) := by decide +kernel
theorem dX6_does_152 : decode cX6_does 152 = .ok (.istore 6, 2) := by decide +kernel
theorem dX6_does_154 : decode cX6_does 154 = .ok (.iload 6, 2) := by decide +kernel
theorem dX6_does_156 : decode cX6_does 156 = .ok (.iload_n 2, 1) := by decide +kernel
theorem dX6_does_157 : decode cX6_does 157 = .ok (.if_icmp .ge 22, 3) := by decide +kernel
theorem dX6_does_160 : decode cX6_does 160 = .ok (.iload 5, 2) := by decide +kernel
theorem dX6_does_162 : decode cX6_does 162 = .ok (.iconst 1, 1) := by decide +kernel
theorem dX6_does_163 : decode cX6_does 163 = .ok (.aload_n 0, 1) := by decide +kernel
theorem dX6_does_164 : decode cX6_does 164 = .ok (.iload 6, 2) := by decide +kernel
theorem dX6_does_166 : decode cX6_does 166 = .ok (.invokevirtual 127, 3) := by decide +kernel
theorem dX6_does_169 : decode cX6_does 169 = .ok (.ishl, 1) := by decide +kernel
theorem dX6_does_170 : decode cX6_does 170 = .ok (.ior, 1) := by decide +kernel
theorem dX6_does_171 : decode cX6_does 171 = .ok (.istore 5, 2) := by decide +kernel
theorem dX6_does_173 : decode cX6_does 173 = .ok (.iinc 6 1, 3) := by decide +kernel
theorem dX6_does_176 : decode cX6_does 176 = .ok (.goto (-22), 3) := by decide +kernel
theorem dX6_does_179 : decode cX6_does 179 = .ok (.aload_n 0, 1) := by decide +kernel
theorem dX6_does_180 : decode cX6_does 180 = .ok (.iconst 0, 1) := by decide +kernel
theorem dX6_does_181 : decode cX6_does 181 = .ok (.iload 5, 2) := by decide +kernel
theorem dX6_does_183 : decode cX6_does 183 = .ok (.invokevirtual 115, 3) := by decide +kernel
theorem dX6_does_186 : decode cX6_does 186 = .ok (.istore 6, 2) := by decide +kernel
theorem dX6_does_188 : decode cX6_does 188 = .ok (.return_, 1) := by decide +kernel
set_option maxRecDepth 20000 in
theorem ggX6_perform_X6_fault : GoodIn wsX6_perform wsX6_fault := goodIn_r _ [6, 1, 7, 8, 9, 5, 10, 11, 12, 13, 14, 15, 16, 17, 18, 19, 20, 21, 22, 23, 24, 25, 26, 27, 28, 29, 30, 31, 32, 33, 34, 35, 36, 37, 102, 103, 104, 105, 106, 107, 108, 109, 110] (by decide +kernel) (by decide +kernel)
set_option maxRecDepth 20000 in
theorem gX6_perform_X6_fault : GoodIn wsX6_perform (wsV RX6 146 RX6 yX6_fault wsX6_fault) := goodIn_app (goodIn_of _ (by decide +kernel)) ggX6_perform_X6_fault
set_option maxRecDepth 20000 in
theorem ggX6_perform_X6_remembers : GoodIn wsX6_perform wsX6_remembers := goodIn_r _ [41, 42, 43, 44, 102, 103, 104, 105, 106, 107, 108, 109, 110] (by decide +kernel) (by decide +kernel)
set_option maxRecDepth 20000 in
theorem gX6_perform_X6_remembers : GoodIn wsX6_perform (wsV RX6 99 RX6 yX6_remembers wsX6_remembers) := goodIn_app (goodIn_of _ (by decide +kernel)) ggX6_perform_X6_remembers
set_option maxRecDepth 20000 in
theorem ggX6_perform_X6_does : GoodIn wsX6_perform wsX6_does := goodIn_r _ [48, 44, 7, 8, 9, 5, 10, 11, 12, 13, 14, 15, 16, 17, 18, 1, 19, 20, 21, 22, 23, 24, 25, 26, 27, 28, 29, 30, 31, 32, 33, 34, 35, 36, 37, 49, 50, 51, 52, 53, 54, 55, 56, 57, 58, 59, 60, 61, 62, 63, 64, 65, 66, 67, 68, 69, 70, 71, 72, 73, 74, 75, 76, 77, 78, 79, 80, 81, 82, 83, 84, 85, 86, 87, 88, 89, 90, 91, 92, 93, 94, 95, 96, 97, 98, 99, 100, 101, 102, 103, 104, 105, 106, 107, 108, 109, 110] (by decide +kernel) (by decide +kernel)
set_option maxRecDepth 20000 in
theorem gX6_perform_X6_does : GoodIn wsX6_perform (wsV RX6 150 RX6 yX6_does wsX6_does) := goodIn_app (goodIn_of _ (by decide +kernel)) ggX6_perform_X6_does
set_option maxRecDepth 20000 in
theorem ggX6_perform_X6_orderEnd : GoodIn wsX6_perform wsX6_orderEnd := goodIn_r _ [10, 11, 12, 13, 5, 14, 15, 16, 17, 18, 1, 19, 20, 21, 22, 23, 24, 25, 26, 27, 28, 29, 30, 31, 32, 33, 34, 35, 36, 37, 102, 103, 104, 105, 106, 107, 108, 109, 110] (by decide +kernel) (by decide +kernel)
set_option maxRecDepth 20000 in
theorem gX6_perform_X6_orderEnd : GoodIn wsX6_perform (wsV RX6 139 RX6 yX6_orderEnd wsX6_orderEnd) := goodIn_app (goodIn_of _ (by decide +kernel)) ggX6_perform_X6_orderEnd
theorem dX6_perform_0 : decode cX6_perform 0 = .ok (.aload_n 0, 1) := by decide +kernel
theorem dX6_perform_1 : decode cX6_perform 1 = .ok (.invokevirtual 146, 3) := by decide +kernel
theorem dX6_perform_4 : decode cX6_perform 4 = .ok (.istore_n 1, 1) := by decide +kernel
theorem dX6_perform_5 : decode cX6_perform 5 = .ok (.iload_n 1, 1) := by decide +kernel
theorem dX6_perform_6 : decode cX6_perform 6 = .ok (.bipush (-5), 2) := by decide +kernel
theorem dX6_perform_8 : decode cX6_perform 8 = .ok (.if_icmp .eq 8, 3) := by decide +kernel
theorem dX6_perform_11 : decode cX6_perform 11 = .ok (.bipush (-100), 2) := by decide +kernel
theorem dX6_perform_13 : decode cX6_perform 13 = .ok (.iload_n 1, 1) := by decide +kernel
theorem dX6_perform_14 : decode cX6_perform 14 = .ok (.isub, 1) := by decide +kernel
theorem dX6_perform_15 : decode cX6_perform 15 = .ok (.ireturn, 1) := by decide +kernel
theorem dX6_perform_16 : decode cX6_perform 16 = .ok (.aload_n 0, 1) := by decide +kernel
theorem dX6_perform_17 : decode cX6_perform 17 = .ok (.invokevirtual 99, 3) := by decide +kernel
theorem dX6_perform_20 : decode cX6_perform 20 = .ok (.iconst 0, 1) := by decide +kernel
theorem dX6_perform_21 : decode cX6_perform 21 = .ok (.istore_n 2, 1) := by decide +kernel
theorem dX6_perform_22 : decode cX6_perform 22 = .ok (.iconst 0, 1) := by decide +kernel
theorem dX6_perform_23 : decode cX6_perform 23 = .ok (.istore_n 3, 1) := by decide +kernel
theorem dX6_perform_24 : decode cX6_perform 24 = .ok (.iload_n 3, 1) := by decide +kernel
theorem dX6_perform_25 : decode cX6_perform 25 = .ok (.aload_n 0, 1) := by decide +kernel
theorem dX6_perform_26 : decode cX6_perform 26 = .ok (.getfield 121, 3) := by decide +kernel
theorem dX6_perform_29 : decode cX6_perform 29 = .ok (.if_icmp .ge 22, 3) := by decide +kernel
theorem dX6_perform_32 : decode cX6_perform 32 = .ok (.aload_n 0, 1) := by decide +kernel
theorem dX6_perform_33 : decode cX6_perform 33 = .ok (.iload_n 3, 1) := by decide +kernel
theorem dX6_perform_34 : decode cX6_perform 34 = .ok (.invokevirtual 150, 3) := by decide +kernel
theorem dX6_perform_37 : decode cX6_perform 37 = .ok (.iinc 2 1, 3) := by decide +kernel
theorem dX6_perform_40 : decode cX6_perform 40 = .ok (.aload_n 0, 1) := by decide +kernel
theorem dX6_perform_41 : decode cX6_perform 41 = .ok (.iload_n 3, 1) := by decide +kernel
theorem dX6_perform_42 : decode cX6_perform 42 = .ok (.invokevirtual 139, 3) := by decide +kernel
theorem dX6_perform_45 : decode cX6_perform 45 = .ok (.iconst 1, 1) := by decide +kernel
theorem dX6_perform_46 : decode cX6_perform 46 = .ok (.iadd, 1) := by decide +kernel
theorem dX6_perform_47 : decode cX6_perform 47 = .ok (.istore_n 3, 1) := by decide +kernel
theorem dX6_perform_48 : decode cX6_perform 48 = .ok (.goto (-24), 3) := by decide +kernel
theorem dX6_perform_51 : decode cX6_perform 51 = .ok (.iload_n 2, 1) := by decide +kernel
theorem dX6_perform_52 : decode cX6_perform 52 = .ok (.ireturn, 1) := by decide +kernel
theorem dX6_undo_0 : decode cX6_undo 0 = .ok (.aload_n 0, 1) := by decide +kernel
theorem dX6_undo_1 : decode cX6_undo 1 = .ok (.getfield 29, 3) := by decide +kernel
theorem dX6_undo_4 : decode cX6_undo 4 = .ok (.ifCond .ne 6, 3) := by decide +kernel
theorem dX6_undo_7 : decode cX6_undo 7 = .ok (.bipush (-5), 2) := by decide +kernel
theorem dX6_undo_9 : decode cX6_undo 9 = .ok (.ireturn, 1) := by decide +kernel
theorem dX6_undo_10 : decode cX6_undo 10 = .ok (.aload_n 0, 1) := by decide +kernel
theorem dX6_undo_11 : decode cX6_undo 11 = .ok (.dup, 1) := by decide +kernel
theorem dX6_undo_12 : decode cX6_undo 12 = .ok (.getfield 29, 3) := by decide +kernel
theorem dX6_undo_15 : decode cX6_undo 15 = .ok (.iconst 1, 1) := by decide +kernel
theorem dX6_undo_16 : decode cX6_undo 16 = .ok (.isub, 1) := by decide +kernel
theorem dX6_undo_17 : decode cX6_undo 17 = .ok (.putfield 29, 3) := by decide +kernel
theorem dX6_undo_20 : decode cX6_undo 20 = .ok (.iconst 0, 1) := by decide +kernel
theorem dX6_undo_21 : decode cX6_undo 21 = .ok (.istore_n 1, 1) := by decide +kernel
theorem dX6_undo_22 : decode cX6_undo 22 = .ok (.iload_n 1, 1) := by decide +kernel
theorem dX6_undo_23 : decode cX6_undo 23 = .ok (.sipush 202, 3) := by decide +kernel
theorem dX6_undo_26 : decode cX6_undo 26 = .ok (.if_icmp .ge 30, 3) := by decide +kernel
theorem dX6_undo_29 : decode cX6_undo 29 = .ok (.aload_n 0, 1) := by decide +kernel
theorem dX6_undo_30 : decode cX6_undo 30 = .ok (.getfield 7, 3) := by decide +kernel
theorem dX6_undo_33 : decode cX6_undo 33 = .ok (.iload_n 1, 1) := by decide +kernel
theorem dX6_undo_34 : decode cX6_undo 34 = .ok (.aload_n 0, 1) := by decide +kernel
theorem dX6_undo_35 : decode cX6_undo 35 = .ok (.getfield 13, 3) := by decide +kernel
theorem dX6_undo_38 : decode cX6_undo 38 = .ok (.sipush 202, 3) := by decide +kernel
theorem dX6_undo_41 : decode cX6_undo 41 = .ok (.aload_n 0, 1) := by decide +kernel
theorem dX6_undo_42 : decode cX6_undo 42 = .ok (.getfield 29, 3) := by decide +kernel
theorem dX6_undo_45 : decode cX6_undo 45 = .ok (.imul, 1) := by decide +kernel
theorem dX6_undo_46 : decode cX6_undo 46 = .ok (.iload_n 1, 1) := by decide +kernel
theorem dX6_undo_47 : decode cX6_undo 47 = .ok (.iadd, 1) := by decide +kernel
theorem dX6_undo_48 : decode cX6_undo 48 = .ok (.iaload, 1) := by decide +kernel
theorem dX6_undo_49 : decode cX6_undo 49 = .ok (.iastore, 1) := by decide +kernel
theorem dX6_undo_50 : decode cX6_undo 50 = .ok (.iinc 1 1, 3) := by decide +kernel
theorem dX6_undo_53 : decode cX6_undo 53 = .ok (.goto (-31), 3) := by decide +kernel
theorem dX6_undo_56 : decode cX6_undo 56 = .ok (.aload_n 0, 1) := by decide +kernel
theorem dX6_undo_57 : decode cX6_undo 57 = .ok (.getfield 29, 3) := by decide +kernel
theorem dX6_undo_60 : decode cX6_undo 60 = .ok (.ireturn, 1) := by decide +kernel
theorem dX6_plotsOf_0 : decode cX6_plotsOf 0 = .ok (.iconst 0, 1) := by decide +kernel
theorem dX6_plotsOf_1 : decode cX6_plotsOf 1 = .ok (.istore_n 2, 1) := by decide +kernel
theorem dX6_plotsOf_2 : decode cX6_plotsOf 2 = .ok (.iconst 0, 1) := by decide +kernel
theorem dX6_plotsOf_3 : decode cX6_plotsOf 3 = .ok (.istore_n 3, 1) := by decide +kernel
theorem dX6_plotsOf_4 : decode cX6_plotsOf 4 = .ok (.iload_n 3, 1) := by decide +kernel
theorem dX6_plotsOf_5 : decode cX6_plotsOf 5 = .ok (.bipush 24, 2) := by decide +kernel
theorem dX6_plotsOf_7 : decode cX6_plotsOf 7 = .ok (.if_icmp .ge 68, 3) := by decide +kernel
theorem dX6_plotsOf_10 : decode cX6_plotsOf 10 = .ok (.iload_n 1, 1) := by decide +kernel
theorem dX6_plotsOf_11 : decode cX6_plotsOf 11 = .ok (.ifCond .ge 25, 3) := by decide +kernel
theorem dX6_plotsOf_14 : decode cX6_plotsOf 14 = .ok (.aload_n 0, 1) := by decide +kernel
theorem dX6_plotsOf_15 : decode cX6_plotsOf 15 = .ok (.getfield 7, 3) := by decide +kernel
theorem dX6_plotsOf_18 : decode cX6_plotsOf 18 = .ok (.bipush 96, 2) := by decide +kernel
theorem dX6_plotsOf_20 : decode cX6_plotsOf 20 = .ok (.iload_n 3, 1) := by decide +kernel
theorem dX6_plotsOf_21 : decode cX6_plotsOf 21 = .ok (.iadd, 1) := by decide +kernel
theorem dX6_plotsOf_22 : decode cX6_plotsOf 22 = .ok (.iaload, 1) := by decide +kernel
theorem dX6_plotsOf_23 : decode cX6_plotsOf 23 = .ok (.bipush 7, 2) := by decide +kernel
theorem dX6_plotsOf_25 : decode cX6_plotsOf 25 = .ok (.if_icmp .eq 7, 3) := by decide +kernel
theorem dX6_plotsOf_28 : decode cX6_plotsOf 28 = .ok (.iconst 1, 1) := by decide +kernel
theorem dX6_plotsOf_29 : decode cX6_plotsOf 29 = .ok (.goto 25, 3) := by decide +kernel
theorem dX6_plotsOf_32 : decode cX6_plotsOf 32 = .ok (.iconst 0, 1) := by decide +kernel
theorem dX6_plotsOf_33 : decode cX6_plotsOf 33 = .ok (.goto 21, 3) := by decide +kernel
theorem dX6_plotsOf_36 : decode cX6_plotsOf 36 = .ok (.aload_n 0, 1) := by decide +kernel
theorem dX6_plotsOf_37 : decode cX6_plotsOf 37 = .ok (.getfield 7, 3) := by decide +kernel
theorem dX6_plotsOf_40 : decode cX6_plotsOf 40 = .ok (.bipush 96, 2) := by decide +kernel
theorem dX6_plotsOf_42 : decode cX6_plotsOf 42 = .ok (.iload_n 3, 1) := by decide +kernel
theorem dX6_plotsOf_43 : decode cX6_plotsOf 43 = .ok (.iadd, 1) := by decide +kernel
theorem dX6_plotsOf_44 : decode cX6_plotsOf 44 = .ok (.iaload, 1) := by decide +kernel
theorem dX6_plotsOf_45 : decode cX6_plotsOf 45 = .ok (.iload_n 1, 1) := by decide +kernel
theorem dX6_plotsOf_46 : decode cX6_plotsOf 46 = .ok (.if_icmp .ne 7, 3) := by decide +kernel
theorem dX6_plotsOf_49 : decode cX6_plotsOf 49 = .ok (.iconst 1, 1) := by decide +kernel
theorem dX6_plotsOf_50 : decode cX6_plotsOf 50 = .ok (.goto 4, 3) := by decide +kernel
theorem dX6_plotsOf_53 : decode cX6_plotsOf 53 = .ok (.iconst 0, 1) := by decide +kernel
theorem dX6_plotsOf_54 : decode cX6_plotsOf 54 = .ok (.istore 4, 2) := by decide +kernel
theorem dX6_plotsOf_56 : decode cX6_plotsOf 56 = .ok (.iload_n 2, 1) := by decide +kernel
theorem dX6_plotsOf_57 : decode cX6_plotsOf 57 = .ok (.iload 4, 2) := by decide +kernel
theorem dX6_plotsOf_59 : decode cX6_plotsOf 59 = .ok (.ifCond .eq 7, 3) := by decide +kernel
theorem dX6_plotsOf_62 : decode cX6_plotsOf 62 = .ok (.iconst 1, 1) := by decide +kernel
theorem dX6_plotsOf_63 : decode cX6_plotsOf 63 = .ok (.goto 4, 3) := by decide +kernel
theorem dX6_plotsOf_66 : decode cX6_plotsOf 66 = .ok (.iconst 0, 1) := by decide +kernel
theorem dX6_plotsOf_67 : decode cX6_plotsOf 67 = .ok (.iadd, 1) := by decide +kernel
theorem dX6_plotsOf_68 : decode cX6_plotsOf 68 = .ok (.istore_n 2, 1) := by decide +kernel
theorem dX6_plotsOf_69 : decode cX6_plotsOf 69 = .ok (.iinc 3 1, 3) := by decide +kernel
theorem dX6_plotsOf_72 : decode cX6_plotsOf 72 = .ok (.goto (-68), 3) := by decide +kernel
theorem dX6_plotsOf_75 : decode cX6_plotsOf 75 = .ok (.iload_n 2, 1) := by decide +kernel
theorem dX6_plotsOf_76 : decode cX6_plotsOf 76 = .ok (.ireturn, 1) := by decide +kernel
set_option maxRecDepth 20000 in
theorem ggX6_keep_X6_plotsOf : GoodIn wsX6_keep wsX6_plotsOf := goodIn_r _ [8, 2, 9, 10, 11, 12, 13, 14, 15, 16, 17] (by decide +kernel) (by decide +kernel)
set_option maxRecDepth 20000 in
theorem gX6_keep_X6_plotsOf : GoodIn wsX6_keep (wsV RX6 158 RX6 yX6_plotsOf wsX6_plotsOf) := goodIn_app (goodIn_of _ (by decide +kernel)) ggX6_keep_X6_plotsOf
theorem dX6_keep_0 : decode cX6_keep 0 = .ok (.iconst 0, 1) := by decide +kernel
theorem dX6_keep_1 : decode cX6_keep 1 = .ok (.istore_n 1, 1) := by decide +kernel
theorem dX6_keep_2 : decode cX6_keep 2 = .ok (.iload_n 1, 1) := by decide +kernel
theorem dX6_keep_3 : decode cX6_keep 3 = .ok (.sipush 202, 3) := by decide +kernel
theorem dX6_keep_6 : decode cX6_keep 6 = .ok (.if_icmp .ge 21, 3) := by decide +kernel
theorem dX6_keep_9 : decode cX6_keep 9 = .ok (.aload_n 0, 1) := by decide +kernel
theorem dX6_keep_10 : decode cX6_keep 10 = .ok (.getfield 16, 3) := by decide +kernel
theorem dX6_keep_13 : decode cX6_keep 13 = .ok (.iload_n 1, 1) := by decide +kernel
theorem dX6_keep_14 : decode cX6_keep 14 = .ok (.aload_n 0, 1) := by decide +kernel
theorem dX6_keep_15 : decode cX6_keep 15 = .ok (.getfield 7, 3) := by decide +kernel
theorem dX6_keep_18 : decode cX6_keep 18 = .ok (.iload_n 1, 1) := by decide +kernel
theorem dX6_keep_19 : decode cX6_keep 19 = .ok (.iaload, 1) := by decide +kernel
theorem dX6_keep_20 : decode cX6_keep 20 = .ok (.iastore, 1) := by decide +kernel
theorem dX6_keep_21 : decode cX6_keep 21 = .ok (.iinc 1 1, 3) := by decide +kernel
theorem dX6_keep_24 : decode cX6_keep 24 = .ok (.goto (-22), 3) := by decide +kernel
theorem dX6_keep_27 : decode cX6_keep 27 = .ok (.aload_n 0, 1) := by decide +kernel
theorem dX6_keep_28 : decode cX6_keep 28 = .ok (.iconst 1, 1) := by decide +kernel
theorem dX6_keep_29 : decode cX6_keep 29 = .ok (.putfield 154, 3) := by decide +kernel
theorem dX6_keep_32 : decode cX6_keep 32 = .ok (.aload_n 0, 1) := by decide +kernel
theorem dX6_keep_33 : decode cX6_keep 33 = .ok (.iconst (-1), 1) := by decide +kernel
theorem dX6_keep_34 : decode cX6_keep 34 = .ok (.invokevirtual 158, 3) := by decide +kernel
theorem dX6_keep_37 : decode cX6_keep 37 = .ok (.ireturn, 1) := by decide +kernel
set_option maxRecDepth 20000 in
theorem ggX6_restore_X6_remembers : GoodIn wsX6_restore wsX6_remembers := goodIn_r _ [8, 9, 10, 2, 15, 16, 17, 18, 19, 20, 21, 22, 23] (by decide +kernel) (by decide +kernel)
set_option maxRecDepth 20000 in
theorem gX6_restore_X6_remembers : GoodIn wsX6_restore (wsV RX6 99 RX6 yX6_remembers wsX6_remembers) := goodIn_app (goodIn_of _ (by decide +kernel)) ggX6_restore_X6_remembers
set_option maxRecDepth 20000 in
theorem ggX6_restore_X6_plotsOf : GoodIn wsX6_restore wsX6_plotsOf := goodIn_r _ [14, 2, 15, 16, 17, 18, 19, 20, 21, 22, 23] (by decide +kernel) (by decide +kernel)
set_option maxRecDepth 20000 in
theorem gX6_restore_X6_plotsOf : GoodIn wsX6_restore (wsV RX6 158 RX6 yX6_plotsOf wsX6_plotsOf) := goodIn_app (goodIn_of _ (by decide +kernel)) ggX6_restore_X6_plotsOf
theorem dX6_restore_0 : decode cX6_restore 0 = .ok (.aload_n 0, 1) := by decide +kernel
theorem dX6_restore_1 : decode cX6_restore 1 = .ok (.getfield 154, 3) := by decide +kernel
theorem dX6_restore_4 : decode cX6_restore 4 = .ok (.ifCond .ne 6, 3) := by decide +kernel
theorem dX6_restore_7 : decode cX6_restore 7 = .ok (.bipush (-5), 2) := by decide +kernel
theorem dX6_restore_9 : decode cX6_restore 9 = .ok (.ireturn, 1) := by decide +kernel
theorem dX6_restore_10 : decode cX6_restore 10 = .ok (.aload_n 0, 1) := by decide +kernel
theorem dX6_restore_11 : decode cX6_restore 11 = .ok (.invokevirtual 99, 3) := by decide +kernel
theorem dX6_restore_14 : decode cX6_restore 14 = .ok (.iconst 0, 1) := by decide +kernel
theorem dX6_restore_15 : decode cX6_restore 15 = .ok (.istore_n 1, 1) := by decide +kernel
theorem dX6_restore_16 : decode cX6_restore 16 = .ok (.iload_n 1, 1) := by decide +kernel
theorem dX6_restore_17 : decode cX6_restore 17 = .ok (.sipush 202, 3) := by decide +kernel
theorem dX6_restore_20 : decode cX6_restore 20 = .ok (.if_icmp .ge 21, 3) := by decide +kernel
theorem dX6_restore_23 : decode cX6_restore 23 = .ok (.aload_n 0, 1) := by decide +kernel
theorem dX6_restore_24 : decode cX6_restore 24 = .ok (.getfield 7, 3) := by decide +kernel
theorem dX6_restore_27 : decode cX6_restore 27 = .ok (.iload_n 1, 1) := by decide +kernel
theorem dX6_restore_28 : decode cX6_restore 28 = .ok (.aload_n 0, 1) := by decide +kernel
theorem dX6_restore_29 : decode cX6_restore 29 = .ok (.getfield 16, 3) := by decide +kernel
theorem dX6_restore_32 : decode cX6_restore 32 = .ok (.iload_n 1, 1) := by decide +kernel
theorem dX6_restore_33 : decode cX6_restore 33 = .ok (.iaload, 1) := by decide +kernel
theorem dX6_restore_34 : decode cX6_restore 34 = .ok (.iastore, 1) := by decide +kernel
theorem dX6_restore_35 : decode cX6_restore 35 = .ok (.iinc 1 1, 3) := by decide +kernel
theorem dX6_restore_38 : decode cX6_restore 38 = .ok (.goto (-22), 3) := by decide +kernel
theorem dX6_restore_41 : decode cX6_restore 41 = .ok (.aload_n 0, 1) := by decide +kernel
theorem dX6_restore_42 : decode cX6_restore 42 = .ok (.iconst (-1), 1) := by decide +kernel
theorem dX6_restore_43 : decode cX6_restore 43 = .ok (.invokevirtual 158, 3) := by decide +kernel
theorem dX6_restore_46 : decode cX6_restore 46 = .ok (.ireturn, 1) := by decide +kernel
set_option maxRecDepth 20000 in
theorem ggX6_plot_X6_isPlot : GoodIn wsX6_plot wsX6_isPlot := goodIn_r _ [5, 6, 7, 4, 8] (by decide +kernel) (by decide +kernel)
set_option maxRecDepth 20000 in
theorem gX6_plot_X6_isPlot : GoodIn wsX6_plot (va_wsS RX6 102 yX6_isPlot wsX6_isPlot) := goodIn_app (goodIn_of _ (by decide +kernel)) ggX6_plot_X6_isPlot
set_option maxRecDepth 20000 in
theorem ggX6_plot_X6_in : GoodIn wsX6_plot wsX6_in := goodIn_r _ [8] (by decide +kernel) (by decide +kernel)
set_option maxRecDepth 20000 in
theorem gX6_plot_X6_in : GoodIn wsX6_plot (va_wsS RX6 25 yX6_in wsX6_in) := goodIn_app (goodIn_of _ (by decide +kernel)) ggX6_plot_X6_in
set_option maxRecDepth 20000 in
theorem ggX6_plot_X6_worth : GoodIn wsX6_plot wsX6_worth := goodIn_r _ [12, 1, 13, 14, 15, 16, 17, 18, 19, 20, 21] (by decide +kernel) (by decide +kernel)
set_option maxRecDepth 20000 in
theorem gX6_plot_X6_worth : GoodIn wsX6_plot (wsV RX6 33 RX6 yX6_worth wsX6_worth) := goodIn_app (goodIn_of _ (by decide +kernel)) ggX6_plot_X6_worth
theorem dX6_plot_0 : decode cX6_plot 0 = .ok (.iload_n 1, 1) := by decide +kernel
theorem dX6_plot_1 : decode cX6_plot 1 = .ok (.invokestatic 102, 3) := by decide +kernel
theorem dX6_plot_4 : decode cX6_plot 4 = .ok (.ifCond .ne 5, 3) := by decide +kernel
theorem dX6_plot_7 : decode cX6_plot 7 = .ok (.iconst (-1), 1) := by decide +kernel
theorem dX6_plot_8 : decode cX6_plot 8 = .ok (.ireturn, 1) := by decide +kernel
theorem dX6_plot_9 : decode cX6_plot 9 = .ok (.iload_n 2, 1) := by decide +kernel
theorem dX6_plot_10 : decode cX6_plot 10 = .ok (.iconst 0, 1) := by decide +kernel
theorem dX6_plot_11 : decode cX6_plot 11 = .ok (.bipush 11, 2) := by decide +kernel
theorem dX6_plot_13 : decode cX6_plot 13 = .ok (.invokestatic 25, 3) := by decide +kernel
theorem dX6_plot_16 : decode cX6_plot 16 = .ok (.ifCond .ne 6, 3) := by decide +kernel
theorem dX6_plot_19 : decode cX6_plot 19 = .ok (.bipush (-2), 2) := by decide +kernel
theorem dX6_plot_21 : decode cX6_plot 21 = .ok (.ireturn, 1) := by decide +kernel
theorem dX6_plot_22 : decode cX6_plot 22 = .ok (.iload_n 2, 1) := by decide +kernel
theorem dX6_plot_23 : decode cX6_plot 23 = .ok (.iconst 4, 1) := by decide +kernel
theorem dX6_plot_24 : decode cX6_plot 24 = .ok (.if_icmp .ge 18, 3) := by decide +kernel
theorem dX6_plot_27 : decode cX6_plot 27 = .ok (.aload_n 0, 1) := by decide +kernel
theorem dX6_plot_28 : decode cX6_plot 28 = .ok (.getfield 7, 3) := by decide +kernel
theorem dX6_plot_31 : decode cX6_plot 31 = .ok (.iconst 0, 1) := by decide +kernel
theorem dX6_plot_32 : decode cX6_plot 32 = .ok (.iconst 4, 1) := by decide +kernel
theorem dX6_plot_33 : decode cX6_plot 33 = .ok (.iload_n 1, 1) := by decide +kernel
theorem dX6_plot_34 : decode cX6_plot 34 = .ok (.imul, 1) := by decide +kernel
theorem dX6_plot_35 : decode cX6_plot 35 = .ok (.iadd, 1) := by decide +kernel
theorem dX6_plot_36 : decode cX6_plot 36 = .ok (.iload_n 2, 1) := by decide +kernel
theorem dX6_plot_37 : decode cX6_plot 37 = .ok (.iadd, 1) := by decide +kernel
theorem dX6_plot_38 : decode cX6_plot 38 = .ok (.iaload, 1) := by decide +kernel
theorem dX6_plot_39 : decode cX6_plot 39 = .ok (.goto 28, 3) := by decide +kernel
theorem dX6_plot_42 : decode cX6_plot 42 = .ok (.iload_n 2, 1) := by decide +kernel
theorem dX6_plot_43 : decode cX6_plot 43 = .ok (.iconst 4, 1) := by decide +kernel
theorem dX6_plot_44 : decode cX6_plot 44 = .ok (.if_icmp .ne 15, 3) := by decide +kernel
theorem dX6_plot_47 : decode cX6_plot 47 = .ok (.aload_n 0, 1) := by decide +kernel
theorem dX6_plot_48 : decode cX6_plot 48 = .ok (.getfield 7, 3) := by decide +kernel
theorem dX6_plot_51 : decode cX6_plot 51 = .ok (.bipush 96, 2) := by decide +kernel
theorem dX6_plot_53 : decode cX6_plot 53 = .ok (.iload_n 1, 1) := by decide +kernel
theorem dX6_plot_54 : decode cX6_plot 54 = .ok (.iadd, 1) := by decide +kernel
theorem dX6_plot_55 : decode cX6_plot 55 = .ok (.iaload, 1) := by decide +kernel
theorem dX6_plot_56 : decode cX6_plot 56 = .ok (.goto 11, 3) := by decide +kernel
theorem dX6_plot_59 : decode cX6_plot 59 = .ok (.aload_n 0, 1) := by decide +kernel
theorem dX6_plot_60 : decode cX6_plot 60 = .ok (.iload_n 2, 1) := by decide +kernel
theorem dX6_plot_61 : decode cX6_plot 61 = .ok (.iconst 5, 1) := by decide +kernel
theorem dX6_plot_62 : decode cX6_plot 62 = .ok (.isub, 1) := by decide +kernel
theorem dX6_plot_63 : decode cX6_plot 63 = .ok (.iload_n 1, 1) := by decide +kernel
theorem dX6_plot_64 : decode cX6_plot 64 = .ok (.invokevirtual 33, 3) := by decide +kernel
theorem dX6_plot_67 : decode cX6_plot 67 = .ok (.ireturn, 1) := by decide +kernel
set_option maxRecDepth 20000 in
theorem ggX6_hundredths_X6_worthFrom : GoodIn wsX6_hundredths wsX6_worthFrom := goodIn_r _ [5, 6, 7, 8, 4, 9, 10, 15, 16, 17, 18, 19, 20, 21, 22, 23] (by decide +kernel) (by decide +kernel)
set_option maxRecDepth 20000 in
theorem gX6_hundredths_X6_worthFrom : GoodIn wsX6_hundredths (wsV RX6 64 RX6 yX6_worthFrom wsX6_worthFrom) := goodIn_app (goodIn_of _ (by decide +kernel)) ggX6_hundredths_X6_worthFrom
set_option maxRecDepth 20000 in
theorem ggX6_hundredths_X6_share : GoodIn wsX6_hundredths wsX6_share := goodIn_r _ [14, 10, 6, 7, 8, 4, 9, 15, 16, 17, 18, 19, 20, 21, 22, 23] (by decide +kernel) (by decide +kernel)
set_option maxRecDepth 20000 in
theorem gX6_hundredths_X6_share : GoodIn wsX6_hundredths (wsV RX6 37 RX6 yX6_share wsX6_share) := goodIn_app (goodIn_of _ (by decide +kernel)) ggX6_hundredths_X6_share
theorem dX6_hundredths_0 : decode cX6_hundredths 0 = .ok (.aload_n 0, 1) := by decide +kernel
theorem dX6_hundredths_1 : decode cX6_hundredths 1 = .ok (.iload_n 1, 1) := by decide +kernel
theorem dX6_hundredths_2 : decode cX6_hundredths 2 = .ok (.iconst 0, 1) := by decide +kernel
theorem dX6_hundredths_3 : decode cX6_hundredths 3 = .ok (.invokevirtual 64, 3) := by decide +kernel
theorem dX6_hundredths_6 : decode cX6_hundredths 6 = .ok (.istore_n 2, 1) := by decide +kernel
theorem dX6_hundredths_7 : decode cX6_hundredths 7 = .ok (.iload_n 2, 1) := by decide +kernel
theorem dX6_hundredths_8 : decode cX6_hundredths 8 = .ok (.ifCond .ne 7, 3) := by decide +kernel
theorem dX6_hundredths_11 : decode cX6_hundredths 11 = .ok (.iconst 0, 1) := by decide +kernel
theorem dX6_hundredths_12 : decode cX6_hundredths 12 = .ok (.goto 15, 3) := by decide +kernel
theorem dX6_hundredths_15 : decode cX6_hundredths 15 = .ok (.bipush 100, 2) := by decide +kernel
theorem dX6_hundredths_17 : decode cX6_hundredths 17 = .ok (.aload_n 0, 1) := by decide +kernel
theorem dX6_hundredths_18 : decode cX6_hundredths 18 = .ok (.iconst 0, 1) := by decide +kernel
theorem dX6_hundredths_19 : decode cX6_hundredths 19 = .ok (.iload_n 1, 1) := by decide +kernel
theorem dX6_hundredths_20 : decode cX6_hundredths 20 = .ok (.iload_n 1, 1) := by decide +kernel
theorem dX6_hundredths_21 : decode cX6_hundredths 21 = .ok (.invokevirtual 37, 3) := by decide +kernel
theorem dX6_hundredths_24 : decode cX6_hundredths 24 = .ok (.imul, 1) := by decide +kernel
theorem dX6_hundredths_25 : decode cX6_hundredths 25 = .ok (.iload_n 2, 1) := by decide +kernel
theorem dX6_hundredths_26 : decode cX6_hundredths 26 = .ok (.idiv, 1) := by decide +kernel
theorem dX6_hundredths_27 : decode cX6_hundredths 27 = .ok (.ireturn, 1) := by decide +kernel
set_option maxRecDepth 20000 in
theorem ggX6_greatestEnvy_X6_envy : GoodIn wsX6_greatestEnvy wsX6_envy := goodIn_r _ [5, 6, 7, 8, 4, 9, 10, 11, 12, 13, 14, 15, 16, 17, 18, 19, 20, 21, 22, 23, 24, 25, 26, 27, 28, 29, 30, 31] (by decide +kernel) (by decide +kernel)
set_option maxRecDepth 20000 in
theorem gX6_greatestEnvy_X6_envy : GoodIn wsX6_greatestEnvy (wsV RX6 47 RX6 yX6_envy wsX6_envy) := goodIn_app (goodIn_of _ (by decide +kernel)) ggX6_greatestEnvy_X6_envy
theorem dX6_greatestEnvy_0 : decode cX6_greatestEnvy 0 = .ok (.iconst 0, 1) := by decide +kernel
theorem dX6_greatestEnvy_1 : decode cX6_greatestEnvy 1 = .ok (.istore_n 2, 1) := by decide +kernel
theorem dX6_greatestEnvy_2 : decode cX6_greatestEnvy 2 = .ok (.iconst 0, 1) := by decide +kernel
theorem dX6_greatestEnvy_3 : decode cX6_greatestEnvy 3 = .ok (.istore_n 3, 1) := by decide +kernel
theorem dX6_greatestEnvy_4 : decode cX6_greatestEnvy 4 = .ok (.iload_n 3, 1) := by decide +kernel
theorem dX6_greatestEnvy_5 : decode cX6_greatestEnvy 5 = .ok (.bipush 7, 2) := by decide +kernel
theorem dX6_greatestEnvy_7 : decode cX6_greatestEnvy 7 = .ok (.if_icmp .ge 31, 3) := by decide +kernel
theorem dX6_greatestEnvy_10 : decode cX6_greatestEnvy 10 = .ok (.aload_n 0, 1) := by decide +kernel
theorem dX6_greatestEnvy_11 : decode cX6_greatestEnvy 11 = .ok (.iconst 0, 1) := by decide +kernel
theorem dX6_greatestEnvy_12 : decode cX6_greatestEnvy 12 = .ok (.iload_n 1, 1) := by decide +kernel
theorem dX6_greatestEnvy_13 : decode cX6_greatestEnvy 13 = .ok (.iload_n 3, 1) := by decide +kernel
theorem dX6_greatestEnvy_14 : decode cX6_greatestEnvy 14 = .ok (.invokevirtual 47, 3) := by decide +kernel
theorem dX6_greatestEnvy_17 : decode cX6_greatestEnvy 17 = .ok (.istore 4, 2) := by decide +kernel
theorem dX6_greatestEnvy_19 : decode cX6_greatestEnvy 19 = .ok (.iload 4, 2) := by decide +kernel
theorem dX6_greatestEnvy_21 : decode cX6_greatestEnvy 21 = .ok (.iload_n 2, 1) := by decide +kernel
theorem dX6_greatestEnvy_22 : decode cX6_greatestEnvy 22 = .ok (.if_icmp .le 8, 3) := by decide +kernel
theorem dX6_greatestEnvy_25 : decode cX6_greatestEnvy 25 = .ok (.iload 4, 2) := by decide +kernel
theorem dX6_greatestEnvy_27 : decode cX6_greatestEnvy 27 = .ok (.goto 4, 3) := by decide +kernel
theorem dX6_greatestEnvy_30 : decode cX6_greatestEnvy 30 = .ok (.iload_n 2, 1) := by decide +kernel
theorem dX6_greatestEnvy_31 : decode cX6_greatestEnvy 31 = .ok (.istore_n 2, 1) := by decide +kernel
theorem dX6_greatestEnvy_32 : decode cX6_greatestEnvy 32 = .ok (.iinc 3 1, 3) := by decide +kernel
theorem dX6_greatestEnvy_35 : decode cX6_greatestEnvy 35 = .ok (.goto (-31), 3) := by decide +kernel
theorem dX6_greatestEnvy_38 : decode cX6_greatestEnvy 38 = .ok (.iload_n 2, 1) := by decide +kernel
theorem dX6_greatestEnvy_39 : decode cX6_greatestEnvy 39 = .ok (.ireturn, 1) := by decide +kernel
set_option maxRecDepth 20000 in
theorem ggX6_cousin_X6_isCousin : GoodIn wsX6_cousin wsX6_isCousin := goodIn_r _ [5, 6, 7, 4, 8] (by decide +kernel) (by decide +kernel)
set_option maxRecDepth 20000 in
theorem gX6_cousin_X6_isCousin : GoodIn wsX6_cousin (va_wsS RX6 112 yX6_isCousin wsX6_isCousin) := goodIn_app (goodIn_of _ (by decide +kernel)) ggX6_cousin_X6_isCousin
set_option maxRecDepth 20000 in
theorem ggX6_cousin_X6_plotsOf : GoodIn wsX6_cousin wsX6_plotsOf := goodIn_r _ [12, 1, 61, 62, 63, 64, 65, 66, 67, 68, 69] (by decide +kernel) (by decide +kernel)
set_option maxRecDepth 20000 in
theorem gX6_cousin_X6_plotsOf : GoodIn wsX6_cousin (wsV RX6 158 RX6 yX6_plotsOf wsX6_plotsOf) := goodIn_app (goodIn_of _ (by decide +kernel)) ggX6_cousin_X6_plotsOf
set_option maxRecDepth 20000 in
theorem ggX6_cousin_X6_share : GoodIn wsX6_cousin wsX6_share := goodIn_r _ [16, 1, 17, 18, 19, 4, 20, 61, 62, 63, 64, 65, 66, 67, 68, 69] (by decide +kernel) (by decide +kernel)
set_option maxRecDepth 20000 in
theorem gX6_cousin_X6_share : GoodIn wsX6_cousin (wsV RX6 37 RX6 yX6_share wsX6_share) := goodIn_app (goodIn_of _ (by decide +kernel)) ggX6_cousin_X6_share
set_option maxRecDepth 20000 in
theorem ggX6_cousin_X6_worthFrom : GoodIn wsX6_cousin wsX6_worthFrom := goodIn_r _ [24, 17, 18, 19, 4, 20, 1, 61, 62, 63, 64, 65, 66, 67, 68, 69] (by decide +kernel) (by decide +kernel)
set_option maxRecDepth 20000 in
theorem gX6_cousin_X6_worthFrom : GoodIn wsX6_cousin (wsV RX6 64 RX6 yX6_worthFrom wsX6_worthFrom) := goodIn_app (goodIn_of _ (by decide +kernel)) ggX6_cousin_X6_worthFrom
set_option maxRecDepth 20000 in
theorem ggX6_cousin_X6_hundredths : GoodIn wsX6_cousin wsX6_hundredths := goodIn_r _ [28, 21, 22, 23, 4, 24, 17, 18, 19, 20, 1, 13, 14, 15, 16, 61, 62, 63, 64, 65, 66, 67, 68, 69] (by decide +kernel) (by decide +kernel)
set_option maxRecDepth 20000 in
theorem gX6_cousin_X6_hundredths : GoodIn wsX6_cousin (wsV RX6 161 RX6 yX6_hundredths wsX6_hundredths) := goodIn_app (goodIn_of _ (by decide +kernel)) ggX6_cousin_X6_hundredths
set_option maxRecDepth 20000 in
theorem ggX6_cousin_X6_grudges : GoodIn wsX6_cousin wsX6_grudges := goodIn_r _ [32, 33, 34, 35, 4, 36, 1, 61, 62, 63, 64, 65, 66, 67, 68, 69] (by decide +kernel) (by decide +kernel)
set_option maxRecDepth 20000 in
theorem gX6_cousin_X6_grudges : GoodIn wsX6_cousin (wsV RX6 53 RX6 yX6_grudges wsX6_grudges) := goodIn_app (goodIn_of _ (by decide +kernel)) ggX6_cousin_X6_grudges
set_option maxRecDepth 20000 in
theorem ggX6_cousin_X6_envies : GoodIn wsX6_cousin wsX6_envies := goodIn_r _ [40, 41, 42, 43, 4, 44, 45, 46, 47, 48, 13, 14, 15, 16, 1, 17, 18, 19, 20, 33, 34, 35, 36, 61, 62, 63, 64, 65, 66, 67, 68, 69] (by decide +kernel) (by decide +kernel)
set_option maxRecDepth 20000 in
theorem gX6_cousin_X6_envies : GoodIn wsX6_cousin (wsV RX6 50 RX6 yX6_envies wsX6_envies) := goodIn_app (goodIn_of _ (by decide +kernel)) ggX6_cousin_X6_envies
set_option maxRecDepth 20000 in
theorem ggX6_cousin_X6_greatestEnvy : GoodIn wsX6_cousin wsX6_greatestEnvy := goodIn_r _ [52, 41, 42, 43, 4, 44, 45, 46, 47, 48, 13, 14, 15, 16, 1, 17, 18, 19, 20, 33, 34, 35, 36, 61, 62, 63, 64, 65, 66, 67, 68, 69] (by decide +kernel) (by decide +kernel)
set_option maxRecDepth 20000 in
theorem gX6_cousin_X6_greatestEnvy : GoodIn wsX6_cousin (wsV RX6 164 RX6 yX6_greatestEnvy wsX6_greatestEnvy) := goodIn_app (goodIn_of _ (by decide +kernel)) ggX6_cousin_X6_greatestEnvy
set_option maxRecDepth 20000 in
theorem ggX6_cousin_X6_placeOf : GoodIn wsX6_cousin wsX6_placeOf := goodIn_r _ [56, 57, 58, 59, 4, 60, 1, 29, 30, 31, 32, 33, 34, 35, 36, 61, 62, 63, 64, 65, 66, 67, 68, 69] (by decide +kernel) (by decide +kernel)
set_option maxRecDepth 20000 in
theorem gX6_cousin_X6_placeOf : GoodIn wsX6_cousin (wsV RX6 61 RX6 yX6_placeOf wsX6_placeOf) := goodIn_app (goodIn_of _ (by decide +kernel)) ggX6_cousin_X6_placeOf
theorem dX6_cousin_0 : decode cX6_cousin 0 = .ok (.iload_n 1, 1) := by decide +kernel
theorem dX6_cousin_1 : decode cX6_cousin 1 = .ok (.invokestatic 112, 3) := by decide +kernel
theorem dX6_cousin_4 : decode cX6_cousin 4 = .ok (.ifCond .ne 5, 3) := by decide +kernel
theorem dX6_cousin_7 : decode cX6_cousin 7 = .ok (.iconst (-1), 1) := by decide +kernel
theorem dX6_cousin_8 : decode cX6_cousin 8 = .ok (.ireturn, 1) := by decide +kernel
theorem dX6_cousin_9 : decode cX6_cousin 9 = .ok (.iload_n 2, 1) := by decide +kernel
theorem dX6_cousin_10 : decode cX6_cousin 10 = .ok (.tableswitch 147 0 12 #[66, 66, 66, 66, 80, 86, 94, 101, 107, 113, 124, 130, 141], 66) := by decide +kernel
theorem dX6_cousin_76 : decode cX6_cousin 76 = .ok (.aload_n 0, 1) := by decide +kernel
theorem dX6_cousin_77 : decode cX6_cousin 77 = .ok (.getfield 7, 3) := by decide +kernel
theorem dX6_cousin_80 : decode cX6_cousin 80 = .ok (.bipush 120, 2) := by decide +kernel
theorem dX6_cousin_82 : decode cX6_cousin 82 = .ok (.iconst 4, 1) := by decide +kernel
theorem dX6_cousin_83 : decode cX6_cousin 83 = .ok (.iload_n 1, 1) := by decide +kernel
theorem dX6_cousin_84 : decode cX6_cousin 84 = .ok (.imul, 1) := by decide +kernel
theorem dX6_cousin_85 : decode cX6_cousin 85 = .ok (.iadd, 1) := by decide +kernel
theorem dX6_cousin_86 : decode cX6_cousin 86 = .ok (.iload_n 2, 1) := by decide +kernel
theorem dX6_cousin_87 : decode cX6_cousin 87 = .ok (.iadd, 1) := by decide +kernel
theorem dX6_cousin_88 : decode cX6_cousin 88 = .ok (.iaload, 1) := by decide +kernel
theorem dX6_cousin_89 : decode cX6_cousin 89 = .ok (.ireturn, 1) := by decide +kernel
theorem dX6_cousin_90 : decode cX6_cousin 90 = .ok (.aload_n 0, 1) := by decide +kernel
theorem dX6_cousin_91 : decode cX6_cousin 91 = .ok (.iload_n 1, 1) := by decide +kernel
theorem dX6_cousin_92 : decode cX6_cousin 92 = .ok (.invokevirtual 158, 3) := by decide +kernel
theorem dX6_cousin_95 : decode cX6_cousin 95 = .ok (.ireturn, 1) := by decide +kernel
theorem dX6_cousin_96 : decode cX6_cousin 96 = .ok (.aload_n 0, 1) := by decide +kernel
theorem dX6_cousin_97 : decode cX6_cousin 97 = .ok (.iconst 0, 1) := by decide +kernel
theorem dX6_cousin_98 : decode cX6_cousin 98 = .ok (.iload_n 1, 1) := by decide +kernel
theorem dX6_cousin_99 : decode cX6_cousin 99 = .ok (.iload_n 1, 1) := by decide +kernel
theorem dX6_cousin_100 : decode cX6_cousin 100 = .ok (.invokevirtual 37, 3) := by decide +kernel
theorem dX6_cousin_103 : decode cX6_cousin 103 = .ok (.ireturn, 1) := by decide +kernel
theorem dX6_cousin_104 : decode cX6_cousin 104 = .ok (.aload_n 0, 1) := by decide +kernel
theorem dX6_cousin_105 : decode cX6_cousin 105 = .ok (.iload_n 1, 1) := by decide +kernel
theorem dX6_cousin_106 : decode cX6_cousin 106 = .ok (.iconst 0, 1) := by decide +kernel
theorem dX6_cousin_107 : decode cX6_cousin 107 = .ok (.invokevirtual 64, 3) := by decide +kernel
theorem dX6_cousin_110 : decode cX6_cousin 110 = .ok (.ireturn, 1) := by decide +kernel
theorem dX6_cousin_111 : decode cX6_cousin 111 = .ok (.aload_n 0, 1) := by decide +kernel
theorem dX6_cousin_112 : decode cX6_cousin 112 = .ok (.iload_n 1, 1) := by decide +kernel
theorem dX6_cousin_113 : decode cX6_cousin 113 = .ok (.invokevirtual 161, 3) := by decide +kernel
theorem dX6_cousin_116 : decode cX6_cousin 116 = .ok (.ireturn, 1) := by decide +kernel
theorem dX6_cousin_117 : decode cX6_cousin 117 = .ok (.aload_n 0, 1) := by decide +kernel
theorem dX6_cousin_118 : decode cX6_cousin 118 = .ok (.iload_n 1, 1) := by decide +kernel
theorem dX6_cousin_119 : decode cX6_cousin 119 = .ok (.invokevirtual 53, 3) := by decide +kernel
theorem dX6_cousin_122 : decode cX6_cousin 122 = .ok (.ireturn, 1) := by decide +kernel
theorem dX6_cousin_123 : decode cX6_cousin 123 = .ok (.aload_n 0, 1) := by decide +kernel
theorem dX6_cousin_124 : decode cX6_cousin 124 = .ok (.iconst 0, 1) := by decide +kernel
theorem dX6_cousin_125 : decode cX6_cousin 125 = .ok (.iconst 1, 1) := by decide +kernel
theorem dX6_cousin_126 : decode cX6_cousin 126 = .ok (.iload_n 1, 1) := by decide +kernel
theorem dX6_cousin_127 : decode cX6_cousin 127 = .ok (.ishl, 1) := by decide +kernel
theorem dX6_cousin_128 : decode cX6_cousin 128 = .ok (.bipush 127, 2) := by decide +kernel
theorem dX6_cousin_130 : decode cX6_cousin 130 = .ok (.invokevirtual 50, 3) := by decide +kernel
theorem dX6_cousin_133 : decode cX6_cousin 133 = .ok (.ireturn, 1) := by decide +kernel
theorem dX6_cousin_134 : decode cX6_cousin 134 = .ok (.aload_n 0, 1) := by decide +kernel
theorem dX6_cousin_135 : decode cX6_cousin 135 = .ok (.iload_n 1, 1) := by decide +kernel
theorem dX6_cousin_136 : decode cX6_cousin 136 = .ok (.invokevirtual 164, 3) := by decide +kernel
theorem dX6_cousin_139 : decode cX6_cousin 139 = .ok (.ireturn, 1) := by decide +kernel
theorem dX6_cousin_140 : decode cX6_cousin 140 = .ok (.aload_n 0, 1) := by decide +kernel
theorem dX6_cousin_141 : decode cX6_cousin 141 = .ok (.iconst 0, 1) := by decide +kernel
theorem dX6_cousin_142 : decode cX6_cousin 142 = .ok (.bipush 127, 2) := by decide +kernel
theorem dX6_cousin_144 : decode cX6_cousin 144 = .ok (.iconst 1, 1) := by decide +kernel
theorem dX6_cousin_145 : decode cX6_cousin 145 = .ok (.iload_n 1, 1) := by decide +kernel
theorem dX6_cousin_146 : decode cX6_cousin 146 = .ok (.ishl, 1) := by decide +kernel
theorem dX6_cousin_147 : decode cX6_cousin 147 = .ok (.invokevirtual 50, 3) := by decide +kernel
theorem dX6_cousin_150 : decode cX6_cousin 150 = .ok (.ireturn, 1) := by decide +kernel
theorem dX6_cousin_151 : decode cX6_cousin 151 = .ok (.aload_n 0, 1) := by decide +kernel
theorem dX6_cousin_152 : decode cX6_cousin 152 = .ok (.iload_n 1, 1) := by decide +kernel
theorem dX6_cousin_153 : decode cX6_cousin 153 = .ok (.invokevirtual 61, 3) := by decide +kernel
theorem dX6_cousin_156 : decode cX6_cousin 156 = .ok (.ireturn, 1) := by decide +kernel
theorem dX6_cousin_157 : decode cX6_cousin 157 = .ok (.bipush (-2), 2) := by decide +kernel
theorem dX6_cousin_159 : decode cX6_cousin 159 = .ok (.ireturn, 1) := by decide +kernel
set_option maxRecDepth 20000 in
theorem ggX6_pair_X6_isCousin : GoodIn wsX6_pair wsX6_isCousin := goodIn_r _ [4, 5, 6, 3, 7] (by decide +kernel) (by decide +kernel)
set_option maxRecDepth 20000 in
theorem gX6_pair_X6_isCousin : GoodIn wsX6_pair (va_wsS RX6 112 yX6_isCousin wsX6_isCousin) := goodIn_app (goodIn_of _ (by decide +kernel)) ggX6_pair_X6_isCousin
set_option maxRecDepth 20000 in
theorem ggX6_pair_X6_in : GoodIn wsX6_pair wsX6_in := goodIn_r _ [7] (by decide +kernel) (by decide +kernel)
set_option maxRecDepth 20000 in
theorem gX6_pair_X6_in : GoodIn wsX6_pair (va_wsS RX6 25 yX6_in wsX6_in) := goodIn_app (goodIn_of _ (by decide +kernel)) ggX6_pair_X6_in
set_option maxRecDepth 20000 in
theorem ggX6_pair_X6_grudgeOf : GoodIn wsX6_pair wsX6_grudgeOf := goodIn_r _ [11, 12, 33, 34, 35, 36, 37, 38, 39, 40, 41] (by decide +kernel) (by decide +kernel)
set_option maxRecDepth 20000 in
theorem gX6_pair_X6_grudgeOf : GoodIn wsX6_pair (wsV RX6 41 RX6 yX6_grudgeOf wsX6_grudgeOf) := goodIn_app (goodIn_of _ (by decide +kernel)) ggX6_pair_X6_grudgeOf
set_option maxRecDepth 20000 in
theorem ggX6_pair_X6_share : GoodIn wsX6_pair wsX6_share := goodIn_r _ [16, 12, 17, 18, 19, 3, 20, 33, 34, 35, 36, 37, 38, 39, 40, 41] (by decide +kernel) (by decide +kernel)
set_option maxRecDepth 20000 in
theorem gX6_pair_X6_share : GoodIn wsX6_pair (wsV RX6 37 RX6 yX6_share wsX6_share) := goodIn_app (goodIn_of _ (by decide +kernel)) ggX6_pair_X6_share
set_option maxRecDepth 20000 in
theorem ggX6_pair_X6_seems : GoodIn wsX6_pair wsX6_seems := goodIn_r _ [24, 13, 14, 15, 3, 16, 12, 17, 18, 19, 20, 8, 9, 10, 11, 33, 34, 35, 36, 37, 38, 39, 40, 41] (by decide +kernel) (by decide +kernel)
set_option maxRecDepth 20000 in
theorem gX6_pair_X6_seems : GoodIn wsX6_pair (wsV RX6 44 RX6 yX6_seems wsX6_seems) := goodIn_app (goodIn_of _ (by decide +kernel)) ggX6_pair_X6_seems
set_option maxRecDepth 20000 in
theorem ggX6_pair_X6_envy : GoodIn wsX6_pair wsX6_envy := goodIn_r _ [28, 21, 22, 23, 3, 24, 13, 14, 15, 16, 12, 17, 18, 19, 20, 8, 9, 10, 11, 33, 34, 35, 36, 37, 38, 39, 40, 41] (by decide +kernel) (by decide +kernel)
set_option maxRecDepth 20000 in
theorem gX6_pair_X6_envy : GoodIn wsX6_pair (wsV RX6 47 RX6 yX6_envy wsX6_envy) := goodIn_app (goodIn_of _ (by decide +kernel)) ggX6_pair_X6_envy
set_option maxRecDepth 20000 in
theorem ggX6_pair_X6_reason : GoodIn wsX6_pair wsX6_reason := goodIn_r _ [32, 12, 8, 9, 10, 3, 11, 13, 14, 15, 16, 17, 18, 19, 20, 33, 34, 35, 36, 37, 38, 39, 40, 41] (by decide +kernel) (by decide +kernel)
set_option maxRecDepth 20000 in
theorem gX6_pair_X6_reason : GoodIn wsX6_pair (wsV RX6 86 RX6 yX6_reason wsX6_reason) := goodIn_app (goodIn_of _ (by decide +kernel)) ggX6_pair_X6_reason
theorem dX6_pair_0 : decode cX6_pair 0 = .ok (.iload_n 1, 1) := by decide +kernel
theorem dX6_pair_1 : decode cX6_pair 1 = .ok (.invokestatic 112, 3) := by decide +kernel
theorem dX6_pair_4 : decode cX6_pair 4 = .ok (.ifCond .eq 10, 3) := by decide +kernel
theorem dX6_pair_7 : decode cX6_pair 7 = .ok (.iload_n 2, 1) := by decide +kernel
theorem dX6_pair_8 : decode cX6_pair 8 = .ok (.invokestatic 112, 3) := by decide +kernel
theorem dX6_pair_11 : decode cX6_pair 11 = .ok (.ifCond .ne 5, 3) := by decide +kernel
theorem dX6_pair_14 : decode cX6_pair 14 = .ok (.iconst (-1), 1) := by decide +kernel
theorem dX6_pair_15 : decode cX6_pair 15 = .ok (.ireturn, 1) := by decide +kernel
theorem dX6_pair_16 : decode cX6_pair 16 = .ok (.iload_n 1, 1) := by decide +kernel
theorem dX6_pair_17 : decode cX6_pair 17 = .ok (.iload_n 2, 1) := by decide +kernel
theorem dX6_pair_18 : decode cX6_pair 18 = .ok (.if_icmp .eq 12, 3) := by decide +kernel
theorem dX6_pair_21 : decode cX6_pair 21 = .ok (.iload_n 3, 1) := by decide +kernel
theorem dX6_pair_22 : decode cX6_pair 22 = .ok (.iconst 0, 1) := by decide +kernel
theorem dX6_pair_23 : decode cX6_pair 23 = .ok (.iconst 4, 1) := by decide +kernel
theorem dX6_pair_24 : decode cX6_pair 24 = .ok (.invokestatic 25, 3) := by decide +kernel
theorem dX6_pair_27 : decode cX6_pair 27 = .ok (.ifCond .ne 6, 3) := by decide +kernel
theorem dX6_pair_30 : decode cX6_pair 30 = .ok (.bipush (-2), 2) := by decide +kernel
theorem dX6_pair_32 : decode cX6_pair 32 = .ok (.ireturn, 1) := by decide +kernel
theorem dX6_pair_33 : decode cX6_pair 33 = .ok (.iload_n 3, 1) := by decide +kernel
theorem dX6_pair_34 : decode cX6_pair 34 = .ok (.tableswitch 61 0 3 #[30, 37, 45, 53], 30) := by decide +kernel
theorem dX6_pair_64 : decode cX6_pair 64 = .ok (.aload_n 0, 1) := by decide +kernel
theorem dX6_pair_65 : decode cX6_pair 65 = .ok (.iload_n 1, 1) := by decide +kernel
theorem dX6_pair_66 : decode cX6_pair 66 = .ok (.iload_n 2, 1) := by decide +kernel
theorem dX6_pair_67 : decode cX6_pair 67 = .ok (.invokevirtual 41, 3) := by decide +kernel
theorem dX6_pair_70 : decode cX6_pair 70 = .ok (.ireturn, 1) := by decide +kernel
theorem dX6_pair_71 : decode cX6_pair 71 = .ok (.aload_n 0, 1) := by decide +kernel
theorem dX6_pair_72 : decode cX6_pair 72 = .ok (.iconst 0, 1) := by decide +kernel
theorem dX6_pair_73 : decode cX6_pair 73 = .ok (.iload_n 1, 1) := by decide +kernel
theorem dX6_pair_74 : decode cX6_pair 74 = .ok (.iload_n 2, 1) := by decide +kernel
theorem dX6_pair_75 : decode cX6_pair 75 = .ok (.invokevirtual 37, 3) := by decide +kernel
theorem dX6_pair_78 : decode cX6_pair 78 = .ok (.ireturn, 1) := by decide +kernel
theorem dX6_pair_79 : decode cX6_pair 79 = .ok (.aload_n 0, 1) := by decide +kernel
theorem dX6_pair_80 : decode cX6_pair 80 = .ok (.iconst 0, 1) := by decide +kernel
theorem dX6_pair_81 : decode cX6_pair 81 = .ok (.iload_n 1, 1) := by decide +kernel
theorem dX6_pair_82 : decode cX6_pair 82 = .ok (.iload_n 2, 1) := by decide +kernel
theorem dX6_pair_83 : decode cX6_pair 83 = .ok (.invokevirtual 44, 3) := by decide +kernel
theorem dX6_pair_86 : decode cX6_pair 86 = .ok (.ireturn, 1) := by decide +kernel
theorem dX6_pair_87 : decode cX6_pair 87 = .ok (.aload_n 0, 1) := by decide +kernel
theorem dX6_pair_88 : decode cX6_pair 88 = .ok (.iconst 0, 1) := by decide +kernel
theorem dX6_pair_89 : decode cX6_pair 89 = .ok (.iload_n 1, 1) := by decide +kernel
theorem dX6_pair_90 : decode cX6_pair 90 = .ok (.iload_n 2, 1) := by decide +kernel
theorem dX6_pair_91 : decode cX6_pair 91 = .ok (.invokevirtual 47, 3) := by decide +kernel
theorem dX6_pair_94 : decode cX6_pair 94 = .ok (.ireturn, 1) := by decide +kernel
theorem dX6_pair_95 : decode cX6_pair 95 = .ok (.aload_n 0, 1) := by decide +kernel
theorem dX6_pair_96 : decode cX6_pair 96 = .ok (.iconst 0, 1) := by decide +kernel
theorem dX6_pair_97 : decode cX6_pair 97 = .ok (.iload_n 1, 1) := by decide +kernel
theorem dX6_pair_98 : decode cX6_pair 98 = .ok (.iload_n 2, 1) := by decide +kernel
theorem dX6_pair_99 : decode cX6_pair 99 = .ok (.invokevirtual 86, 3) := by decide +kernel
theorem dX6_pair_102 : decode cX6_pair 102 = .ok (.ireturn, 1) := by decide +kernel
set_option maxRecDepth 20000 in
theorem ggX6_content_X6_greatestEnvy : GoodIn wsX6_content wsX6_greatestEnvy := goodIn_r _ [5, 6, 7, 8, 4, 9, 10, 11, 12, 13, 14, 15, 16, 17, 18, 19, 20, 21, 22, 23, 24, 25, 26, 27, 28, 29, 30, 31, 32, 33, 34, 35] (by decide +kernel) (by decide +kernel)
set_option maxRecDepth 20000 in
theorem gX6_content_X6_greatestEnvy : GoodIn wsX6_content (wsV RX6 164 RX6 yX6_greatestEnvy wsX6_greatestEnvy) := goodIn_app (goodIn_of _ (by decide +kernel)) ggX6_content_X6_greatestEnvy
theorem dX6_content_0 : decode cX6_content 0 = .ok (.iconst 0, 1) := by decide +kernel
theorem dX6_content_1 : decode cX6_content 1 = .ok (.istore_n 1, 1) := by decide +kernel
theorem dX6_content_2 : decode cX6_content 2 = .ok (.iconst 0, 1) := by decide +kernel
theorem dX6_content_3 : decode cX6_content 3 = .ok (.istore_n 2, 1) := by decide +kernel
theorem dX6_content_4 : decode cX6_content 4 = .ok (.iload_n 2, 1) := by decide +kernel
theorem dX6_content_5 : decode cX6_content 5 = .ok (.bipush 7, 2) := by decide +kernel
theorem dX6_content_7 : decode cX6_content 7 = .ok (.if_icmp .ge 25, 3) := by decide +kernel
theorem dX6_content_10 : decode cX6_content 10 = .ok (.iload_n 1, 1) := by decide +kernel
theorem dX6_content_11 : decode cX6_content 11 = .ok (.aload_n 0, 1) := by decide +kernel
theorem dX6_content_12 : decode cX6_content 12 = .ok (.iload_n 2, 1) := by decide +kernel
theorem dX6_content_13 : decode cX6_content 13 = .ok (.invokevirtual 164, 3) := by decide +kernel
theorem dX6_content_16 : decode cX6_content 16 = .ok (.ifCond .ne 7, 3) := by decide +kernel
theorem dX6_content_19 : decode cX6_content 19 = .ok (.iconst 1, 1) := by decide +kernel
theorem dX6_content_20 : decode cX6_content 20 = .ok (.goto 4, 3) := by decide +kernel
theorem dX6_content_23 : decode cX6_content 23 = .ok (.iconst 0, 1) := by decide +kernel
theorem dX6_content_24 : decode cX6_content 24 = .ok (.iadd, 1) := by decide +kernel
theorem dX6_content_25 : decode cX6_content 25 = .ok (.istore_n 1, 1) := by decide +kernel
theorem dX6_content_26 : decode cX6_content 26 = .ok (.iinc 2 1, 3) := by decide +kernel
theorem dX6_content_29 : decode cX6_content 29 = .ok (.goto (-25), 3) := by decide +kernel
theorem dX6_content_32 : decode cX6_content 32 = .ok (.iload_n 1, 1) := by decide +kernel
theorem dX6_content_33 : decode cX6_content 33 = .ok (.ireturn, 1) := by decide +kernel
set_option maxRecDepth 20000 in
theorem ggX6_traders_X6_reason : GoodIn wsX6_traders wsX6_reason := goodIn_r _ [5, 6, 7, 8, 9, 4, 10, 11, 12, 13, 14, 15, 16, 17, 18, 19, 20, 21, 22, 23, 24, 25, 26, 27] (by decide +kernel) (by decide +kernel)
set_option maxRecDepth 20000 in
theorem gX6_traders_X6_reason : GoodIn wsX6_traders (wsV RX6 86 RX6 yX6_reason wsX6_reason) := goodIn_app (goodIn_of _ (by decide +kernel)) ggX6_traders_X6_reason
theorem dX6_traders_0 : decode cX6_traders 0 = .ok (.iconst 0, 1) := by decide +kernel
theorem dX6_traders_1 : decode cX6_traders 1 = .ok (.istore_n 1, 1) := by decide +kernel
theorem dX6_traders_2 : decode cX6_traders 2 = .ok (.iconst 0, 1) := by decide +kernel
theorem dX6_traders_3 : decode cX6_traders 3 = .ok (.istore_n 2, 1) := by decide +kernel
theorem dX6_traders_4 : decode cX6_traders 4 = .ok (.iload_n 2, 1) := by decide +kernel
theorem dX6_traders_5 : decode cX6_traders 5 = .ok (.bipush 49, 2) := by decide +kernel
theorem dX6_traders_7 : decode cX6_traders 7 = .ok (.if_icmp .ge 44, 3) := by decide +kernel
theorem dX6_traders_10 : decode cX6_traders 10 = .ok (.iload_n 1, 1) := by decide +kernel
theorem dX6_traders_11 : decode cX6_traders 11 = .ok (.iload_n 2, 1) := by decide +kernel
theorem dX6_traders_12 : decode cX6_traders 12 = .ok (.bipush 7, 2) := by decide +kernel
theorem dX6_traders_14 : decode cX6_traders 14 = .ok (.idiv, 1) := by decide +kernel
theorem dX6_traders_15 : decode cX6_traders 15 = .ok (.iload_n 2, 1) := by decide +kernel
theorem dX6_traders_16 : decode cX6_traders 16 = .ok (.bipush 7, 2) := by decide +kernel
theorem dX6_traders_18 : decode cX6_traders 18 = .ok (.irem, 1) := by decide +kernel
theorem dX6_traders_19 : decode cX6_traders 19 = .ok (.if_icmp .ge 23, 3) := by decide +kernel
theorem dX6_traders_22 : decode cX6_traders 22 = .ok (.aload_n 0, 1) := by decide +kernel
theorem dX6_traders_23 : decode cX6_traders 23 = .ok (.iconst 0, 1) := by decide +kernel
theorem dX6_traders_24 : decode cX6_traders 24 = .ok (.iload_n 2, 1) := by decide +kernel
theorem dX6_traders_25 : decode cX6_traders 25 = .ok (.bipush 7, 2) := by decide +kernel
theorem dX6_traders_27 : decode cX6_traders 27 = .ok (.idiv, 1) := by decide +kernel
theorem dX6_traders_28 : decode cX6_traders 28 = .ok (.iload_n 2, 1) := by decide +kernel
theorem dX6_traders_29 : decode cX6_traders 29 = .ok (.bipush 7, 2) := by decide +kernel
theorem dX6_traders_31 : decode cX6_traders 31 = .ok (.irem, 1) := by decide +kernel
theorem dX6_traders_32 : decode cX6_traders 32 = .ok (.invokevirtual 86, 3) := by decide +kernel
theorem dX6_traders_35 : decode cX6_traders 35 = .ok (.ifCond .ne 7, 3) := by decide +kernel
theorem dX6_traders_38 : decode cX6_traders 38 = .ok (.iconst 1, 1) := by decide +kernel
theorem dX6_traders_39 : decode cX6_traders 39 = .ok (.goto 4, 3) := by decide +kernel
theorem dX6_traders_42 : decode cX6_traders 42 = .ok (.iconst 0, 1) := by decide +kernel
theorem dX6_traders_43 : decode cX6_traders 43 = .ok (.iadd, 1) := by decide +kernel
theorem dX6_traders_44 : decode cX6_traders 44 = .ok (.istore_n 1, 1) := by decide +kernel
theorem dX6_traders_45 : decode cX6_traders 45 = .ok (.iinc 2 1, 3) := by decide +kernel
theorem dX6_traders_48 : decode cX6_traders 48 = .ok (.goto (-44), 3) := by decide +kernel
theorem dX6_traders_51 : decode cX6_traders 51 = .ok (.iload_n 1, 1) := by decide +kernel
theorem dX6_traders_52 : decode cX6_traders 52 = .ok (.ireturn, 1) := by decide +kernel
set_option maxRecDepth 20000 in
theorem ggX6_total_X6_plotsOf : GoodIn wsX6_total wsX6_plotsOf := goodIn_r _ [8, 1, 53, 54, 55, 56, 57, 58, 59, 60, 61] (by decide +kernel) (by decide +kernel)
set_option maxRecDepth 20000 in
theorem gX6_total_X6_plotsOf : GoodIn wsX6_total (wsV RX6 158 RX6 yX6_plotsOf wsX6_plotsOf) := goodIn_app (goodIn_of _ (by decide +kernel)) ggX6_total_X6_plotsOf
set_option maxRecDepth 20000 in
theorem ggX6_total_X6_allEnvies : GoodIn wsX6_total wsX6_allEnvies := goodIn_r _ [12, 13, 14, 15, 7, 16, 17, 18, 19, 20, 21, 22, 23, 24, 25, 26, 27, 28, 1, 29, 30, 31, 32, 33, 34, 35, 36, 53, 54, 55, 56, 57, 58, 59, 60, 61] (by decide +kernel) (by decide +kernel)
set_option maxRecDepth 20000 in
theorem gX6_total_X6_allEnvies : GoodIn wsX6_total (wsV RX6 93 RX6 yX6_allEnvies wsX6_allEnvies) := goodIn_app (goodIn_of _ (by decide +kernel)) ggX6_total_X6_allEnvies
set_option maxRecDepth 20000 in
theorem ggX6_total_X6_content : GoodIn wsX6_total wsX6_content := goodIn_r _ [40, 41, 42, 43, 7, 44, 17, 18, 19, 20, 21, 22, 23, 24, 25, 26, 27, 28, 1, 29, 30, 31, 32, 33, 34, 35, 36, 53, 54, 55, 56, 57, 58, 59, 60, 61] (by decide +kernel) (by decide +kernel)
set_option maxRecDepth 20000 in
theorem gX6_total_X6_content : GoodIn wsX6_total (wsV RX6 167 RX6 yX6_content wsX6_content) := goodIn_app (goodIn_of _ (by decide +kernel)) ggX6_total_X6_content
set_option maxRecDepth 20000 in
theorem ggX6_total_X6_traders : GoodIn wsX6_total wsX6_traders := goodIn_r _ [48, 49, 50, 51, 7, 52, 1, 33, 34, 35, 36, 25, 26, 27, 28, 29, 30, 31, 32, 53, 54, 55, 56, 57, 58, 59, 60, 61] (by decide +kernel) (by decide +kernel)
set_option maxRecDepth 20000 in
theorem gX6_total_X6_traders : GoodIn wsX6_total (wsV RX6 170 RX6 yX6_traders wsX6_traders) := goodIn_app (goodIn_of _ (by decide +kernel)) ggX6_total_X6_traders
theorem dX6_total_0 : decode cX6_total 0 = .ok (.iload_n 1, 1) := by decide +kernel
theorem dX6_total_1 : decode cX6_total 1 = .ok (.tableswitch 117 0 10 #[59, 59, 70, 77, 83, 88, 93, 93, 93, 107, 112], 59) := by decide +kernel
theorem dX6_total_60 : decode cX6_total 60 = .ok (.aload_n 0, 1) := by decide +kernel
theorem dX6_total_61 : decode cX6_total 61 = .ok (.getfield 7, 3) := by decide +kernel
theorem dX6_total_64 : decode cX6_total 64 = .ok (.sipush 197, 3) := by decide +kernel
theorem dX6_total_67 : decode cX6_total 67 = .ok (.iload_n 1, 1) := by decide +kernel
theorem dX6_total_68 : decode cX6_total 68 = .ok (.iadd, 1) := by decide +kernel
theorem dX6_total_69 : decode cX6_total 69 = .ok (.iaload, 1) := by decide +kernel
theorem dX6_total_70 : decode cX6_total 70 = .ok (.ireturn, 1) := by decide +kernel
theorem dX6_total_71 : decode cX6_total 71 = .ok (.aload_n 0, 1) := by decide +kernel
theorem dX6_total_72 : decode cX6_total 72 = .ok (.bipush 7, 2) := by decide +kernel
theorem dX6_total_74 : decode cX6_total 74 = .ok (.invokevirtual 158, 3) := by decide +kernel
theorem dX6_total_77 : decode cX6_total 77 = .ok (.ireturn, 1) := by decide +kernel
theorem dX6_total_78 : decode cX6_total 78 = .ok (.aload_n 0, 1) := by decide +kernel
theorem dX6_total_79 : decode cX6_total 79 = .ok (.iconst 0, 1) := by decide +kernel
theorem dX6_total_80 : decode cX6_total 80 = .ok (.invokevirtual 93, 3) := by decide +kernel
theorem dX6_total_83 : decode cX6_total 83 = .ok (.ireturn, 1) := by decide +kernel
theorem dX6_total_84 : decode cX6_total 84 = .ok (.aload_n 0, 1) := by decide +kernel
theorem dX6_total_85 : decode cX6_total 85 = .ok (.invokevirtual 167, 3) := by decide +kernel
theorem dX6_total_88 : decode cX6_total 88 = .ok (.ireturn, 1) := by decide +kernel
theorem dX6_total_89 : decode cX6_total 89 = .ok (.aload_n 0, 1) := by decide +kernel
theorem dX6_total_90 : decode cX6_total 90 = .ok (.invokevirtual 170, 3) := by decide +kernel
theorem dX6_total_93 : decode cX6_total 93 = .ok (.ireturn, 1) := by decide +kernel
theorem dX6_total_94 : decode cX6_total 94 = .ok (.aload_n 0, 1) := by decide +kernel
theorem dX6_total_95 : decode cX6_total 95 = .ok (.getfield 7, 3) := by decide +kernel
theorem dX6_total_98 : decode cX6_total 98 = .ok (.sipush 199, 3) := by decide +kernel
theorem dX6_total_101 : decode cX6_total 101 = .ok (.iload_n 1, 1) := by decide +kernel
theorem dX6_total_102 : decode cX6_total 102 = .ok (.iadd, 1) := by decide +kernel
theorem dX6_total_103 : decode cX6_total 103 = .ok (.bipush 6, 2) := by decide +kernel
theorem dX6_total_105 : decode cX6_total 105 = .ok (.isub, 1) := by decide +kernel
theorem dX6_total_106 : decode cX6_total 106 = .ok (.iaload, 1) := by decide +kernel
theorem dX6_total_107 : decode cX6_total 107 = .ok (.ireturn, 1) := by decide +kernel
theorem dX6_total_108 : decode cX6_total 108 = .ok (.aload_n 0, 1) := by decide +kernel
theorem dX6_total_109 : decode cX6_total 109 = .ok (.getfield 29, 3) := by decide +kernel
theorem dX6_total_112 : decode cX6_total 112 = .ok (.ireturn, 1) := by decide +kernel
theorem dX6_total_113 : decode cX6_total 113 = .ok (.aload_n 0, 1) := by decide +kernel
theorem dX6_total_114 : decode cX6_total 114 = .ok (.getfield 121, 3) := by decide +kernel
theorem dX6_total_117 : decode cX6_total 117 = .ok (.ireturn, 1) := by decide +kernel
theorem dX6_total_118 : decode cX6_total 118 = .ok (.bipush (-2), 2) := by decide +kernel
theorem dX6_total_120 : decode cX6_total 120 = .ok (.ireturn, 1) := by decide +kernel
set_option maxRecDepth 20000 in
theorem ggX6_ifDivided_X6_in : GoodIn wsX6_ifDivided wsX6_in := goodIn_r _ [6] (by decide +kernel) (by decide +kernel)
set_option maxRecDepth 20000 in
theorem gX6_ifDivided_X6_in : GoodIn wsX6_ifDivided (va_wsS RX6 25 yX6_in wsX6_in) := goodIn_app (goodIn_of _ (by decide +kernel)) ggX6_ifDivided_X6_in
set_option maxRecDepth 20000 in
theorem ggX6_ifDivided_X6_copies : GoodIn wsX6_ifDivided wsX6_copies := goodIn_r _ [10, 1, 79, 80, 81, 82, 83, 84, 85, 86, 87] (by decide +kernel) (by decide +kernel)
set_option maxRecDepth 20000 in
theorem gX6_ifDivided_X6_copies : GoodIn wsX6_ifDivided (wsV RX6 173 RX6 yX6_copies wsX6_copies) := goodIn_app (goodIn_of _ (by decide +kernel)) ggX6_ifDivided_X6_copies
set_option maxRecDepth 20000 in
theorem ggX6_ifDivided_X6_divides : GoodIn wsX6_ifDivided wsX6_divides := goodIn_r _ [14, 1, 2, 15, 16, 17, 5, 18, 19, 20, 21, 22, 23, 24, 25, 26, 27, 28, 29, 30, 31, 32, 33, 34, 35, 36, 37, 38, 39, 40, 41, 42, 43, 44, 45, 46, 47, 48, 49, 50, 51, 52, 53, 54, 55, 56, 57, 58, 79, 80, 81, 82, 83, 84, 85, 86, 87] (by decide +kernel) (by decide +kernel)
set_option maxRecDepth 20000 in
theorem gX6_ifDivided_X6_divides : GoodIn wsX6_ifDivided (wsV RX6 115 RX6 yX6_divides wsX6_divides) := goodIn_app (goodIn_of _ (by decide +kernel)) ggX6_ifDivided_X6_divides
set_option maxRecDepth 20000 in
theorem ggX6_ifDivided_X6_allEnvies : GoodIn wsX6_ifDivided wsX6_allEnvies := goodIn_r _ [62, 63, 64, 65, 5, 66, 67, 68, 69, 70, 71, 72, 73, 74, 75, 76, 77, 78, 1, 51, 52, 53, 54, 32, 33, 34, 35, 79, 80, 81, 82, 83, 84, 85, 86, 87] (by decide +kernel) (by decide +kernel)
set_option maxRecDepth 20000 in
theorem gX6_ifDivided_X6_allEnvies : GoodIn wsX6_ifDivided (wsV RX6 93 RX6 yX6_allEnvies wsX6_allEnvies) := goodIn_app (goodIn_of _ (by decide +kernel)) ggX6_ifDivided_X6_allEnvies
theorem dX6_ifDivided_0 : decode cX6_ifDivided 0 = .ok (.iload_n 1, 1) := by decide +kernel
theorem dX6_ifDivided_1 : decode cX6_ifDivided 1 = .ok (.iconst 1, 1) := by decide +kernel
theorem dX6_ifDivided_2 : decode cX6_ifDivided 2 = .ok (.bipush 127, 2) := by decide +kernel
theorem dX6_ifDivided_4 : decode cX6_ifDivided 4 = .ok (.invokestatic 25, 3) := by decide +kernel
theorem dX6_ifDivided_7 : decode cX6_ifDivided 7 = .ok (.ifCond .eq 12, 3) := by decide +kernel
theorem dX6_ifDivided_10 : decode cX6_ifDivided 10 = .ok (.iload_n 2, 1) := by decide +kernel
theorem dX6_ifDivided_11 : decode cX6_ifDivided 11 = .ok (.iconst 0, 1) := by decide +kernel
theorem dX6_ifDivided_12 : decode cX6_ifDivided 12 = .ok (.iconst 4, 1) := by decide +kernel
theorem dX6_ifDivided_13 : decode cX6_ifDivided 13 = .ok (.invokestatic 25, 3) := by decide +kernel
theorem dX6_ifDivided_16 : decode cX6_ifDivided 16 = .ok (.ifCond .ne 6, 3) := by decide +kernel
theorem dX6_ifDivided_19 : decode cX6_ifDivided 19 = .ok (.bipush (-2), 2) := by decide +kernel
theorem dX6_ifDivided_21 : decode cX6_ifDivided 21 = .ok (.ireturn, 1) := by decide +kernel
theorem dX6_ifDivided_22 : decode cX6_ifDivided 22 = .ok (.aload_n 0, 1) := by decide +kernel
theorem dX6_ifDivided_23 : decode cX6_ifDivided 23 = .ok (.invokevirtual 173, 3) := by decide +kernel
theorem dX6_ifDivided_26 : decode cX6_ifDivided 26 = .ok (.aload_n 0, 1) := by decide +kernel
theorem dX6_ifDivided_27 : decode cX6_ifDivided 27 = .ok (.sipush 202, 3) := by decide +kernel
theorem dX6_ifDivided_30 : decode cX6_ifDivided 30 = .ok (.iload_n 1, 1) := by decide +kernel
theorem dX6_ifDivided_31 : decode cX6_ifDivided 31 = .ok (.invokevirtual 115, 3) := by decide +kernel
theorem dX6_ifDivided_34 : decode cX6_ifDivided 34 = .ok (.istore_n 3, 1) := by decide +kernel
theorem dX6_ifDivided_35 : decode cX6_ifDivided 35 = .ok (.iload_n 2, 1) := by decide +kernel
theorem dX6_ifDivided_36 : decode cX6_ifDivided 36 = .ok (.tableswitch 69 0 3 #[32, 34, 52, 60], 32) := by decide +kernel
theorem dX6_ifDivided_68 : decode cX6_ifDivided 68 = .ok (.iload_n 3, 1) := by decide +kernel
theorem dX6_ifDivided_69 : decode cX6_ifDivided 69 = .ok (.ireturn, 1) := by decide +kernel
theorem dX6_ifDivided_70 : decode cX6_ifDivided 70 = .ok (.aload_n 0, 1) := by decide +kernel
theorem dX6_ifDivided_71 : decode cX6_ifDivided 71 = .ok (.getfield 7, 3) := by decide +kernel
theorem dX6_ifDivided_74 : decode cX6_ifDivided 74 = .ok (.sipush 402, 3) := by decide +kernel
theorem dX6_ifDivided_77 : decode cX6_ifDivided 77 = .ok (.iaload, 1) := by decide +kernel
theorem dX6_ifDivided_78 : decode cX6_ifDivided 78 = .ok (.aload_n 0, 1) := by decide +kernel
theorem dX6_ifDivided_79 : decode cX6_ifDivided 79 = .ok (.getfield 7, 3) := by decide +kernel
theorem dX6_ifDivided_82 : decode cX6_ifDivided 82 = .ok (.sipush 200, 3) := by decide +kernel
theorem dX6_ifDivided_85 : decode cX6_ifDivided 85 = .ok (.iaload, 1) := by decide +kernel
theorem dX6_ifDivided_86 : decode cX6_ifDivided 86 = .ok (.isub, 1) := by decide +kernel
theorem dX6_ifDivided_87 : decode cX6_ifDivided 87 = .ok (.ireturn, 1) := by decide +kernel
theorem dX6_ifDivided_88 : decode cX6_ifDivided 88 = .ok (.aload_n 0, 1) := by decide +kernel
theorem dX6_ifDivided_89 : decode cX6_ifDivided 89 = .ok (.sipush 202, 3) := by decide +kernel
theorem dX6_ifDivided_92 : decode cX6_ifDivided 92 = .ok (.invokevirtual 93, 3) := by decide +kernel
theorem dX6_ifDivided_95 : decode cX6_ifDivided 95 = .ok (.ireturn, 1) := by decide +kernel
theorem dX6_ifDivided_96 : decode cX6_ifDivided 96 = .ok (.aload_n 0, 1) := by decide +kernel
theorem dX6_ifDivided_97 : decode cX6_ifDivided 97 = .ok (.getfield 7, 3) := by decide +kernel
theorem dX6_ifDivided_100 : decode cX6_ifDivided 100 = .ok (.sipush 298, 3) := by decide +kernel
theorem dX6_ifDivided_103 : decode cX6_ifDivided 103 = .ok (.iaload, 1) := by decide +kernel
theorem dX6_ifDivided_104 : decode cX6_ifDivided 104 = .ok (.ireturn, 1) := by decide +kernel
theorem dX6_ifDivided_105 : decode cX6_ifDivided 105 = .ok (.aload_n 0, 1) := by decide +kernel
theorem dX6_ifDivided_106 : decode cX6_ifDivided 106 = .ok (.getfield 83, 3) := by decide +kernel
theorem dX6_ifDivided_109 : decode cX6_ifDivided 109 = .ok (.ireturn, 1) := by decide +kernel
set_option maxRecDepth 20000 in
theorem ggX6_bestTrade_X6_in : GoodIn wsX6_bestTrade wsX6_in := goodIn_r _ [4] (by decide +kernel) (by decide +kernel)
set_option maxRecDepth 20000 in
theorem gX6_bestTrade_X6_in : GoodIn wsX6_bestTrade (va_wsS RX6 25 yX6_in wsX6_in) := goodIn_app (goodIn_of _ (by decide +kernel)) ggX6_bestTrade_X6_in
set_option maxRecDepth 20000 in
theorem ggX6_bestTrade_X6_best : GoodIn wsX6_bestTrade wsX6_best := goodIn_r _ [8, 9, 10, 11, 3, 12, 13, 14, 15, 16, 17, 18, 19, 20, 21, 22, 23, 24, 25, 26, 27, 28, 29, 30, 31, 32, 33, 34, 35, 36, 37, 38, 39, 40, 41, 42, 43, 44, 45, 50, 51, 52, 53, 54, 55, 56, 57, 58] (by decide +kernel) (by decide +kernel)
set_option maxRecDepth 20000 in
theorem gX6_bestTrade_X6_best : GoodIn wsX6_bestTrade (wsV RX6 96 RX6 yX6_best wsX6_best) := goodIn_app (goodIn_of _ (by decide +kernel)) ggX6_bestTrade_X6_best
set_option maxRecDepth 20000 in
theorem ggX6_bestTrade_X6_copies : GoodIn wsX6_bestTrade wsX6_copies := goodIn_r _ [49, 13, 50, 51, 52, 53, 54, 55, 56, 57, 58] (by decide +kernel) (by decide +kernel)
set_option maxRecDepth 20000 in
theorem gX6_bestTrade_X6_copies : GoodIn wsX6_bestTrade (wsV RX6 173 RX6 yX6_copies wsX6_copies) := goodIn_app (goodIn_of _ (by decide +kernel)) ggX6_bestTrade_X6_copies
set_option maxRecDepth 20000 in
theorem ggX6_bestTrade_X6_trades : GoodIn wsX6_bestTrade wsX6_trades := goodIn_r _ [29, 13, 50, 51, 52, 53, 54, 55, 56, 57, 58] (by decide +kernel) (by decide +kernel)
set_option maxRecDepth 20000 in
theorem gX6_bestTrade_X6_trades : GoodIn wsX6_bestTrade (wsV RX6 89 RX6 yX6_trades wsX6_trades) := goodIn_app (goodIn_of _ (by decide +kernel)) ggX6_bestTrade_X6_trades
set_option maxRecDepth 20000 in
theorem ggX6_bestTrade_X6_allEnvies : GoodIn wsX6_bestTrade wsX6_allEnvies := goodIn_r _ [33, 34, 35, 36, 3, 37, 38, 39, 40, 41, 42, 43, 44, 45, 18, 19, 20, 21, 13, 22, 23, 24, 25, 14, 15, 16, 17, 50, 51, 52, 53, 54, 55, 56, 57, 58] (by decide +kernel) (by decide +kernel)
set_option maxRecDepth 20000 in
theorem gX6_bestTrade_X6_allEnvies : GoodIn wsX6_bestTrade (wsV RX6 93 RX6 yX6_allEnvies wsX6_allEnvies) := goodIn_app (goodIn_of _ (by decide +kernel)) ggX6_bestTrade_X6_allEnvies
theorem dX6_bestTrade_0 : decode cX6_bestTrade 0 = .ok (.iload_n 1, 1) := by decide +kernel
theorem dX6_bestTrade_1 : decode cX6_bestTrade 1 = .ok (.iconst 0, 1) := by decide +kernel
theorem dX6_bestTrade_2 : decode cX6_bestTrade 2 = .ok (.iconst 1, 1) := by decide +kernel
theorem dX6_bestTrade_3 : decode cX6_bestTrade 3 = .ok (.invokestatic 25, 3) := by decide +kernel
theorem dX6_bestTrade_6 : decode cX6_bestTrade 6 = .ok (.ifCond .ne 6, 3) := by decide +kernel
theorem dX6_bestTrade_9 : decode cX6_bestTrade 9 = .ok (.bipush (-2), 2) := by decide +kernel
theorem dX6_bestTrade_11 : decode cX6_bestTrade 11 = .ok (.ireturn, 1) := by decide +kernel
theorem dX6_bestTrade_12 : decode cX6_bestTrade 12 = .ok (.aload_n 0, 1) := by decide +kernel
theorem dX6_bestTrade_13 : decode cX6_bestTrade 13 = .ok (.iconst 0, 1) := by decide +kernel
theorem dX6_bestTrade_14 : decode cX6_bestTrade 14 = .ok (.invokevirtual 96, 3) := by decide +kernel
theorem dX6_bestTrade_17 : decode cX6_bestTrade 17 = .ok (.istore_n 2, 1) := by decide +kernel
theorem dX6_bestTrade_18 : decode cX6_bestTrade 18 = .ok (.iload_n 2, 1) := by decide +kernel
theorem dX6_bestTrade_19 : decode cX6_bestTrade 19 = .ok (.bipush (-5), 2) := by decide +kernel
theorem dX6_bestTrade_21 : decode cX6_bestTrade 21 = .ok (.if_icmp .eq 7, 3) := by decide +kernel
theorem dX6_bestTrade_24 : decode cX6_bestTrade 24 = .ok (.iload_n 1, 1) := by decide +kernel
theorem dX6_bestTrade_25 : decode cX6_bestTrade 25 = .ok (.ifCond .ne 5, 3) := by decide +kernel
theorem dX6_bestTrade_28 : decode cX6_bestTrade 28 = .ok (.iload_n 2, 1) := by decide +kernel
theorem dX6_bestTrade_29 : decode cX6_bestTrade 29 = .ok (.ireturn, 1) := by decide +kernel
theorem dX6_bestTrade_30 : decode cX6_bestTrade 30 = .ok (.aload_n 0, 1) := by decide +kernel
theorem dX6_bestTrade_31 : decode cX6_bestTrade 31 = .ok (.invokevirtual 173, 3) := by decide +kernel
theorem dX6_bestTrade_34 : decode cX6_bestTrade 34 = .ok (.aload_n 0, 1) := by decide +kernel
theorem dX6_bestTrade_35 : decode cX6_bestTrade 35 = .ok (.sipush 202, 3) := by decide +kernel
theorem dX6_bestTrade_38 : decode cX6_bestTrade 38 = .ok (.iload_n 2, 1) := by decide +kernel
theorem dX6_bestTrade_39 : decode cX6_bestTrade 39 = .ok (.bipush 10, 2) := by decide +kernel
theorem dX6_bestTrade_41 : decode cX6_bestTrade 41 = .ok (.idiv, 1) := by decide +kernel
theorem dX6_bestTrade_42 : decode cX6_bestTrade 42 = .ok (.iload_n 2, 1) := by decide +kernel
theorem dX6_bestTrade_43 : decode cX6_bestTrade 43 = .ok (.bipush 10, 2) := by decide +kernel
theorem dX6_bestTrade_45 : decode cX6_bestTrade 45 = .ok (.irem, 1) := by decide +kernel
theorem dX6_bestTrade_46 : decode cX6_bestTrade 46 = .ok (.invokevirtual 89, 3) := by decide +kernel
theorem dX6_bestTrade_49 : decode cX6_bestTrade 49 = .ok (.aload_n 0, 1) := by decide +kernel
theorem dX6_bestTrade_50 : decode cX6_bestTrade 50 = .ok (.sipush 202, 3) := by decide +kernel
theorem dX6_bestTrade_53 : decode cX6_bestTrade 53 = .ok (.invokevirtual 93, 3) := by decide +kernel
theorem dX6_bestTrade_56 : decode cX6_bestTrade 56 = .ok (.ireturn, 1) := by decide +kernel
set_option maxRecDepth 20000 in
theorem ggX6_bestWithout_X6_in : GoodIn wsX6_bestWithout wsX6_in := goodIn_r _ [4] (by decide +kernel) (by decide +kernel)
set_option maxRecDepth 20000 in
theorem gX6_bestWithout_X6_in : GoodIn wsX6_bestWithout (va_wsS RX6 25 yX6_in wsX6_in) := goodIn_app (goodIn_of _ (by decide +kernel)) ggX6_bestWithout_X6_in
set_option maxRecDepth 20000 in
theorem ggX6_bestWithout_X6_copies : GoodIn wsX6_bestWithout wsX6_copies := goodIn_r _ [8, 9, 75, 76, 77, 78, 79, 80, 81, 82, 83] (by decide +kernel) (by decide +kernel)
set_option maxRecDepth 20000 in
theorem gX6_bestWithout_X6_copies : GoodIn wsX6_bestWithout (wsV RX6 173 RX6 yX6_copies wsX6_copies) := goodIn_app (goodIn_of _ (by decide +kernel)) ggX6_bestWithout_X6_copies
set_option maxRecDepth 20000 in
theorem ggX6_bestWithout_X6_divides : GoodIn wsX6_bestWithout wsX6_divides := goodIn_r _ [13, 9, 14, 15, 16, 17, 3, 18, 19, 20, 21, 22, 23, 24, 25, 26, 27, 28, 29, 30, 31, 32, 33, 34, 35, 36, 37, 38, 39, 40, 41, 42, 43, 44, 45, 46, 47, 48, 49, 50, 51, 52, 53, 54, 55, 56, 57, 58, 75, 76, 77, 78, 79, 80, 81, 82, 83] (by decide +kernel) (by decide +kernel)
set_option maxRecDepth 20000 in
theorem gX6_bestWithout_X6_divides : GoodIn wsX6_bestWithout (wsV RX6 115 RX6 yX6_divides wsX6_divides) := goodIn_app (goodIn_of _ (by decide +kernel)) ggX6_bestWithout_X6_divides
set_option maxRecDepth 20000 in
theorem ggX6_bestWithout_X6_envies : GoodIn wsX6_bestWithout wsX6_envies := goodIn_r _ [62, 63, 64, 65, 3, 66, 67, 68, 69, 70, 71, 72, 73, 74, 9, 51, 52, 53, 54, 32, 33, 34, 35, 75, 76, 77, 78, 79, 80, 81, 82, 83] (by decide +kernel) (by decide +kernel)
set_option maxRecDepth 20000 in
theorem gX6_bestWithout_X6_envies : GoodIn wsX6_bestWithout (wsV RX6 50 RX6 yX6_envies wsX6_envies) := goodIn_app (goodIn_of _ (by decide +kernel)) ggX6_bestWithout_X6_envies
theorem dX6_bestWithout_0 : decode cX6_bestWithout 0 = .ok (.iload_n 1, 1) := by decide +kernel
theorem dX6_bestWithout_1 : decode cX6_bestWithout 1 = .ok (.iconst 0, 1) := by decide +kernel
theorem dX6_bestWithout_2 : decode cX6_bestWithout 2 = .ok (.iconst 1, 1) := by decide +kernel
theorem dX6_bestWithout_3 : decode cX6_bestWithout 3 = .ok (.invokestatic 25, 3) := by decide +kernel
theorem dX6_bestWithout_6 : decode cX6_bestWithout 6 = .ok (.ifCond .ne 6, 3) := by decide +kernel
theorem dX6_bestWithout_9 : decode cX6_bestWithout 9 = .ok (.bipush (-2), 2) := by decide +kernel
theorem dX6_bestWithout_11 : decode cX6_bestWithout 11 = .ok (.ireturn, 1) := by decide +kernel
theorem dX6_bestWithout_12 : decode cX6_bestWithout 12 = .ok (.bipush (-5), 2) := by decide +kernel
theorem dX6_bestWithout_14 : decode cX6_bestWithout 14 = .ok (.istore_n 2, 1) := by decide +kernel
theorem dX6_bestWithout_15 : decode cX6_bestWithout 15 = .ok (.iconst 0, 1) := by decide +kernel
theorem dX6_bestWithout_16 : decode cX6_bestWithout 16 = .ok (.istore_n 3, 1) := by decide +kernel
theorem dX6_bestWithout_17 : decode cX6_bestWithout 17 = .ok (.iconst 0, 1) := by decide +kernel
theorem dX6_bestWithout_18 : decode cX6_bestWithout 18 = .ok (.istore 4, 2) := by decide +kernel
theorem dX6_bestWithout_20 : decode cX6_bestWithout 20 = .ok (.iload 4, 2) := by decide +kernel
theorem dX6_bestWithout_22 : decode cX6_bestWithout 22 = .ok (.bipush 7, 2) := by decide +kernel
theorem dX6_bestWithout_24 : decode cX6_bestWithout 24 = .ok (.if_icmp .ge 91, 3) := by decide +kernel
theorem dX6_bestWithout_27 : decode cX6_bestWithout 27 = .ok (.bipush 127, 2) := by decide +kernel
theorem dX6_bestWithout_29 : decode cX6_bestWithout 29 = .ok (.iconst 1, 1) := by decide +kernel
theorem dX6_bestWithout_30 : decode cX6_bestWithout 30 = .ok (.iload 4, 2) := by decide +kernel
theorem dX6_bestWithout_32 : decode cX6_bestWithout 32 = .ok (.ishl, 1) := by decide +kernel
theorem dX6_bestWithout_33 : decode cX6_bestWithout 33 = .ok (.iconst (-1), 1) := by decide +kernel
theorem dX6_bestWithout_34 : decode cX6_bestWithout 34 = .ok (.ixor, 1) := by decide +kernel
theorem dX6_bestWithout_35 : decode cX6_bestWithout 35 = .ok (.iand, 1) := by decide +kernel
theorem dX6_bestWithout_36 : decode cX6_bestWithout 36 = .ok (.istore 5, 2) := by decide +kernel
theorem dX6_bestWithout_38 : decode cX6_bestWithout 38 = .ok (.aload_n 0, 1) := by decide +kernel
theorem dX6_bestWithout_39 : decode cX6_bestWithout 39 = .ok (.invokevirtual 173, 3) := by decide +kernel
theorem dX6_bestWithout_42 : decode cX6_bestWithout 42 = .ok (.aload_n 0, 1) := by decide +kernel
theorem dX6_bestWithout_43 : decode cX6_bestWithout 43 = .ok (.sipush 202, 3) := by decide +kernel
theorem dX6_bestWithout_46 : decode cX6_bestWithout 46 = .ok (.iload 5, 2) := by decide +kernel
theorem dX6_bestWithout_48 : decode cX6_bestWithout 48 = .ok (.invokevirtual 115, 3) := by decide +kernel
theorem dX6_bestWithout_51 : decode cX6_bestWithout 51 = .ok (.istore 6, 2) := by decide +kernel
theorem dX6_bestWithout_53 : decode cX6_bestWithout 53 = .ok (.aload_n 0, 1) := by decide +kernel
theorem dX6_bestWithout_54 : decode cX6_bestWithout 54 = .ok (.sipush 202, 3) := by decide +kernel
theorem dX6_bestWithout_57 : decode cX6_bestWithout 57 = .ok (.iload 5, 2) := by decide +kernel
theorem dX6_bestWithout_59 : decode cX6_bestWithout 59 = .ok (.iload 5, 2) := by decide +kernel
theorem dX6_bestWithout_61 : decode cX6_bestWithout 61 = .ok (.invokevirtual 50, 3) := by decide +kernel
theorem dX6_bestWithout_64 : decode cX6_bestWithout 64 = .ok (.istore 7, 2) := by decide +kernel
theorem dX6_bestWithout_66 : decode cX6_bestWithout 66 = .ok (.iload_n 2, 1) := by decide +kernel
theorem dX6_bestWithout_67 : decode cX6_bestWithout 67 = .ok (.bipush (-5), 2) := by decide +kernel
theorem dX6_bestWithout_69 : decode cX6_bestWithout 69 = .ok (.if_icmp .eq 9, 3) := by decide +kernel
theorem dX6_bestWithout_72 : decode cX6_bestWithout 72 = .ok (.iload 7, 2) := by decide +kernel
theorem dX6_bestWithout_74 : decode cX6_bestWithout 74 = .ok (.iload_n 3, 1) := by decide +kernel
theorem dX6_bestWithout_75 : decode cX6_bestWithout 75 = .ok (.if_icmp .ge 7, 3) := by decide +kernel
theorem dX6_bestWithout_78 : decode cX6_bestWithout 78 = .ok (.iconst 1, 1) := by decide +kernel
theorem dX6_bestWithout_79 : decode cX6_bestWithout 79 = .ok (.goto 4, 3) := by decide +kernel
theorem dX6_bestWithout_82 : decode cX6_bestWithout 82 = .ok (.iconst 0, 1) := by decide +kernel
theorem dX6_bestWithout_83 : decode cX6_bestWithout 83 = .ok (.istore 8, 2) := by decide +kernel
theorem dX6_bestWithout_85 : decode cX6_bestWithout 85 = .ok (.iload 8, 2) := by decide +kernel
theorem dX6_bestWithout_87 : decode cX6_bestWithout 87 = .ok (.ifCond .eq 8, 3) := by decide +kernel
theorem dX6_bestWithout_90 : decode cX6_bestWithout 90 = .ok (.iload 4, 2) := by decide +kernel
theorem dX6_bestWithout_92 : decode cX6_bestWithout 92 = .ok (.goto 4, 3) := by decide +kernel
theorem dX6_bestWithout_95 : decode cX6_bestWithout 95 = .ok (.iload_n 2, 1) := by decide +kernel
theorem dX6_bestWithout_96 : decode cX6_bestWithout 96 = .ok (.istore_n 2, 1) := by decide +kernel
theorem dX6_bestWithout_97 : decode cX6_bestWithout 97 = .ok (.iload 8, 2) := by decide +kernel
theorem dX6_bestWithout_99 : decode cX6_bestWithout 99 = .ok (.ifCond .eq 8, 3) := by decide +kernel
theorem dX6_bestWithout_102 : decode cX6_bestWithout 102 = .ok (.iload 7, 2) := by decide +kernel
theorem dX6_bestWithout_104 : decode cX6_bestWithout 104 = .ok (.goto 4, 3) := by decide +kernel
theorem dX6_bestWithout_107 : decode cX6_bestWithout 107 = .ok (.iload_n 3, 1) := by decide +kernel
theorem dX6_bestWithout_108 : decode cX6_bestWithout 108 = .ok (.istore_n 3, 1) := by decide +kernel
theorem dX6_bestWithout_109 : decode cX6_bestWithout 109 = .ok (.iinc 4 1, 3) := by decide +kernel
theorem dX6_bestWithout_112 : decode cX6_bestWithout 112 = .ok (.goto (-92), 3) := by decide +kernel
theorem dX6_bestWithout_115 : decode cX6_bestWithout 115 = .ok (.iload_n 1, 1) := by decide +kernel
theorem dX6_bestWithout_116 : decode cX6_bestWithout 116 = .ok (.ifCond .ne 7, 3) := by decide +kernel
theorem dX6_bestWithout_119 : decode cX6_bestWithout 119 = .ok (.iload_n 2, 1) := by decide +kernel
theorem dX6_bestWithout_120 : decode cX6_bestWithout 120 = .ok (.goto 4, 3) := by decide +kernel
theorem dX6_bestWithout_123 : decode cX6_bestWithout 123 = .ok (.iload_n 3, 1) := by decide +kernel
theorem dX6_bestWithout_124 : decode cX6_bestWithout 124 = .ok (.ireturn, 1) := by decide +kernel
theorem dJ6_bitCount_0f7a4_0 : decode cJ6_bitCount_0f7a4 0 = .ok (.iload_n 0, 1) := by decide +kernel
theorem dJ6_bitCount_0f7a4_1 : decode cJ6_bitCount_0f7a4 1 = .ok (.iload_n 0, 1) := by decide +kernel
theorem dJ6_bitCount_0f7a4_2 : decode cJ6_bitCount_0f7a4 2 = .ok (.iconst 1, 1) := by decide +kernel
theorem dJ6_bitCount_0f7a4_3 : decode cJ6_bitCount_0f7a4 3 = .ok (.iushr, 1) := by decide +kernel
theorem dJ6_bitCount_0f7a4_4 : decode cJ6_bitCount_0f7a4 4 = .ok (.ldc_w 265, 3) := by decide +kernel
theorem dJ6_bitCount_0f7a4_7 : decode cJ6_bitCount_0f7a4 7 = .ok (.iand, 1) := by decide +kernel
theorem dJ6_bitCount_0f7a4_8 : decode cJ6_bitCount_0f7a4 8 = .ok (.isub, 1) := by decide +kernel
theorem dJ6_bitCount_0f7a4_9 : decode cJ6_bitCount_0f7a4 9 = .ok (.istore_n 0, 1) := by decide +kernel
theorem dJ6_bitCount_0f7a4_10 : decode cJ6_bitCount_0f7a4 10 = .ok (.iload_n 0, 1) := by decide +kernel
theorem dJ6_bitCount_0f7a4_11 : decode cJ6_bitCount_0f7a4 11 = .ok (.ldc_w 266, 3) := by decide +kernel
theorem dJ6_bitCount_0f7a4_14 : decode cJ6_bitCount_0f7a4 14 = .ok (.iand, 1) := by decide +kernel
theorem dJ6_bitCount_0f7a4_15 : decode cJ6_bitCount_0f7a4 15 = .ok (.iload_n 0, 1) := by decide +kernel
theorem dJ6_bitCount_0f7a4_16 : decode cJ6_bitCount_0f7a4 16 = .ok (.iconst 2, 1) := by decide +kernel
theorem dJ6_bitCount_0f7a4_17 : decode cJ6_bitCount_0f7a4 17 = .ok (.iushr, 1) := by decide +kernel
theorem dJ6_bitCount_0f7a4_18 : decode cJ6_bitCount_0f7a4 18 = .ok (.ldc_w 266, 3) := by decide +kernel
theorem dJ6_bitCount_0f7a4_21 : decode cJ6_bitCount_0f7a4 21 = .ok (.iand, 1) := by decide +kernel
theorem dJ6_bitCount_0f7a4_22 : decode cJ6_bitCount_0f7a4 22 = .ok (.iadd, 1) := by decide +kernel
theorem dJ6_bitCount_0f7a4_23 : decode cJ6_bitCount_0f7a4 23 = .ok (.istore_n 0, 1) := by decide +kernel
theorem dJ6_bitCount_0f7a4_24 : decode cJ6_bitCount_0f7a4 24 = .ok (.iload_n 0, 1) := by decide +kernel
theorem dJ6_bitCount_0f7a4_25 : decode cJ6_bitCount_0f7a4 25 = .ok (.iload_n 0, 1) := by decide +kernel
theorem dJ6_bitCount_0f7a4_26 : decode cJ6_bitCount_0f7a4 26 = .ok (.iconst 4, 1) := by decide +kernel
theorem dJ6_bitCount_0f7a4_27 : decode cJ6_bitCount_0f7a4 27 = .ok (.iushr, 1) := by decide +kernel
theorem dJ6_bitCount_0f7a4_28 : decode cJ6_bitCount_0f7a4 28 = .ok (.iadd, 1) := by decide +kernel
theorem dJ6_bitCount_0f7a4_29 : decode cJ6_bitCount_0f7a4 29 = .ok (.ldc_w 267, 3) := by decide +kernel
theorem dJ6_bitCount_0f7a4_32 : decode cJ6_bitCount_0f7a4 32 = .ok (.iand, 1) := by decide +kernel
theorem dJ6_bitCount_0f7a4_33 : decode cJ6_bitCount_0f7a4 33 = .ok (.istore_n 0, 1) := by decide +kernel
theorem dJ6_bitCount_0f7a4_34 : decode cJ6_bitCount_0f7a4 34 = .ok (.iload_n 0, 1) := by decide +kernel
theorem dJ6_bitCount_0f7a4_35 : decode cJ6_bitCount_0f7a4 35 = .ok (.iload_n 0, 1) := by decide +kernel
theorem dJ6_bitCount_0f7a4_36 : decode cJ6_bitCount_0f7a4 36 = .ok (.bipush 8, 2) := by decide +kernel
theorem dJ6_bitCount_0f7a4_38 : decode cJ6_bitCount_0f7a4 38 = .ok (.iushr, 1) := by decide +kernel
theorem dJ6_bitCount_0f7a4_39 : decode cJ6_bitCount_0f7a4 39 = .ok (.iadd, 1) := by decide +kernel
theorem dJ6_bitCount_0f7a4_40 : decode cJ6_bitCount_0f7a4 40 = .ok (.istore_n 0, 1) := by decide +kernel
theorem dJ6_bitCount_0f7a4_41 : decode cJ6_bitCount_0f7a4 41 = .ok (.iload_n 0, 1) := by decide +kernel
theorem dJ6_bitCount_0f7a4_42 : decode cJ6_bitCount_0f7a4 42 = .ok (.iload_n 0, 1) := by decide +kernel
theorem dJ6_bitCount_0f7a4_43 : decode cJ6_bitCount_0f7a4 43 = .ok (.bipush 16, 2) := by decide +kernel
theorem dJ6_bitCount_0f7a4_45 : decode cJ6_bitCount_0f7a4 45 = .ok (.iushr, 1) := by decide +kernel
theorem dJ6_bitCount_0f7a4_46 : decode cJ6_bitCount_0f7a4 46 = .ok (.iadd, 1) := by decide +kernel
theorem dJ6_bitCount_0f7a4_47 : decode cJ6_bitCount_0f7a4 47 = .ok (.istore_n 0, 1) := by decide +kernel
theorem dJ6_bitCount_0f7a4_48 : decode cJ6_bitCount_0f7a4 48 = .ok (.iload_n 0, 1) := by decide +kernel
theorem dJ6_bitCount_0f7a4_49 : decode cJ6_bitCount_0f7a4 49 = .ok (.bipush 63, 2) := by decide +kernel
theorem dJ6_bitCount_0f7a4_51 : decode cJ6_bitCount_0f7a4 51 = .ok (.iand, 1) := by decide +kernel
theorem dJ6_bitCount_0f7a4_52 : decode cJ6_bitCount_0f7a4 52 = .ok (.ireturn, 1) := by decide +kernel
theorem dJ9_max_7cf53_0 : decode cJ9_max_7cf53 0 = .ok (.iload_n 0, 1) := by decide +kernel
theorem dJ9_max_7cf53_1 : decode cJ9_max_7cf53 1 = .ok (.iload_n 1, 1) := by decide +kernel
theorem dJ9_max_7cf53_2 : decode cJ9_max_7cf53 2 = .ok (.if_icmp .lt 7, 3) := by decide +kernel
theorem dJ9_max_7cf53_5 : decode cJ9_max_7cf53 5 = .ok (.iload_n 0, 1) := by decide +kernel
theorem dJ9_max_7cf53_6 : decode cJ9_max_7cf53 6 = .ok (.goto 4, 3) := by decide +kernel
theorem dJ9_max_7cf53_9 : decode cJ9_max_7cf53 9 = .ok (.iload_n 1, 1) := by decide +kernel
theorem dJ9_max_7cf53_10 : decode cJ9_max_7cf53 10 = .ok (.ireturn, 1) := by decide +kernel
theorem dJ9_min_7cf53_0 : decode cJ9_min_7cf53 0 = .ok (.iload_n 0, 1) := by decide +kernel
theorem dJ9_min_7cf53_1 : decode cJ9_min_7cf53 1 = .ok (.iload_n 1, 1) := by decide +kernel
theorem dJ9_min_7cf53_2 : decode cJ9_min_7cf53 2 = .ok (.if_icmp .gt 7, 3) := by decide +kernel
theorem dJ9_min_7cf53_5 : decode cJ9_min_7cf53 5 = .ok (.iload_n 0, 1) := by decide +kernel
theorem dJ9_min_7cf53_6 : decode cJ9_min_7cf53 6 = .ok (.goto 4, 3) := by decide +kernel
theorem dJ9_min_7cf53_9 : decode cJ9_min_7cf53 9 = .ok (.iload_n 1, 1) := by decide +kernel
theorem dJ9_min_7cf53_10 : decode cJ9_min_7cf53 10 = .ok (.ireturn, 1) := by decide +kernel
set_option maxRecDepth 20000 in
theorem ggL_law_X5_init : GoodIn wsL_law wsX5_init := goodIn_r _ [8, 9, 10, 11, 12, 13, 14, 15, 16, 17, 18, 19, 20, 21, 22, 23, 24, 25, 26, 27, 28, 29, 30, 31, 32, 33, 34, 35, 36, 37, 38, 39, 40, 41, 42, 43, 44, 45, 46, 47, 48, 49, 50, 51, 52, 53, 54, 55, 56, 57, 58, 59, 60, 61, 62, 63, 64, 65, 66, 67, 68, 69, 70, 71, 72, 73, 74, 75, 76, 77, 78, 749, 750, 751, 752, 753, 754, 755, 756, 757, 733, 734, 735, 736, 737, 738, 739, 758, 759, 760, 761, 762, 763, 764, 765, 766, 767, 768, 769, 770, 771, 772, 773, 774, 775, 776, 777, 778, 779, 780] (by decide +kernel) (by decide +kernel)
set_option maxRecDepth 20000 in
theorem gL_law_X5_init : GoodIn wsL_law (wsX5_init) := ggL_law_X5_init
set_option maxRecDepth 20000 in
theorem ggL_law_X6_init : GoodIn wsL_law wsX6_init := goodIn_r _ [81, 82, 10, 11, 38, 83, 84, 85, 86, 87, 740, 741, 742, 743, 744, 745, 746, 747, 748] (by decide +kernel) (by decide +kernel)
set_option maxRecDepth 20000 in
theorem gL_law_X6_init : GoodIn wsL_law (wsX6_init) := ggL_law_X6_init
set_option maxRecDepth 20000 in
theorem ggL_law_X5_plant : GoodIn wsL_law wsX5_plant := goodIn_r _ [91, 15, 92, 31, 93, 94, 2, 95, 96, 97, 98, 99, 100, 101, 102, 103, 104, 30, 105, 106, 77, 107, 108, 109, 110, 111, 112, 113, 14, 114, 39, 115, 116, 117, 118, 40, 41, 42, 43, 44, 119, 120, 121, 122, 123, 124, 125, 49, 50, 51, 52, 733, 734, 735, 736, 737, 738, 739, 749, 750, 751, 752, 753, 754, 755, 756, 757, 779, 780] (by decide +kernel) (by decide +kernel)
set_option maxRecDepth 20000 in
theorem gL_law_X5_plant : GoodIn wsL_law (wsV RL 13 RX5 yX5_plant wsX5_plant) := goodIn_app (goodIn_of _ (by decide +kernel)) ggL_law_X5_plant
set_option maxRecDepth 20000 in
theorem ggL_law_X6_plant : GoodIn wsL_law wsX6_plant := goodIn_r _ [129, 130, 131, 5, 132, 133, 134, 135, 136, 137, 138, 139, 140, 141, 142, 83, 143, 144, 145, 146, 147, 84, 740, 741, 742, 743, 744, 745, 746, 747, 748] (by decide +kernel) (by decide +kernel)
set_option maxRecDepth 20000 in
theorem gL_law_X6_plant : GoodIn wsL_law (wsV RL 17 RX6 yX6_plant wsX6_plant) := goodIn_app (goodIn_of _ (by decide +kernel)) ggL_law_X6_plant
set_option maxRecDepth 20000 in
theorem ggL_law_X5_weigh : GoodIn wsL_law wsX5_weigh := goodIn_r _ [151, 15, 152, 31, 153, 154, 2, 155, 96, 97, 98, 99, 100, 101, 102, 103, 104, 30, 105, 106, 77, 107, 108, 109, 110, 111, 112, 113, 14, 114, 39, 115, 116, 117, 118, 40, 41, 42, 43, 44, 119, 120, 121, 156, 157, 158, 159, 45, 46, 47, 48, 49, 50, 51, 52, 733, 734, 735, 736, 737, 738, 739, 749, 750, 751, 752, 753, 754, 755, 756, 757, 779, 780] (by decide +kernel) (by decide +kernel)
set_option maxRecDepth 20000 in
theorem gL_law_X5_weigh : GoodIn wsL_law (wsV RL 18 RX5 yX5_weigh wsX5_weigh) := goodIn_app (goodIn_of _ (by decide +kernel)) ggL_law_X5_weigh
set_option maxRecDepth 20000 in
theorem ggL_law_X6_weigh : GoodIn wsL_law wsX6_weigh := goodIn_r _ [163, 164, 165, 5, 166, 133, 134, 135, 136, 137, 138, 139, 140, 141, 142, 83, 143, 144, 145, 146, 147, 84, 740, 741, 742, 743, 744, 745, 746, 747, 748] (by decide +kernel) (by decide +kernel)
set_option maxRecDepth 20000 in
theorem gL_law_X6_weigh : GoodIn wsL_law (wsV RL 21 RX6 yX6_weigh wsX6_weigh) := goodIn_app (goodIn_of _ (by decide +kernel)) ggL_law_X6_weigh
set_option maxRecDepth 20000 in
theorem ggL_law_X5_grudge : GoodIn wsL_law wsX5_grudge := goodIn_r _ [170, 15, 31, 153, 154, 2, 155, 99, 100, 101, 171, 172, 173, 14, 174, 41, 102, 103, 104, 30, 105, 106, 77, 107, 108, 109, 110, 111, 112, 113, 114, 39, 115, 116, 117, 118, 40, 42, 43, 44, 119, 120, 121, 175, 176, 177, 178, 733, 734, 735, 736, 737, 738, 739, 749, 750, 751, 752, 753, 754, 755, 756, 757, 779, 780] (by decide +kernel) (by decide +kernel)
set_option maxRecDepth 20000 in
theorem gL_law_X5_grudge : GoodIn wsL_law (wsV RL 22 RX5 yX5_grudge wsX5_grudge) := goodIn_app (goodIn_of _ (by decide +kernel)) ggL_law_X5_grudge
set_option maxRecDepth 20000 in
theorem ggL_law_X6_grudge : GoodIn wsL_law wsX6_grudge := goodIn_r _ [182, 164, 165, 5, 166, 133, 134, 135, 139, 140, 141, 142, 83, 143, 144, 145, 146, 147, 84, 740, 741, 742, 743, 744, 745, 746, 747, 748] (by decide +kernel) (by decide +kernel)
set_option maxRecDepth 20000 in
theorem gL_law_X6_grudge : GoodIn wsL_law (wsV RL 25 RX6 yX6_grudge wsX6_grudge) := goodIn_app (goodIn_of _ (by decide +kernel)) ggL_law_X6_grudge
set_option maxRecDepth 20000 in
theorem ggL_law_X5_set : GoodIn wsL_law wsX5_set := goodIn_r _ [186, 15, 187, 31, 188, 189, 2, 190, 102, 103, 104, 30, 105, 106, 77, 107, 108, 109, 110, 111, 112, 113, 14, 114, 39, 115, 116, 117, 118, 40, 41, 42, 43, 44, 119, 120, 121, 733, 734, 735, 736, 737, 738, 739, 749, 750, 751, 752, 753, 754, 755, 756, 757, 779, 780] (by decide +kernel) (by decide +kernel)
set_option maxRecDepth 20000 in
theorem gL_law_X5_set : GoodIn wsL_law (wsV RL 26 RX5 yX5_set wsX5_set) := goodIn_app (goodIn_of _ (by decide +kernel)) ggL_law_X5_set
set_option maxRecDepth 20000 in
theorem ggL_law_X6_set : GoodIn wsL_law wsX6_set := goodIn_r _ [194, 133, 134, 5, 135, 139, 140, 141, 142, 83, 143, 144, 145, 146, 147, 84, 740, 741, 742, 743, 744, 745, 746, 747, 748] (by decide +kernel) (by decide +kernel)
set_option maxRecDepth 20000 in
theorem gL_law_X6_set : GoodIn wsL_law (wsV RL 30 RX6 yX6_set wsX6_set) := goodIn_app (goodIn_of _ (by decide +kernel)) ggL_law_X6_set
set_option maxRecDepth 20000 in
theorem ggL_law_X5_divide : GoodIn wsL_law wsX5_divide := goodIn_r _ [198, 31, 15, 19, 199, 200, 201, 2, 202, 102, 103, 104, 30, 105, 106, 77, 107, 108, 109, 110, 111, 112, 113, 14, 114, 39, 115, 116, 117, 118, 40, 41, 42, 43, 44, 119, 120, 121, 203, 204, 205, 206, 207, 208, 209, 210, 211, 212, 213, 214, 215, 18, 216, 217, 218, 219, 220, 221, 222, 223, 224, 225, 59, 58, 226, 227, 228, 229, 230, 231, 232, 233, 234, 235, 236, 237, 238, 239, 240, 241, 242, 243, 244, 245, 246, 247, 248, 249, 250, 251, 252, 253, 254, 255, 256, 257, 258, 259, 260, 261, 262, 263, 264, 265, 266, 267, 268, 172, 173, 174, 269, 270, 271, 272, 57, 273, 274, 275, 276, 277, 278, 733, 734, 735, 736, 737, 738, 739, 758, 759, 760, 761, 762, 763, 764, 765, 779, 780, 749, 750, 751, 752, 753, 754, 755, 756, 757] (by decide +kernel) (by decide +kernel)
set_option maxRecDepth 20000 in
theorem gL_law_X5_divide : GoodIn wsL_law (wsV RL 31 RX5 yX5_divide wsX5_divide) := goodIn_app (goodIn_of _ (by decide +kernel)) ggL_law_X5_divide
set_option maxRecDepth 20000 in
theorem ggL_law_X6_divide : GoodIn wsL_law wsX6_divide := goodIn_r _ [282, 133, 134, 5, 135, 143, 144, 145, 146, 147, 84, 83, 283, 284, 285, 286, 287, 288, 289, 290, 291, 87, 292, 293, 294, 295, 296, 297, 298, 299, 300, 301, 302, 303, 304, 305, 306, 307, 308, 309, 310, 311, 312, 313, 314, 315, 316, 317, 318, 319, 320, 321, 322, 323, 324, 325, 326, 327, 328, 329, 330, 740, 741, 742, 743, 744, 745, 746, 747, 748] (by decide +kernel) (by decide +kernel)
set_option maxRecDepth 20000 in
theorem gL_law_X6_divide : GoodIn wsL_law (wsV RL 35 RX6 yX6_divide wsX6_divide) := goodIn_app (goodIn_of _ (by decide +kernel)) ggL_law_X6_divide
set_option maxRecDepth 20000 in
theorem ggL_law_X5_give : GoodIn wsL_law wsX5_give := goodIn_r _ [334, 15, 208, 31, 93, 94, 2, 95, 153, 154, 155, 102, 103, 104, 30, 105, 106, 77, 107, 108, 109, 110, 111, 112, 113, 14, 114, 39, 115, 116, 117, 118, 40, 41, 42, 43, 44, 119, 120, 121, 733, 734, 735, 736, 737, 738, 739, 749, 750, 751, 752, 753, 754, 755, 756, 757, 779, 780] (by decide +kernel) (by decide +kernel)
set_option maxRecDepth 20000 in
theorem gL_law_X5_give : GoodIn wsL_law (wsV RL 36 RX5 yX5_give wsX5_give) := goodIn_app (goodIn_of _ (by decide +kernel)) ggL_law_X5_give
set_option maxRecDepth 20000 in
theorem ggL_law_X6_give : GoodIn wsL_law wsX6_give := goodIn_r _ [338, 130, 131, 5, 132, 133, 134, 135, 139, 140, 141, 142, 83, 143, 144, 145, 146, 147, 84, 740, 741, 742, 743, 744, 745, 746, 747, 748] (by decide +kernel) (by decide +kernel)
set_option maxRecDepth 20000 in
theorem gL_law_X6_give : GoodIn wsL_law (wsV RL 39 RX6 yX6_give wsX6_give) := goodIn_app (goodIn_of _ (by decide +kernel)) ggL_law_X6_give
set_option maxRecDepth 20000 in
theorem ggL_law_X5_trade : GoodIn wsL_law wsX5_trade := goodIn_r _ [342, 23, 15, 208, 31, 153, 154, 2, 155, 343, 344, 345, 22, 346, 64, 65, 347, 256, 257, 14, 258, 44, 348, 349, 350, 351, 352, 353, 172, 173, 174, 41, 354, 355, 356, 357, 102, 103, 104, 30, 105, 106, 77, 107, 108, 109, 110, 111, 112, 113, 114, 39, 115, 116, 117, 118, 40, 42, 43, 119, 120, 121, 358, 359, 360, 361, 362, 363, 364, 365, 366, 367, 368, 369, 370, 371, 372, 373, 374, 245, 246, 375, 376, 377, 378, 379, 380, 381, 382, 383, 384, 385, 386, 387, 388, 389, 390, 391, 733, 734, 735, 736, 737, 738, 739, 749, 750, 751, 752, 753, 754, 755, 756, 757, 766, 767, 768, 769, 770, 779, 780] (by decide +kernel) (by decide +kernel)
set_option maxRecDepth 20000 in
theorem gL_law_X5_trade : GoodIn wsL_law (wsV RL 40 RX5 yX5_trade wsX5_trade) := goodIn_app (goodIn_of _ (by decide +kernel)) ggL_law_X5_trade
set_option maxRecDepth 20000 in
theorem ggL_law_X6_trade : GoodIn wsL_law wsX6_trade := goodIn_r _ [395, 83, 164, 165, 5, 166, 133, 134, 135, 396, 397, 398, 399, 304, 305, 306, 307, 400, 401, 402, 403, 323, 324, 325, 326, 143, 144, 145, 146, 147, 84, 404, 405, 406, 407, 408, 409, 410, 411, 412, 413, 414, 415, 416, 417, 418, 419, 420, 421, 422, 423, 740, 741, 742, 743, 744, 745, 746, 747, 748] (by decide +kernel) (by decide +kernel)
set_option maxRecDepth 20000 in
theorem gL_law_X6_trade : GoodIn wsL_law (wsV RL 43 RX6 yX6_trade wsX6_trade) := goodIn_app (goodIn_of _ (by decide +kernel)) ggL_law_X6_trade
set_option maxRecDepth 20000 in
theorem ggL_law_X5_settle : GoodIn wsL_law wsX5_settle := goodIn_r _ [427, 23, 15, 208, 31, 428, 429, 343, 344, 345, 22, 346, 64, 65, 154, 2, 155, 347, 256, 257, 14, 258, 44, 430, 431, 432, 433, 434, 435, 436, 437, 349, 350, 351, 352, 353, 172, 173, 174, 41, 354, 355, 356, 357, 438, 439, 440, 441, 442, 368, 369, 370, 443, 372, 373, 374, 245, 246, 375, 376, 377, 378, 379, 380, 381, 382, 383, 384, 385, 386, 387, 388, 389, 390, 391, 102, 103, 104, 30, 105, 106, 77, 107, 108, 109, 110, 111, 112, 113, 114, 39, 115, 116, 117, 118, 40, 42, 43, 119, 120, 121, 358, 359, 360, 361, 362, 363, 364, 365, 366, 367, 733, 734, 735, 736, 737, 738, 739, 749, 750, 751, 752, 753, 754, 755, 756, 757, 766, 767, 768, 769, 770, 779, 780] (by decide +kernel) (by decide +kernel)
set_option maxRecDepth 20000 in
theorem gL_law_X5_settle : GoodIn wsL_law (wsV RL 44 RX5 yX5_settle wsX5_settle) := goodIn_app (goodIn_of _ (by decide +kernel)) ggL_law_X5_settle
set_option maxRecDepth 20000 in
theorem ggL_law_X6_settle : GoodIn wsL_law wsX6_settle := goodIn_r _ [447, 448, 449, 450, 5, 451, 396, 397, 398, 399, 83, 304, 305, 306, 307, 400, 401, 402, 403, 323, 324, 325, 326, 404, 405, 406, 407, 408, 409, 410, 411, 412, 413, 414, 415, 416, 417, 418, 419, 420, 421, 422, 423, 143, 144, 145, 146, 147, 84, 452, 453, 454, 455, 740, 741, 742, 743, 744, 745, 746, 747, 748] (by decide +kernel) (by decide +kernel)
set_option maxRecDepth 20000 in
theorem gL_law_X6_settle : GoodIn wsL_law (wsV RL 48 RX6 yX6_settle wsX6_settle) := goodIn_app (goodIn_of _ (by decide +kernel)) ggL_law_X6_settle
set_option maxRecDepth 20000 in
theorem ggL_law_X5_type : GoodIn wsL_law wsX5_type := goodIn_r _ [459, 27, 460, 461, 462, 463, 26, 464, 465, 71, 733, 734, 735, 736, 737, 738, 739, 771, 772, 773, 774, 775, 776, 777, 778] (by decide +kernel) (by decide +kernel)
set_option maxRecDepth 20000 in
theorem gL_law_X5_type : GoodIn wsL_law (wsV RL 49 RX5 yX5_type wsX5_type) := goodIn_app (goodIn_of _ (by decide +kernel)) ggL_law_X5_type
set_option maxRecDepth 20000 in
theorem ggL_law_X6_type : GoodIn wsL_law wsX6_type := goodIn_r _ [469, 470, 86, 740, 741, 742, 743, 744, 745, 746, 747, 748] (by decide +kernel) (by decide +kernel)
set_option maxRecDepth 20000 in
theorem gL_law_X6_type : GoodIn wsL_law (wsV RL 53 RX6 yX6_type wsX6_type) := goodIn_app (goodIn_of _ (by decide +kernel)) ggL_law_X6_type
set_option maxRecDepth 20000 in
theorem ggL_law_X5_clearText : GoodIn wsL_law wsX5_clearText := goodIn_r _ [474, 27, 460, 733, 734, 735, 736, 737, 738, 739, 771, 772, 773, 774, 775, 776, 777, 778] (by decide +kernel) (by decide +kernel)
set_option maxRecDepth 20000 in
theorem gL_law_X5_clearText : GoodIn wsL_law (wsV RL 54 RX5 yX5_clearText wsX5_clearText) := goodIn_app (goodIn_of _ (by decide +kernel)) ggL_law_X5_clearText
set_option maxRecDepth 20000 in
theorem ggL_law_X6_clearText : GoodIn wsL_law wsX6_clearText := goodIn_r _ [478, 470, 740, 741, 742, 743, 744, 745, 746, 747, 748] (by decide +kernel) (by decide +kernel)
set_option maxRecDepth 20000 in
theorem gL_law_X6_clearText : GoodIn wsL_law (wsV RL 57 RX6 yX6_clearText wsX6_clearText) := goodIn_app (goodIn_of _ (by decide +kernel)) ggL_law_X6_clearText
set_option maxRecDepth 20000 in
theorem ggL_law_X5_perform : GoodIn wsL_law wsX5_perform := goodIn_r _ [482, 27, 483, 31, 15, 484, 485, 486, 26, 487, 488, 465, 489, 490, 491, 492, 493, 494, 495, 496, 497, 71, 498, 499, 500, 501, 502, 503, 504, 385, 505, 506, 507, 508, 509, 510, 511, 512, 513, 69, 514, 515, 516, 517, 518, 519, 520, 521, 522, 523, 524, 525, 526, 527, 102, 103, 104, 30, 105, 106, 77, 107, 108, 109, 110, 111, 112, 113, 14, 114, 39, 115, 116, 117, 118, 40, 41, 42, 43, 44, 119, 120, 121, 528, 529, 530, 531, 2, 532, 533, 534, 535, 536, 537, 122, 123, 124, 125, 49, 50, 51, 52, 156, 157, 158, 159, 45, 46, 47, 48, 175, 176, 177, 178, 203, 204, 205, 206, 19, 207, 208, 209, 210, 199, 211, 212, 213, 214, 215, 18, 216, 217, 218, 219, 220, 221, 222, 223, 224, 225, 59, 58, 226, 227, 228, 229, 230, 231, 232, 233, 234, 235, 236, 237, 238, 239, 240, 241, 242, 243, 244, 245, 246, 247, 248, 249, 250, 251, 252, 253, 254, 255, 256, 257, 258, 259, 260, 261, 262, 263, 264, 265, 266, 267, 268, 172, 173, 174, 269, 270, 271, 272, 57, 273, 274, 275, 276, 277, 278, 538, 733, 734, 735, 736, 737, 738, 739, 771, 772, 773, 774, 775, 776, 777, 778, 779, 780, 749, 750, 751, 752, 753, 754, 755, 756, 757, 758, 759, 760, 761, 762, 763, 764, 765] (by decide +kernel) (by decide +kernel)
set_option maxRecDepth 20000 in
theorem gL_law_X5_perform : GoodIn wsL_law (wsV RL 58 RX5 yX5_perform wsX5_perform) := goodIn_app (goodIn_of _ (by decide +kernel)) ggL_law_X5_perform
set_option maxRecDepth 20000 in
theorem ggL_law_X6_perform : GoodIn wsL_law wsX6_perform := goodIn_r _ [542, 470, 543, 544, 545, 5, 546, 547, 548, 549, 550, 551, 552, 553, 554, 555, 556, 557, 558, 86, 133, 134, 135, 559, 560, 561, 562, 563, 564, 565, 566, 164, 165, 166, 567, 568, 569, 570, 143, 144, 145, 146, 147, 84, 83, 571, 572, 573, 574, 575, 576, 577, 578, 283, 284, 285, 286, 287, 288, 289, 290, 291, 87, 292, 293, 294, 295, 296, 297, 298, 299, 300, 301, 302, 303, 304, 305, 306, 307, 308, 309, 310, 311, 312, 313, 314, 315, 316, 317, 318, 319, 320, 321, 322, 323, 324, 325, 326, 327, 328, 329, 330, 740, 741, 742, 743, 744, 745, 746, 747, 748] (by decide +kernel) (by decide +kernel)
set_option maxRecDepth 20000 in
theorem gL_law_X6_perform : GoodIn wsL_law (wsV RL 61 RX6 yX6_perform wsX6_perform) := goodIn_app (goodIn_of _ (by decide +kernel)) ggL_law_X6_perform
set_option maxRecDepth 20000 in
theorem ggL_law_X5_undo : GoodIn wsL_law wsX5_undo := goodIn_r _ [582, 31, 583, 15, 584, 585, 586, 30, 587, 106, 77, 111, 112, 113, 14, 114, 39, 115, 116, 117, 118, 40, 41, 42, 43, 44, 119, 120, 121, 733, 734, 735, 736, 737, 738, 739, 779, 780, 749, 750, 751, 752, 753, 754, 755, 756, 757] (by decide +kernel) (by decide +kernel)
set_option maxRecDepth 20000 in
theorem gL_law_X5_undo : GoodIn wsL_law (wsV RL 62 RX5 yX5_undo wsX5_undo) := goodIn_app (goodIn_of _ (by decide +kernel)) ggL_law_X5_undo
set_option maxRecDepth 20000 in
theorem ggL_law_X6_undo : GoodIn wsL_law wsX6_undo := goodIn_r _ [591, 147, 83, 84, 740, 741, 742, 743, 744, 745, 746, 747, 748] (by decide +kernel) (by decide +kernel)
set_option maxRecDepth 20000 in
theorem gL_law_X6_undo : GoodIn wsL_law (wsV RL 65 RX6 yX6_undo wsX6_undo) := goodIn_app (goodIn_of _ (by decide +kernel)) ggL_law_X6_undo
set_option maxRecDepth 20000 in
theorem ggL_law_X5_keep : GoodIn wsL_law wsX5_keep := goodIn_r _ [595, 32, 15, 33, 596, 112, 113, 14, 114, 39, 115, 116, 117, 118, 40, 41, 42, 43, 44, 119, 120, 121, 597, 598, 599, 600, 733, 734, 735, 736, 737, 738, 739, 749, 750, 751, 752, 753, 754, 755, 756, 757] (by decide +kernel) (by decide +kernel)
set_option maxRecDepth 20000 in
theorem gL_law_X5_keep : GoodIn wsL_law (wsV RL 66 RX5 yX5_keep wsX5_keep) := goodIn_app (goodIn_of _ (by decide +kernel)) ggL_law_X5_keep
set_option maxRecDepth 20000 in
theorem ggL_law_X6_keep : GoodIn wsL_law wsX6_keep := goodIn_r _ [604, 85, 83, 605, 606, 607, 608, 5, 609, 740, 741, 742, 743, 744, 745, 746, 747, 748] (by decide +kernel) (by decide +kernel)
set_option maxRecDepth 20000 in
theorem gL_law_X6_keep : GoodIn wsL_law (wsV RL 69 RX6 yX6_keep wsX6_keep) := goodIn_app (goodIn_of _ (by decide +kernel)) ggL_law_X6_keep
set_option maxRecDepth 20000 in
theorem ggL_law_X5_restore : GoodIn wsL_law wsX5_restore := goodIn_r _ [613, 33, 31, 15, 32, 102, 103, 104, 30, 105, 106, 77, 107, 108, 109, 110, 111, 112, 113, 14, 114, 39, 115, 116, 117, 118, 40, 41, 42, 43, 44, 119, 120, 121, 596, 597, 598, 599, 600, 733, 734, 735, 736, 737, 738, 739, 779, 780, 749, 750, 751, 752, 753, 754, 755, 756, 757] (by decide +kernel) (by decide +kernel)
set_option maxRecDepth 20000 in
theorem gL_law_X5_restore : GoodIn wsL_law (wsV RL 70 RX5 yX5_restore wsX5_restore) := goodIn_app (goodIn_of _ (by decide +kernel)) ggL_law_X5_restore
set_option maxRecDepth 20000 in
theorem ggL_law_X6_restore : GoodIn wsL_law wsX6_restore := goodIn_r _ [617, 605, 83, 85, 143, 144, 145, 5, 146, 147, 84, 606, 607, 608, 609, 740, 741, 742, 743, 744, 745, 746, 747, 748] (by decide +kernel) (by decide +kernel)
set_option maxRecDepth 20000 in
theorem gL_law_X6_restore : GoodIn wsL_law (wsV RL 73 RX6 yX6_restore wsX6_restore) := goodIn_app (goodIn_of _ (by decide +kernel)) ggL_law_X6_restore
set_option maxRecDepth 20000 in
theorem ggL_law_X5_plot : GoodIn wsL_law wsX5_plot := goodIn_r _ [621, 15, 92, 208, 93, 94, 2, 95, 622, 256, 257, 14, 258, 44, 733, 734, 735, 736, 737, 738, 739, 749, 750, 751, 752, 753, 754, 755, 756, 757] (by decide +kernel) (by decide +kernel)
set_option maxRecDepth 20000 in
theorem gL_law_X5_plot : GoodIn wsL_law (wsV RL 74 RX5 yX5_plot wsX5_plot) := goodIn_app (goodIn_of _ (by decide +kernel)) ggL_law_X5_plot
set_option maxRecDepth 20000 in
theorem ggL_law_X6_plot : GoodIn wsL_law wsX6_plot := goodIn_r _ [626, 83, 130, 131, 5, 132, 133, 134, 135, 323, 324, 325, 326, 740, 741, 742, 743, 744, 745, 746, 747, 748] (by decide +kernel) (by decide +kernel)
set_option maxRecDepth 20000 in
theorem gL_law_X6_plot : GoodIn wsL_law (wsV RL 77 RX6 yX6_plot wsX6_plot) := goodIn_app (goodIn_of _ (by decide +kernel)) ggL_law_X6_plot
set_option maxRecDepth 20000 in
theorem ggL_law_X5_cousin : GoodIn wsL_law wsX5_cousin := goodIn_r _ [630, 15, 152, 23, 208, 153, 154, 2, 155, 343, 344, 345, 22, 346, 64, 65, 347, 256, 257, 14, 258, 44, 597, 598, 599, 600, 42, 631, 355, 356, 357, 632, 252, 253, 254, 633, 634, 635, 636, 231, 232, 233, 41, 637, 376, 377, 378, 245, 246, 379, 380, 381, 382, 383, 384, 385, 386, 387, 388, 389, 390, 391, 354, 638, 639, 640, 641, 642, 643, 644, 645, 646, 647, 648, 649, 650, 227, 228, 229, 43, 230, 733, 734, 735, 736, 737, 738, 739, 749, 750, 751, 752, 753, 754, 755, 756, 757, 766, 767, 768, 769, 770] (by decide +kernel) (by decide +kernel)
set_option maxRecDepth 20000 in
theorem gL_law_X5_cousin : GoodIn wsL_law (wsV RL 78 RX5 yX5_cousin wsX5_cousin) := goodIn_app (goodIn_of _ (by decide +kernel)) ggL_law_X5_cousin
set_option maxRecDepth 20000 in
theorem ggL_law_X6_cousin : GoodIn wsL_law wsX6_cousin := goodIn_r _ [654, 83, 164, 165, 5, 166, 133, 134, 135, 606, 607, 608, 609, 400, 401, 402, 403, 323, 324, 325, 326, 319, 320, 321, 322, 655, 656, 657, 658, 300, 301, 302, 303, 304, 305, 306, 307, 412, 413, 414, 415, 416, 417, 418, 419, 420, 421, 422, 423, 659, 660, 661, 662, 292, 293, 294, 295, 296, 297, 298, 299, 740, 741, 742, 743, 744, 745, 746, 747, 748] (by decide +kernel) (by decide +kernel)
set_option maxRecDepth 20000 in
theorem gL_law_X6_cousin : GoodIn wsL_law (wsV RL 81 RX6 yX6_cousin wsX6_cousin) := goodIn_app (goodIn_of _ (by decide +kernel)) ggL_law_X6_cousin
set_option maxRecDepth 20000 in
theorem ggL_law_X5_pair : GoodIn wsL_law wsX5_pair := goodIn_r _ [666, 23, 15, 208, 153, 154, 2, 155, 343, 344, 345, 22, 346, 64, 65, 347, 256, 257, 14, 258, 44, 171, 172, 173, 174, 41, 631, 355, 356, 357, 667, 388, 389, 390, 391, 668, 380, 381, 382, 383, 384, 385, 386, 387, 354, 348, 349, 350, 351, 352, 353, 733, 734, 735, 736, 737, 738, 739, 749, 750, 751, 752, 753, 754, 755, 756, 757, 766, 767, 768, 769, 770] (by decide +kernel) (by decide +kernel)
set_option maxRecDepth 20000 in
theorem gL_law_X5_pair : GoodIn wsL_law (wsV RL 82 RX5 yX5_pair wsX5_pair) := goodIn_app (goodIn_of _ (by decide +kernel)) ggL_law_X5_pair
set_option maxRecDepth 20000 in
theorem ggL_law_X6_pair : GoodIn wsL_law wsX6_pair := goodIn_r _ [672, 164, 165, 5, 166, 133, 134, 135, 304, 305, 306, 307, 83, 400, 401, 402, 403, 323, 324, 325, 326, 420, 421, 422, 423, 416, 417, 418, 419, 396, 397, 398, 399, 740, 741, 742, 743, 744, 745, 746, 747, 748] (by decide +kernel) (by decide +kernel)
set_option maxRecDepth 20000 in
theorem gL_law_X6_pair : GoodIn wsL_law (wsV RL 85 RX6 yX6_pair wsX6_pair) := goodIn_app (goodIn_of _ (by decide +kernel)) ggL_law_X6_pair
set_option maxRecDepth 20000 in
theorem ggL_law_X5_total : GoodIn wsL_law wsX5_total := goodIn_r _ [676, 23, 15, 208, 187, 210, 211, 362, 31, 583, 27, 460, 343, 344, 345, 22, 346, 64, 65, 154, 2, 155, 347, 256, 257, 14, 258, 44, 597, 598, 599, 600, 42, 371, 372, 373, 374, 245, 246, 375, 376, 377, 378, 379, 380, 381, 382, 383, 384, 385, 386, 387, 388, 389, 390, 391, 354, 355, 356, 357, 677, 678, 679, 680, 681, 639, 640, 641, 682, 683, 684, 685, 437, 349, 350, 351, 352, 353, 172, 173, 174, 41, 733, 734, 735, 736, 737, 738, 739, 749, 750, 751, 752, 753, 754, 755, 756, 757, 779, 780, 771, 772, 773, 774, 775, 776, 777, 778, 766, 767, 768, 769, 770] (by decide +kernel) (by decide +kernel)
set_option maxRecDepth 20000 in
theorem gL_law_X5_total : GoodIn wsL_law (wsV RL 86 RX5 yX5_total wsX5_total) := goodIn_app (goodIn_of _ (by decide +kernel)) ggL_law_X5_total
set_option maxRecDepth 20000 in
theorem ggL_law_X6_total : GoodIn wsL_law wsX6_total := goodIn_r _ [689, 83, 147, 470, 606, 607, 608, 5, 609, 408, 409, 410, 411, 412, 413, 414, 415, 416, 417, 418, 419, 420, 421, 422, 423, 400, 401, 402, 403, 323, 324, 325, 326, 304, 305, 306, 307, 690, 691, 692, 693, 659, 660, 661, 662, 694, 695, 696, 697, 396, 397, 398, 399, 740, 741, 742, 743, 744, 745, 746, 747, 748] (by decide +kernel) (by decide +kernel)
set_option maxRecDepth 20000 in
theorem gL_law_X6_total : GoodIn wsL_law (wsV RL 89 RX6 yX6_total wsX6_total) := goodIn_app (goodIn_of _ (by decide +kernel)) ggL_law_X6_total
set_option maxRecDepth 20000 in
theorem ggL_law_X5_ifDivided : GoodIn wsL_law wsX5_ifDivided := goodIn_r _ [701, 19, 199, 212, 23, 207, 702, 200, 201, 2, 202, 213, 214, 215, 18, 216, 217, 218, 219, 220, 221, 222, 223, 224, 225, 59, 58, 226, 227, 228, 14, 229, 43, 230, 231, 232, 233, 41, 234, 235, 236, 237, 238, 239, 240, 241, 242, 243, 244, 245, 246, 247, 248, 249, 250, 251, 252, 253, 254, 44, 255, 256, 257, 258, 259, 260, 261, 262, 263, 264, 265, 266, 267, 268, 172, 173, 174, 269, 270, 271, 272, 57, 273, 274, 275, 276, 277, 278, 343, 344, 345, 22, 346, 64, 65, 154, 155, 347, 371, 372, 373, 374, 375, 376, 377, 378, 379, 380, 381, 382, 383, 384, 385, 386, 387, 388, 389, 390, 391, 354, 355, 356, 357, 733, 734, 735, 736, 737, 738, 739, 758, 759, 760, 761, 762, 763, 764, 765, 749, 750, 751, 752, 753, 754, 755, 756, 757, 766, 767, 768, 769, 770] (by decide +kernel) (by decide +kernel)
set_option maxRecDepth 20000 in
theorem gL_law_X5_ifDivided : GoodIn wsL_law (wsV RL 90 RX5 yX5_ifDivided wsX5_ifDivided) := goodIn_app (goodIn_of _ (by decide +kernel)) ggL_law_X5_ifDivided
set_option maxRecDepth 20000 in
theorem ggL_law_X6_ifDivided : GoodIn wsL_law wsX6_ifDivided := goodIn_r _ [706, 83, 287, 133, 134, 5, 135, 707, 708, 709, 710, 283, 284, 285, 286, 288, 289, 290, 291, 87, 292, 293, 294, 295, 296, 297, 298, 299, 300, 301, 302, 303, 304, 305, 306, 307, 308, 309, 310, 311, 312, 313, 314, 315, 316, 317, 318, 319, 320, 321, 322, 323, 324, 325, 326, 327, 328, 329, 330, 408, 409, 410, 411, 412, 413, 414, 415, 416, 417, 418, 419, 420, 421, 422, 423, 400, 401, 402, 403, 740, 741, 742, 743, 744, 745, 746, 747, 748] (by decide +kernel) (by decide +kernel)
set_option maxRecDepth 20000 in
theorem gL_law_X6_ifDivided : GoodIn wsL_law (wsV RL 93 RX6 yX6_ifDivided wsX6_ifDivided) := goodIn_app (goodIn_of _ (by decide +kernel)) ggL_law_X6_ifDivided
set_option maxRecDepth 20000 in
theorem ggL_law_X5_bestTrade : GoodIn wsL_law wsX5_bestTrade := goodIn_r _ [714, 23, 15, 208, 428, 429, 715, 343, 344, 345, 22, 346, 64, 65, 154, 2, 155, 347, 256, 257, 14, 258, 44, 430, 431, 432, 433, 434, 435, 436, 437, 349, 350, 351, 352, 353, 172, 173, 174, 41, 354, 355, 356, 357, 438, 439, 440, 441, 442, 368, 369, 370, 443, 372, 373, 374, 245, 246, 375, 376, 377, 378, 379, 380, 381, 382, 383, 384, 385, 386, 387, 388, 389, 390, 391, 733, 734, 735, 736, 737, 738, 739, 749, 750, 751, 752, 753, 754, 755, 756, 757, 766, 767, 768, 769, 770] (by decide +kernel) (by decide +kernel)
set_option maxRecDepth 20000 in
theorem gL_law_X5_bestTrade : GoodIn wsL_law (wsV RL 94 RX5 yX5_bestTrade wsX5_bestTrade) := goodIn_app (goodIn_of _ (by decide +kernel)) ggL_law_X5_bestTrade
set_option maxRecDepth 20000 in
theorem ggL_law_X6_bestTrade : GoodIn wsL_law wsX6_bestTrade := goodIn_r _ [719, 133, 134, 5, 135, 448, 449, 450, 451, 396, 397, 398, 399, 83, 304, 305, 306, 307, 400, 401, 402, 403, 323, 324, 325, 326, 404, 405, 406, 407, 408, 409, 410, 411, 412, 413, 414, 415, 416, 417, 418, 419, 420, 421, 422, 423, 707, 708, 709, 710, 740, 741, 742, 743, 744, 745, 746, 747, 748] (by decide +kernel) (by decide +kernel)
set_option maxRecDepth 20000 in
theorem gL_law_X6_bestTrade : GoodIn wsL_law (wsV RL 97 RX6 yX6_bestTrade wsX6_bestTrade) := goodIn_app (goodIn_of _ (by decide +kernel)) ggL_law_X6_bestTrade
set_option maxRecDepth 20000 in
theorem ggL_law_X5_bestWithout : GoodIn wsL_law wsX5_bestWithout := goodIn_r _ [723, 724, 725, 726, 2, 727, 19, 23, 207, 728, 273, 274, 213, 214, 215, 18, 216, 217, 218, 219, 220, 221, 222, 223, 224, 225, 59, 58, 226, 227, 228, 14, 229, 43, 230, 231, 232, 233, 41, 234, 235, 236, 237, 238, 239, 240, 241, 242, 243, 244, 245, 246, 247, 248, 249, 250, 251, 252, 253, 254, 44, 255, 256, 257, 258, 259, 260, 261, 262, 263, 264, 265, 266, 267, 268, 172, 173, 174, 269, 270, 271, 272, 57, 275, 276, 277, 278, 343, 344, 345, 22, 346, 64, 65, 154, 155, 347, 371, 372, 373, 374, 375, 376, 377, 378, 379, 380, 381, 382, 383, 384, 385, 386, 387, 388, 389, 390, 391, 354, 355, 356, 357, 733, 734, 735, 736, 737, 738, 739, 758, 759, 760, 761, 762, 763, 764, 765, 749, 750, 751, 752, 753, 754, 755, 756, 757, 766, 767, 768, 769, 770] (by decide +kernel) (by decide +kernel)
set_option maxRecDepth 20000 in
theorem gL_law_X5_bestWithout : GoodIn wsL_law (wsV RL 98 RX5 yX5_bestWithout wsX5_bestWithout) := goodIn_app (goodIn_of _ (by decide +kernel)) ggL_law_X5_bestWithout
set_option maxRecDepth 20000 in
theorem ggL_law_X6_bestWithout : GoodIn wsL_law wsX6_bestWithout := goodIn_r _ [732, 133, 134, 5, 135, 707, 708, 709, 710, 83, 283, 284, 285, 286, 287, 288, 289, 290, 291, 87, 292, 293, 294, 295, 296, 297, 298, 299, 300, 301, 302, 303, 304, 305, 306, 307, 308, 309, 310, 311, 312, 313, 314, 315, 316, 317, 318, 319, 320, 321, 322, 323, 324, 325, 326, 327, 328, 329, 330, 412, 413, 414, 415, 416, 417, 418, 419, 420, 421, 422, 423, 400, 401, 402, 403, 740, 741, 742, 743, 744, 745, 746, 747, 748] (by decide +kernel) (by decide +kernel)
set_option maxRecDepth 20000 in
theorem gL_law_X6_bestWithout : GoodIn wsL_law (wsV RL 101 RX6 yX6_bestWithout wsX6_bestWithout) := goodIn_app (goodIn_of _ (by decide +kernel)) ggL_law_X6_bestWithout
theorem dL_law_0 : decode cL_law 0 = .ok (.new 7, 3) := by decide +kernel
theorem dL_law_3 : decode cL_law 3 = .ok (.dup, 1) := by decide +kernel
theorem dL_law_4 : decode cL_law 4 = .ok (.invokespecial 9, 3) := by decide +kernel
theorem dL_law_7 : decode cL_law 7 = .ok (.astore_n 1, 1) := by decide +kernel
theorem dL_law_8 : decode cL_law 8 = .ok (.new 10, 3) := by decide +kernel
theorem dL_law_11 : decode cL_law 11 = .ok (.dup, 1) := by decide +kernel
theorem dL_law_12 : decode cL_law 12 = .ok (.invokespecial 12, 3) := by decide +kernel
theorem dL_law_15 : decode cL_law 15 = .ok (.astore_n 2, 1) := by decide +kernel
theorem dL_law_16 : decode cL_law 16 = .ok (.iconst 0, 1) := by decide +kernel
theorem dL_law_17 : decode cL_law 17 = .ok (.istore_n 3, 1) := by decide +kernel
theorem dL_law_18 : decode cL_law 18 = .ok (.iload_n 3, 1) := by decide +kernel
theorem dL_law_19 : decode cL_law 19 = .ok (.aload_n 0, 1) := by decide +kernel
theorem dL_law_20 : decode cL_law 20 = .ok (.arraylength, 1) := by decide +kernel
theorem dL_law_21 : decode cL_law 21 = .ok (.iconst 4, 1) := by decide +kernel
theorem dL_law_22 : decode cL_law 22 = .ok (.isub, 1) := by decide +kernel
theorem dL_law_23 : decode cL_law 23 = .ok (.if_icmp .gt 680, 3) := by decide +kernel
theorem dL_law_26 : decode cL_law 26 = .ok (.aload_n 0, 1) := by decide +kernel
theorem dL_law_27 : decode cL_law 27 = .ok (.iload_n 3, 1) := by decide +kernel
theorem dL_law_28 : decode cL_law 28 = .ok (.iaload, 1) := by decide +kernel
theorem dL_law_29 : decode cL_law 29 = .ok (.bipush 31, 2) := by decide +kernel
theorem dL_law_31 : decode cL_law 31 = .ok (.iand, 1) := by decide +kernel
theorem dL_law_32 : decode cL_law 32 = .ok (.tableswitch 665 0 20 #[100, 143, 186, 229, 262, 285, 318, 351, 364, 389, 402, 415, 428, 441, 454, 487, 520, 563, 586, 619, 642], 100) := by decide +kernel
theorem dL_law_132 : decode cL_law 132 = .ok (.aload_n 1, 1) := by decide +kernel
theorem dL_law_133 : decode cL_law 133 = .ok (.aload_n 0, 1) := by decide +kernel
theorem dL_law_134 : decode cL_law 134 = .ok (.iload_n 3, 1) := by decide +kernel
theorem dL_law_135 : decode cL_law 135 = .ok (.iconst 1, 1) := by decide +kernel
theorem dL_law_136 : decode cL_law 136 = .ok (.iadd, 1) := by decide +kernel
theorem dL_law_137 : decode cL_law 137 = .ok (.iaload, 1) := by decide +kernel
theorem dL_law_138 : decode cL_law 138 = .ok (.aload_n 0, 1) := by decide +kernel
theorem dL_law_139 : decode cL_law 139 = .ok (.iload_n 3, 1) := by decide +kernel
theorem dL_law_140 : decode cL_law 140 = .ok (.iconst 2, 1) := by decide +kernel
theorem dL_law_141 : decode cL_law 141 = .ok (.iadd, 1) := by decide +kernel
theorem dL_law_142 : decode cL_law 142 = .ok (.iaload, 1) := by decide +kernel
theorem dL_law_143 : decode cL_law 143 = .ok (.aload_n 0, 1) := by decide +kernel
theorem dL_law_144 : decode cL_law 144 = .ok (.iload_n 3, 1) := by decide +kernel
theorem dL_law_145 : decode cL_law 145 = .ok (.iconst 3, 1) := by decide +kernel
theorem dL_law_146 : decode cL_law 146 = .ok (.iadd, 1) := by decide +kernel
theorem dL_law_147 : decode cL_law 147 = .ok (.iaload, 1) := by decide +kernel
theorem dL_law_148 : decode cL_law 148 = .ok (.invokevirtual 13, 3) := by decide +kernel
theorem dL_law_151 : decode cL_law 151 = .ok (.aload_n 2, 1) := by decide +kernel
theorem dL_law_152 : decode cL_law 152 = .ok (.aload_n 0, 1) := by decide +kernel
theorem dL_law_153 : decode cL_law 153 = .ok (.iload_n 3, 1) := by decide +kernel
theorem dL_law_154 : decode cL_law 154 = .ok (.iconst 1, 1) := by decide +kernel
theorem dL_law_155 : decode cL_law 155 = .ok (.iadd, 1) := by decide +kernel
theorem dL_law_156 : decode cL_law 156 = .ok (.iaload, 1) := by decide +kernel
theorem dL_law_157 : decode cL_law 157 = .ok (.aload_n 0, 1) := by decide +kernel
theorem dL_law_158 : decode cL_law 158 = .ok (.iload_n 3, 1) := by decide +kernel
theorem dL_law_159 : decode cL_law 159 = .ok (.iconst 2, 1) := by decide +kernel
theorem dL_law_160 : decode cL_law 160 = .ok (.iadd, 1) := by decide +kernel
theorem dL_law_161 : decode cL_law 161 = .ok (.iaload, 1) := by decide +kernel
theorem dL_law_162 : decode cL_law 162 = .ok (.aload_n 0, 1) := by decide +kernel
theorem dL_law_163 : decode cL_law 163 = .ok (.iload_n 3, 1) := by decide +kernel
theorem dL_law_164 : decode cL_law 164 = .ok (.iconst 3, 1) := by decide +kernel
theorem dL_law_165 : decode cL_law 165 = .ok (.iadd, 1) := by decide +kernel
theorem dL_law_166 : decode cL_law 166 = .ok (.iaload, 1) := by decide +kernel
theorem dL_law_167 : decode cL_law 167 = .ok (.invokevirtual 17, 3) := by decide +kernel
theorem dL_law_170 : decode cL_law 170 = .ok (.if_icmp .eq 527, 3) := by decide +kernel
theorem dL_law_173 : decode cL_law 173 = .ok (.iconst 0, 1) := by decide +kernel
theorem dL_law_174 : decode cL_law 174 = .ok (.ireturn, 1) := by decide +kernel
theorem dL_law_175 : decode cL_law 175 = .ok (.aload_n 1, 1) := by decide +kernel
theorem dL_law_176 : decode cL_law 176 = .ok (.aload_n 0, 1) := by decide +kernel
theorem dL_law_177 : decode cL_law 177 = .ok (.iload_n 3, 1) := by decide +kernel
theorem dL_law_178 : decode cL_law 178 = .ok (.iconst 1, 1) := by decide +kernel
theorem dL_law_179 : decode cL_law 179 = .ok (.iadd, 1) := by decide +kernel
theorem dL_law_180 : decode cL_law 180 = .ok (.iaload, 1) := by decide +kernel
theorem dL_law_181 : decode cL_law 181 = .ok (.aload_n 0, 1) := by decide +kernel
theorem dL_law_182 : decode cL_law 182 = .ok (.iload_n 3, 1) := by decide +kernel
theorem dL_law_183 : decode cL_law 183 = .ok (.iconst 2, 1) := by decide +kernel
theorem dL_law_184 : decode cL_law 184 = .ok (.iadd, 1) := by decide +kernel
theorem dL_law_185 : decode cL_law 185 = .ok (.iaload, 1) := by decide +kernel
theorem dL_law_186 : decode cL_law 186 = .ok (.aload_n 0, 1) := by decide +kernel
theorem dL_law_187 : decode cL_law 187 = .ok (.iload_n 3, 1) := by decide +kernel
theorem dL_law_188 : decode cL_law 188 = .ok (.iconst 3, 1) := by decide +kernel
theorem dL_law_189 : decode cL_law 189 = .ok (.iadd, 1) := by decide +kernel
theorem dL_law_190 : decode cL_law 190 = .ok (.iaload, 1) := by decide +kernel
theorem dL_law_191 : decode cL_law 191 = .ok (.invokevirtual 18, 3) := by decide +kernel
theorem dL_law_194 : decode cL_law 194 = .ok (.aload_n 2, 1) := by decide +kernel
theorem dL_law_195 : decode cL_law 195 = .ok (.aload_n 0, 1) := by decide +kernel
theorem dL_law_196 : decode cL_law 196 = .ok (.iload_n 3, 1) := by decide +kernel
theorem dL_law_197 : decode cL_law 197 = .ok (.iconst 1, 1) := by decide +kernel
theorem dL_law_198 : decode cL_law 198 = .ok (.iadd, 1) := by decide +kernel
theorem dL_law_199 : decode cL_law 199 = .ok (.iaload, 1) := by decide +kernel
theorem dL_law_200 : decode cL_law 200 = .ok (.aload_n 0, 1) := by decide +kernel
theorem dL_law_201 : decode cL_law 201 = .ok (.iload_n 3, 1) := by decide +kernel
theorem dL_law_202 : decode cL_law 202 = .ok (.iconst 2, 1) := by decide +kernel
theorem dL_law_203 : decode cL_law 203 = .ok (.iadd, 1) := by decide +kernel
theorem dL_law_204 : decode cL_law 204 = .ok (.iaload, 1) := by decide +kernel
theorem dL_law_205 : decode cL_law 205 = .ok (.aload_n 0, 1) := by decide +kernel
theorem dL_law_206 : decode cL_law 206 = .ok (.iload_n 3, 1) := by decide +kernel
theorem dL_law_207 : decode cL_law 207 = .ok (.iconst 3, 1) := by decide +kernel
theorem dL_law_208 : decode cL_law 208 = .ok (.iadd, 1) := by decide +kernel
theorem dL_law_209 : decode cL_law 209 = .ok (.iaload, 1) := by decide +kernel
theorem dL_law_210 : decode cL_law 210 = .ok (.invokevirtual 21, 3) := by decide +kernel
theorem dL_law_213 : decode cL_law 213 = .ok (.if_icmp .eq 484, 3) := by decide +kernel
theorem dL_law_216 : decode cL_law 216 = .ok (.iconst 0, 1) := by decide +kernel
theorem dL_law_217 : decode cL_law 217 = .ok (.ireturn, 1) := by decide +kernel
theorem dL_law_218 : decode cL_law 218 = .ok (.aload_n 1, 1) := by decide +kernel
theorem dL_law_219 : decode cL_law 219 = .ok (.aload_n 0, 1) := by decide +kernel
theorem dL_law_220 : decode cL_law 220 = .ok (.iload_n 3, 1) := by decide +kernel
theorem dL_law_221 : decode cL_law 221 = .ok (.iconst 1, 1) := by decide +kernel
theorem dL_law_222 : decode cL_law 222 = .ok (.iadd, 1) := by decide +kernel
theorem dL_law_223 : decode cL_law 223 = .ok (.iaload, 1) := by decide +kernel
theorem dL_law_224 : decode cL_law 224 = .ok (.aload_n 0, 1) := by decide +kernel
theorem dL_law_225 : decode cL_law 225 = .ok (.iload_n 3, 1) := by decide +kernel
theorem dL_law_226 : decode cL_law 226 = .ok (.iconst 2, 1) := by decide +kernel
theorem dL_law_227 : decode cL_law 227 = .ok (.iadd, 1) := by decide +kernel
theorem dL_law_228 : decode cL_law 228 = .ok (.iaload, 1) := by decide +kernel
theorem dL_law_229 : decode cL_law 229 = .ok (.aload_n 0, 1) := by decide +kernel
theorem dL_law_230 : decode cL_law 230 = .ok (.iload_n 3, 1) := by decide +kernel
theorem dL_law_231 : decode cL_law 231 = .ok (.iconst 3, 1) := by decide +kernel
theorem dL_law_232 : decode cL_law 232 = .ok (.iadd, 1) := by decide +kernel
theorem dL_law_233 : decode cL_law 233 = .ok (.iaload, 1) := by decide +kernel
theorem dL_law_234 : decode cL_law 234 = .ok (.invokevirtual 22, 3) := by decide +kernel
theorem dL_law_237 : decode cL_law 237 = .ok (.aload_n 2, 1) := by decide +kernel
theorem dL_law_238 : decode cL_law 238 = .ok (.aload_n 0, 1) := by decide +kernel
theorem dL_law_239 : decode cL_law 239 = .ok (.iload_n 3, 1) := by decide +kernel
theorem dL_law_240 : decode cL_law 240 = .ok (.iconst 1, 1) := by decide +kernel
theorem dL_law_241 : decode cL_law 241 = .ok (.iadd, 1) := by decide +kernel
theorem dL_law_242 : decode cL_law 242 = .ok (.iaload, 1) := by decide +kernel
theorem dL_law_243 : decode cL_law 243 = .ok (.aload_n 0, 1) := by decide +kernel
theorem dL_law_244 : decode cL_law 244 = .ok (.iload_n 3, 1) := by decide +kernel
theorem dL_law_245 : decode cL_law 245 = .ok (.iconst 2, 1) := by decide +kernel
theorem dL_law_246 : decode cL_law 246 = .ok (.iadd, 1) := by decide +kernel
theorem dL_law_247 : decode cL_law 247 = .ok (.iaload, 1) := by decide +kernel
theorem dL_law_248 : decode cL_law 248 = .ok (.aload_n 0, 1) := by decide +kernel
theorem dL_law_249 : decode cL_law 249 = .ok (.iload_n 3, 1) := by decide +kernel
theorem dL_law_250 : decode cL_law 250 = .ok (.iconst 3, 1) := by decide +kernel
theorem dL_law_251 : decode cL_law 251 = .ok (.iadd, 1) := by decide +kernel
theorem dL_law_252 : decode cL_law 252 = .ok (.iaload, 1) := by decide +kernel
theorem dL_law_253 : decode cL_law 253 = .ok (.invokevirtual 25, 3) := by decide +kernel
theorem dL_law_256 : decode cL_law 256 = .ok (.if_icmp .eq 441, 3) := by decide +kernel
theorem dL_law_259 : decode cL_law 259 = .ok (.iconst 0, 1) := by decide +kernel
theorem dL_law_260 : decode cL_law 260 = .ok (.ireturn, 1) := by decide +kernel
theorem dL_law_261 : decode cL_law 261 = .ok (.aload_n 1, 1) := by decide +kernel
theorem dL_law_262 : decode cL_law 262 = .ok (.aload_n 0, 1) := by decide +kernel
theorem dL_law_263 : decode cL_law 263 = .ok (.iload_n 3, 1) := by decide +kernel
theorem dL_law_264 : decode cL_law 264 = .ok (.iconst 1, 1) := by decide +kernel
theorem dL_law_265 : decode cL_law 265 = .ok (.iadd, 1) := by decide +kernel
theorem dL_law_266 : decode cL_law 266 = .ok (.iaload, 1) := by decide +kernel
theorem dL_law_267 : decode cL_law 267 = .ok (.aload_n 0, 1) := by decide +kernel
theorem dL_law_268 : decode cL_law 268 = .ok (.iload_n 3, 1) := by decide +kernel
theorem dL_law_269 : decode cL_law 269 = .ok (.iconst 2, 1) := by decide +kernel
theorem dL_law_270 : decode cL_law 270 = .ok (.iadd, 1) := by decide +kernel
theorem dL_law_271 : decode cL_law 271 = .ok (.iaload, 1) := by decide +kernel
theorem dL_law_272 : decode cL_law 272 = .ok (.invokevirtual 26, 3) := by decide +kernel
theorem dL_law_275 : decode cL_law 275 = .ok (.aload_n 2, 1) := by decide +kernel
theorem dL_law_276 : decode cL_law 276 = .ok (.aload_n 0, 1) := by decide +kernel
theorem dL_law_277 : decode cL_law 277 = .ok (.iload_n 3, 1) := by decide +kernel
theorem dL_law_278 : decode cL_law 278 = .ok (.iconst 1, 1) := by decide +kernel
theorem dL_law_279 : decode cL_law 279 = .ok (.iadd, 1) := by decide +kernel
theorem dL_law_280 : decode cL_law 280 = .ok (.iaload, 1) := by decide +kernel
theorem dL_law_281 : decode cL_law 281 = .ok (.aload_n 0, 1) := by decide +kernel
theorem dL_law_282 : decode cL_law 282 = .ok (.iload_n 3, 1) := by decide +kernel
theorem dL_law_283 : decode cL_law 283 = .ok (.iconst 2, 1) := by decide +kernel
theorem dL_law_284 : decode cL_law 284 = .ok (.iadd, 1) := by decide +kernel
theorem dL_law_285 : decode cL_law 285 = .ok (.iaload, 1) := by decide +kernel
theorem dL_law_286 : decode cL_law 286 = .ok (.invokevirtual 30, 3) := by decide +kernel
theorem dL_law_289 : decode cL_law 289 = .ok (.if_icmp .eq 408, 3) := by decide +kernel
theorem dL_law_292 : decode cL_law 292 = .ok (.iconst 0, 1) := by decide +kernel
theorem dL_law_293 : decode cL_law 293 = .ok (.ireturn, 1) := by decide +kernel
theorem dL_law_294 : decode cL_law 294 = .ok (.aload_n 1, 1) := by decide +kernel
theorem dL_law_295 : decode cL_law 295 = .ok (.aload_n 0, 1) := by decide +kernel
theorem dL_law_296 : decode cL_law 296 = .ok (.iload_n 3, 1) := by decide +kernel
theorem dL_law_297 : decode cL_law 297 = .ok (.iconst 1, 1) := by decide +kernel
theorem dL_law_298 : decode cL_law 298 = .ok (.iadd, 1) := by decide +kernel
theorem dL_law_299 : decode cL_law 299 = .ok (.iaload, 1) := by decide +kernel
theorem dL_law_300 : decode cL_law 300 = .ok (.invokevirtual 31, 3) := by decide +kernel
theorem dL_law_303 : decode cL_law 303 = .ok (.aload_n 2, 1) := by decide +kernel
theorem dL_law_304 : decode cL_law 304 = .ok (.aload_n 0, 1) := by decide +kernel
theorem dL_law_305 : decode cL_law 305 = .ok (.iload_n 3, 1) := by decide +kernel
theorem dL_law_306 : decode cL_law 306 = .ok (.iconst 1, 1) := by decide +kernel
theorem dL_law_307 : decode cL_law 307 = .ok (.iadd, 1) := by decide +kernel
theorem dL_law_308 : decode cL_law 308 = .ok (.iaload, 1) := by decide +kernel
theorem dL_law_309 : decode cL_law 309 = .ok (.invokevirtual 35, 3) := by decide +kernel
theorem dL_law_312 : decode cL_law 312 = .ok (.if_icmp .eq 385, 3) := by decide +kernel
theorem dL_law_315 : decode cL_law 315 = .ok (.iconst 0, 1) := by decide +kernel
theorem dL_law_316 : decode cL_law 316 = .ok (.ireturn, 1) := by decide +kernel
theorem dL_law_317 : decode cL_law 317 = .ok (.aload_n 1, 1) := by decide +kernel
theorem dL_law_318 : decode cL_law 318 = .ok (.aload_n 0, 1) := by decide +kernel
theorem dL_law_319 : decode cL_law 319 = .ok (.iload_n 3, 1) := by decide +kernel
theorem dL_law_320 : decode cL_law 320 = .ok (.iconst 1, 1) := by decide +kernel
theorem dL_law_321 : decode cL_law 321 = .ok (.iadd, 1) := by decide +kernel
theorem dL_law_322 : decode cL_law 322 = .ok (.iaload, 1) := by decide +kernel
theorem dL_law_323 : decode cL_law 323 = .ok (.aload_n 0, 1) := by decide +kernel
theorem dL_law_324 : decode cL_law 324 = .ok (.iload_n 3, 1) := by decide +kernel
theorem dL_law_325 : decode cL_law 325 = .ok (.iconst 2, 1) := by decide +kernel
theorem dL_law_326 : decode cL_law 326 = .ok (.iadd, 1) := by decide +kernel
theorem dL_law_327 : decode cL_law 327 = .ok (.iaload, 1) := by decide +kernel
theorem dL_law_328 : decode cL_law 328 = .ok (.invokevirtual 36, 3) := by decide +kernel
theorem dL_law_331 : decode cL_law 331 = .ok (.aload_n 2, 1) := by decide +kernel
theorem dL_law_332 : decode cL_law 332 = .ok (.aload_n 0, 1) := by decide +kernel
theorem dL_law_333 : decode cL_law 333 = .ok (.iload_n 3, 1) := by decide +kernel
theorem dL_law_334 : decode cL_law 334 = .ok (.iconst 1, 1) := by decide +kernel
theorem dL_law_335 : decode cL_law 335 = .ok (.iadd, 1) := by decide +kernel
theorem dL_law_336 : decode cL_law 336 = .ok (.iaload, 1) := by decide +kernel
theorem dL_law_337 : decode cL_law 337 = .ok (.aload_n 0, 1) := by decide +kernel
theorem dL_law_338 : decode cL_law 338 = .ok (.iload_n 3, 1) := by decide +kernel
theorem dL_law_339 : decode cL_law 339 = .ok (.iconst 2, 1) := by decide +kernel
theorem dL_law_340 : decode cL_law 340 = .ok (.iadd, 1) := by decide +kernel
theorem dL_law_341 : decode cL_law 341 = .ok (.iaload, 1) := by decide +kernel
theorem dL_law_342 : decode cL_law 342 = .ok (.invokevirtual 39, 3) := by decide +kernel
theorem dL_law_345 : decode cL_law 345 = .ok (.if_icmp .eq 352, 3) := by decide +kernel
theorem dL_law_348 : decode cL_law 348 = .ok (.iconst 0, 1) := by decide +kernel
theorem dL_law_349 : decode cL_law 349 = .ok (.ireturn, 1) := by decide +kernel
theorem dL_law_350 : decode cL_law 350 = .ok (.aload_n 1, 1) := by decide +kernel
theorem dL_law_351 : decode cL_law 351 = .ok (.aload_n 0, 1) := by decide +kernel
theorem dL_law_352 : decode cL_law 352 = .ok (.iload_n 3, 1) := by decide +kernel
theorem dL_law_353 : decode cL_law 353 = .ok (.iconst 1, 1) := by decide +kernel
theorem dL_law_354 : decode cL_law 354 = .ok (.iadd, 1) := by decide +kernel
theorem dL_law_355 : decode cL_law 355 = .ok (.iaload, 1) := by decide +kernel
theorem dL_law_356 : decode cL_law 356 = .ok (.aload_n 0, 1) := by decide +kernel
theorem dL_law_357 : decode cL_law 357 = .ok (.iload_n 3, 1) := by decide +kernel
theorem dL_law_358 : decode cL_law 358 = .ok (.iconst 2, 1) := by decide +kernel
theorem dL_law_359 : decode cL_law 359 = .ok (.iadd, 1) := by decide +kernel
theorem dL_law_360 : decode cL_law 360 = .ok (.iaload, 1) := by decide +kernel
theorem dL_law_361 : decode cL_law 361 = .ok (.invokevirtual 40, 3) := by decide +kernel
theorem dL_law_364 : decode cL_law 364 = .ok (.aload_n 2, 1) := by decide +kernel
theorem dL_law_365 : decode cL_law 365 = .ok (.aload_n 0, 1) := by decide +kernel
theorem dL_law_366 : decode cL_law 366 = .ok (.iload_n 3, 1) := by decide +kernel
theorem dL_law_367 : decode cL_law 367 = .ok (.iconst 1, 1) := by decide +kernel
theorem dL_law_368 : decode cL_law 368 = .ok (.iadd, 1) := by decide +kernel
theorem dL_law_369 : decode cL_law 369 = .ok (.iaload, 1) := by decide +kernel
theorem dL_law_370 : decode cL_law 370 = .ok (.aload_n 0, 1) := by decide +kernel
theorem dL_law_371 : decode cL_law 371 = .ok (.iload_n 3, 1) := by decide +kernel
theorem dL_law_372 : decode cL_law 372 = .ok (.iconst 2, 1) := by decide +kernel
theorem dL_law_373 : decode cL_law 373 = .ok (.iadd, 1) := by decide +kernel
theorem dL_law_374 : decode cL_law 374 = .ok (.iaload, 1) := by decide +kernel
theorem dL_law_375 : decode cL_law 375 = .ok (.invokevirtual 43, 3) := by decide +kernel
theorem dL_law_378 : decode cL_law 378 = .ok (.if_icmp .eq 319, 3) := by decide +kernel
theorem dL_law_381 : decode cL_law 381 = .ok (.iconst 0, 1) := by decide +kernel
theorem dL_law_382 : decode cL_law 382 = .ok (.ireturn, 1) := by decide +kernel
theorem dL_law_383 : decode cL_law 383 = .ok (.aload_n 1, 1) := by decide +kernel
theorem dL_law_384 : decode cL_law 384 = .ok (.invokevirtual 44, 3) := by decide +kernel
theorem dL_law_387 : decode cL_law 387 = .ok (.aload_n 2, 1) := by decide +kernel
theorem dL_law_388 : decode cL_law 388 = .ok (.invokevirtual 48, 3) := by decide +kernel
theorem dL_law_391 : decode cL_law 391 = .ok (.if_icmp .eq 306, 3) := by decide +kernel
theorem dL_law_394 : decode cL_law 394 = .ok (.iconst 0, 1) := by decide +kernel
theorem dL_law_395 : decode cL_law 395 = .ok (.ireturn, 1) := by decide +kernel
theorem dL_law_396 : decode cL_law 396 = .ok (.aload_n 1, 1) := by decide +kernel
theorem dL_law_397 : decode cL_law 397 = .ok (.aload_n 0, 1) := by decide +kernel
theorem dL_law_398 : decode cL_law 398 = .ok (.iload_n 3, 1) := by decide +kernel
theorem dL_law_399 : decode cL_law 399 = .ok (.iconst 1, 1) := by decide +kernel
theorem dL_law_400 : decode cL_law 400 = .ok (.iadd, 1) := by decide +kernel
theorem dL_law_401 : decode cL_law 401 = .ok (.iaload, 1) := by decide +kernel
theorem dL_law_402 : decode cL_law 402 = .ok (.i2c, 1) := by decide +kernel
theorem dL_law_403 : decode cL_law 403 = .ok (.invokevirtual 49, 3) := by decide +kernel
theorem dL_law_406 : decode cL_law 406 = .ok (.aload_n 2, 1) := by decide +kernel
theorem dL_law_407 : decode cL_law 407 = .ok (.aload_n 0, 1) := by decide +kernel
theorem dL_law_408 : decode cL_law 408 = .ok (.iload_n 3, 1) := by decide +kernel
theorem dL_law_409 : decode cL_law 409 = .ok (.iconst 1, 1) := by decide +kernel
theorem dL_law_410 : decode cL_law 410 = .ok (.iadd, 1) := by decide +kernel
theorem dL_law_411 : decode cL_law 411 = .ok (.iaload, 1) := by decide +kernel
theorem dL_law_412 : decode cL_law 412 = .ok (.i2c, 1) := by decide +kernel
theorem dL_law_413 : decode cL_law 413 = .ok (.invokevirtual 53, 3) := by decide +kernel
theorem dL_law_416 : decode cL_law 416 = .ok (.if_icmp .eq 281, 3) := by decide +kernel
theorem dL_law_419 : decode cL_law 419 = .ok (.iconst 0, 1) := by decide +kernel
theorem dL_law_420 : decode cL_law 420 = .ok (.ireturn, 1) := by decide +kernel
theorem dL_law_421 : decode cL_law 421 = .ok (.aload_n 1, 1) := by decide +kernel
theorem dL_law_422 : decode cL_law 422 = .ok (.invokevirtual 54, 3) := by decide +kernel
theorem dL_law_425 : decode cL_law 425 = .ok (.aload_n 2, 1) := by decide +kernel
theorem dL_law_426 : decode cL_law 426 = .ok (.invokevirtual 57, 3) := by decide +kernel
theorem dL_law_429 : decode cL_law 429 = .ok (.if_icmp .eq 268, 3) := by decide +kernel
theorem dL_law_432 : decode cL_law 432 = .ok (.iconst 0, 1) := by decide +kernel
theorem dL_law_433 : decode cL_law 433 = .ok (.ireturn, 1) := by decide +kernel
theorem dL_law_434 : decode cL_law 434 = .ok (.aload_n 1, 1) := by decide +kernel
theorem dL_law_435 : decode cL_law 435 = .ok (.invokevirtual 58, 3) := by decide +kernel
theorem dL_law_438 : decode cL_law 438 = .ok (.aload_n 2, 1) := by decide +kernel
theorem dL_law_439 : decode cL_law 439 = .ok (.invokevirtual 61, 3) := by decide +kernel
theorem dL_law_442 : decode cL_law 442 = .ok (.if_icmp .eq 255, 3) := by decide +kernel
theorem dL_law_445 : decode cL_law 445 = .ok (.iconst 0, 1) := by decide +kernel
theorem dL_law_446 : decode cL_law 446 = .ok (.ireturn, 1) := by decide +kernel
theorem dL_law_447 : decode cL_law 447 = .ok (.aload_n 1, 1) := by decide +kernel
theorem dL_law_448 : decode cL_law 448 = .ok (.invokevirtual 62, 3) := by decide +kernel
theorem dL_law_451 : decode cL_law 451 = .ok (.aload_n 2, 1) := by decide +kernel
theorem dL_law_452 : decode cL_law 452 = .ok (.invokevirtual 65, 3) := by decide +kernel
theorem dL_law_455 : decode cL_law 455 = .ok (.if_icmp .eq 242, 3) := by decide +kernel
theorem dL_law_458 : decode cL_law 458 = .ok (.iconst 0, 1) := by decide +kernel
theorem dL_law_459 : decode cL_law 459 = .ok (.ireturn, 1) := by decide +kernel
theorem dL_law_460 : decode cL_law 460 = .ok (.aload_n 1, 1) := by decide +kernel
theorem dL_law_461 : decode cL_law 461 = .ok (.invokevirtual 66, 3) := by decide +kernel
theorem dL_law_464 : decode cL_law 464 = .ok (.aload_n 2, 1) := by decide +kernel
theorem dL_law_465 : decode cL_law 465 = .ok (.invokevirtual 69, 3) := by decide +kernel
theorem dL_law_468 : decode cL_law 468 = .ok (.if_icmp .eq 229, 3) := by decide +kernel
theorem dL_law_471 : decode cL_law 471 = .ok (.iconst 0, 1) := by decide +kernel
theorem dL_law_472 : decode cL_law 472 = .ok (.ireturn, 1) := by decide +kernel
theorem dL_law_473 : decode cL_law 473 = .ok (.aload_n 1, 1) := by decide +kernel
theorem dL_law_474 : decode cL_law 474 = .ok (.invokevirtual 70, 3) := by decide +kernel
theorem dL_law_477 : decode cL_law 477 = .ok (.aload_n 2, 1) := by decide +kernel
theorem dL_law_478 : decode cL_law 478 = .ok (.invokevirtual 73, 3) := by decide +kernel
theorem dL_law_481 : decode cL_law 481 = .ok (.if_icmp .eq 216, 3) := by decide +kernel
theorem dL_law_484 : decode cL_law 484 = .ok (.iconst 0, 1) := by decide +kernel
theorem dL_law_485 : decode cL_law 485 = .ok (.ireturn, 1) := by decide +kernel
theorem dL_law_486 : decode cL_law 486 = .ok (.aload_n 1, 1) := by decide +kernel
theorem dL_law_487 : decode cL_law 487 = .ok (.aload_n 0, 1) := by decide +kernel
theorem dL_law_488 : decode cL_law 488 = .ok (.iload_n 3, 1) := by decide +kernel
theorem dL_law_489 : decode cL_law 489 = .ok (.iconst 1, 1) := by decide +kernel
theorem dL_law_490 : decode cL_law 490 = .ok (.iadd, 1) := by decide +kernel
theorem dL_law_491 : decode cL_law 491 = .ok (.iaload, 1) := by decide +kernel
theorem dL_law_492 : decode cL_law 492 = .ok (.aload_n 0, 1) := by decide +kernel
theorem dL_law_493 : decode cL_law 493 = .ok (.iload_n 3, 1) := by decide +kernel
theorem dL_law_494 : decode cL_law 494 = .ok (.iconst 2, 1) := by decide +kernel
theorem dL_law_495 : decode cL_law 495 = .ok (.iadd, 1) := by decide +kernel
theorem dL_law_496 : decode cL_law 496 = .ok (.iaload, 1) := by decide +kernel
theorem dL_law_497 : decode cL_law 497 = .ok (.invokevirtual 74, 3) := by decide +kernel
theorem dL_law_500 : decode cL_law 500 = .ok (.aload_n 2, 1) := by decide +kernel
theorem dL_law_501 : decode cL_law 501 = .ok (.aload_n 0, 1) := by decide +kernel
theorem dL_law_502 : decode cL_law 502 = .ok (.iload_n 3, 1) := by decide +kernel
theorem dL_law_503 : decode cL_law 503 = .ok (.iconst 1, 1) := by decide +kernel
theorem dL_law_504 : decode cL_law 504 = .ok (.iadd, 1) := by decide +kernel
theorem dL_law_505 : decode cL_law 505 = .ok (.iaload, 1) := by decide +kernel
theorem dL_law_506 : decode cL_law 506 = .ok (.aload_n 0, 1) := by decide +kernel
theorem dL_law_507 : decode cL_law 507 = .ok (.iload_n 3, 1) := by decide +kernel
theorem dL_law_508 : decode cL_law 508 = .ok (.iconst 2, 1) := by decide +kernel
theorem dL_law_509 : decode cL_law 509 = .ok (.iadd, 1) := by decide +kernel
theorem dL_law_510 : decode cL_law 510 = .ok (.iaload, 1) := by decide +kernel
theorem dL_law_511 : decode cL_law 511 = .ok (.invokevirtual 77, 3) := by decide +kernel
theorem dL_law_514 : decode cL_law 514 = .ok (.if_icmp .eq 183, 3) := by decide +kernel
theorem dL_law_517 : decode cL_law 517 = .ok (.iconst 0, 1) := by decide +kernel
theorem dL_law_518 : decode cL_law 518 = .ok (.ireturn, 1) := by decide +kernel
theorem dL_law_519 : decode cL_law 519 = .ok (.aload_n 1, 1) := by decide +kernel
theorem dL_law_520 : decode cL_law 520 = .ok (.aload_n 0, 1) := by decide +kernel
theorem dL_law_521 : decode cL_law 521 = .ok (.iload_n 3, 1) := by decide +kernel
theorem dL_law_522 : decode cL_law 522 = .ok (.iconst 1, 1) := by decide +kernel
theorem dL_law_523 : decode cL_law 523 = .ok (.iadd, 1) := by decide +kernel
theorem dL_law_524 : decode cL_law 524 = .ok (.iaload, 1) := by decide +kernel
theorem dL_law_525 : decode cL_law 525 = .ok (.aload_n 0, 1) := by decide +kernel
theorem dL_law_526 : decode cL_law 526 = .ok (.iload_n 3, 1) := by decide +kernel
theorem dL_law_527 : decode cL_law 527 = .ok (.iconst 2, 1) := by decide +kernel
theorem dL_law_528 : decode cL_law 528 = .ok (.iadd, 1) := by decide +kernel
theorem dL_law_529 : decode cL_law 529 = .ok (.iaload, 1) := by decide +kernel
theorem dL_law_530 : decode cL_law 530 = .ok (.invokevirtual 78, 3) := by decide +kernel
theorem dL_law_533 : decode cL_law 533 = .ok (.aload_n 2, 1) := by decide +kernel
theorem dL_law_534 : decode cL_law 534 = .ok (.aload_n 0, 1) := by decide +kernel
theorem dL_law_535 : decode cL_law 535 = .ok (.iload_n 3, 1) := by decide +kernel
theorem dL_law_536 : decode cL_law 536 = .ok (.iconst 1, 1) := by decide +kernel
theorem dL_law_537 : decode cL_law 537 = .ok (.iadd, 1) := by decide +kernel
theorem dL_law_538 : decode cL_law 538 = .ok (.iaload, 1) := by decide +kernel
theorem dL_law_539 : decode cL_law 539 = .ok (.aload_n 0, 1) := by decide +kernel
theorem dL_law_540 : decode cL_law 540 = .ok (.iload_n 3, 1) := by decide +kernel
theorem dL_law_541 : decode cL_law 541 = .ok (.iconst 2, 1) := by decide +kernel
theorem dL_law_542 : decode cL_law 542 = .ok (.iadd, 1) := by decide +kernel
theorem dL_law_543 : decode cL_law 543 = .ok (.iaload, 1) := by decide +kernel
theorem dL_law_544 : decode cL_law 544 = .ok (.invokevirtual 81, 3) := by decide +kernel
theorem dL_law_547 : decode cL_law 547 = .ok (.if_icmp .eq 150, 3) := by decide +kernel
theorem dL_law_550 : decode cL_law 550 = .ok (.iconst 0, 1) := by decide +kernel
theorem dL_law_551 : decode cL_law 551 = .ok (.ireturn, 1) := by decide +kernel
theorem dL_law_552 : decode cL_law 552 = .ok (.aload_n 1, 1) := by decide +kernel
theorem dL_law_553 : decode cL_law 553 = .ok (.aload_n 0, 1) := by decide +kernel
theorem dL_law_554 : decode cL_law 554 = .ok (.iload_n 3, 1) := by decide +kernel
theorem dL_law_555 : decode cL_law 555 = .ok (.iconst 1, 1) := by decide +kernel
theorem dL_law_556 : decode cL_law 556 = .ok (.iadd, 1) := by decide +kernel
theorem dL_law_557 : decode cL_law 557 = .ok (.iaload, 1) := by decide +kernel
theorem dL_law_558 : decode cL_law 558 = .ok (.aload_n 0, 1) := by decide +kernel
theorem dL_law_559 : decode cL_law 559 = .ok (.iload_n 3, 1) := by decide +kernel
theorem dL_law_560 : decode cL_law 560 = .ok (.iconst 2, 1) := by decide +kernel
theorem dL_law_561 : decode cL_law 561 = .ok (.iadd, 1) := by decide +kernel
theorem dL_law_562 : decode cL_law 562 = .ok (.iaload, 1) := by decide +kernel
theorem dL_law_563 : decode cL_law 563 = .ok (.aload_n 0, 1) := by decide +kernel
theorem dL_law_564 : decode cL_law 564 = .ok (.iload_n 3, 1) := by decide +kernel
theorem dL_law_565 : decode cL_law 565 = .ok (.iconst 3, 1) := by decide +kernel
theorem dL_law_566 : decode cL_law 566 = .ok (.iadd, 1) := by decide +kernel
theorem dL_law_567 : decode cL_law 567 = .ok (.iaload, 1) := by decide +kernel
theorem dL_law_568 : decode cL_law 568 = .ok (.invokevirtual 82, 3) := by decide +kernel
theorem dL_law_571 : decode cL_law 571 = .ok (.aload_n 2, 1) := by decide +kernel
theorem dL_law_572 : decode cL_law 572 = .ok (.aload_n 0, 1) := by decide +kernel
theorem dL_law_573 : decode cL_law 573 = .ok (.iload_n 3, 1) := by decide +kernel
theorem dL_law_574 : decode cL_law 574 = .ok (.iconst 1, 1) := by decide +kernel
theorem dL_law_575 : decode cL_law 575 = .ok (.iadd, 1) := by decide +kernel
theorem dL_law_576 : decode cL_law 576 = .ok (.iaload, 1) := by decide +kernel
theorem dL_law_577 : decode cL_law 577 = .ok (.aload_n 0, 1) := by decide +kernel
theorem dL_law_578 : decode cL_law 578 = .ok (.iload_n 3, 1) := by decide +kernel
theorem dL_law_579 : decode cL_law 579 = .ok (.iconst 2, 1) := by decide +kernel
theorem dL_law_580 : decode cL_law 580 = .ok (.iadd, 1) := by decide +kernel
theorem dL_law_581 : decode cL_law 581 = .ok (.iaload, 1) := by decide +kernel
theorem dL_law_582 : decode cL_law 582 = .ok (.aload_n 0, 1) := by decide +kernel
theorem dL_law_583 : decode cL_law 583 = .ok (.iload_n 3, 1) := by decide +kernel
theorem dL_law_584 : decode cL_law 584 = .ok (.iconst 3, 1) := by decide +kernel
theorem dL_law_585 : decode cL_law 585 = .ok (.iadd, 1) := by decide +kernel
theorem dL_law_586 : decode cL_law 586 = .ok (.iaload, 1) := by decide +kernel
theorem dL_law_587 : decode cL_law 587 = .ok (.invokevirtual 85, 3) := by decide +kernel
theorem dL_law_590 : decode cL_law 590 = .ok (.if_icmp .eq 107, 3) := by decide +kernel
theorem dL_law_593 : decode cL_law 593 = .ok (.iconst 0, 1) := by decide +kernel
theorem dL_law_594 : decode cL_law 594 = .ok (.ireturn, 1) := by decide +kernel
theorem dL_law_595 : decode cL_law 595 = .ok (.aload_n 1, 1) := by decide +kernel
theorem dL_law_596 : decode cL_law 596 = .ok (.aload_n 0, 1) := by decide +kernel
theorem dL_law_597 : decode cL_law 597 = .ok (.iload_n 3, 1) := by decide +kernel
theorem dL_law_598 : decode cL_law 598 = .ok (.iconst 1, 1) := by decide +kernel
theorem dL_law_599 : decode cL_law 599 = .ok (.iadd, 1) := by decide +kernel
theorem dL_law_600 : decode cL_law 600 = .ok (.iaload, 1) := by decide +kernel
theorem dL_law_601 : decode cL_law 601 = .ok (.invokevirtual 86, 3) := by decide +kernel
theorem dL_law_604 : decode cL_law 604 = .ok (.aload_n 2, 1) := by decide +kernel
theorem dL_law_605 : decode cL_law 605 = .ok (.aload_n 0, 1) := by decide +kernel
theorem dL_law_606 : decode cL_law 606 = .ok (.iload_n 3, 1) := by decide +kernel
theorem dL_law_607 : decode cL_law 607 = .ok (.iconst 1, 1) := by decide +kernel
theorem dL_law_608 : decode cL_law 608 = .ok (.iadd, 1) := by decide +kernel
theorem dL_law_609 : decode cL_law 609 = .ok (.iaload, 1) := by decide +kernel
theorem dL_law_610 : decode cL_law 610 = .ok (.invokevirtual 89, 3) := by decide +kernel
theorem dL_law_613 : decode cL_law 613 = .ok (.if_icmp .eq 84, 3) := by decide +kernel
theorem dL_law_616 : decode cL_law 616 = .ok (.iconst 0, 1) := by decide +kernel
theorem dL_law_617 : decode cL_law 617 = .ok (.ireturn, 1) := by decide +kernel
theorem dL_law_618 : decode cL_law 618 = .ok (.aload_n 1, 1) := by decide +kernel
theorem dL_law_619 : decode cL_law 619 = .ok (.aload_n 0, 1) := by decide +kernel
theorem dL_law_620 : decode cL_law 620 = .ok (.iload_n 3, 1) := by decide +kernel
theorem dL_law_621 : decode cL_law 621 = .ok (.iconst 1, 1) := by decide +kernel
theorem dL_law_622 : decode cL_law 622 = .ok (.iadd, 1) := by decide +kernel
theorem dL_law_623 : decode cL_law 623 = .ok (.iaload, 1) := by decide +kernel
theorem dL_law_624 : decode cL_law 624 = .ok (.aload_n 0, 1) := by decide +kernel
theorem dL_law_625 : decode cL_law 625 = .ok (.iload_n 3, 1) := by decide +kernel
theorem dL_law_626 : decode cL_law 626 = .ok (.iconst 2, 1) := by decide +kernel
theorem dL_law_627 : decode cL_law 627 = .ok (.iadd, 1) := by decide +kernel
theorem dL_law_628 : decode cL_law 628 = .ok (.iaload, 1) := by decide +kernel
theorem dL_law_629 : decode cL_law 629 = .ok (.invokevirtual 90, 3) := by decide +kernel
theorem dL_law_632 : decode cL_law 632 = .ok (.aload_n 2, 1) := by decide +kernel
theorem dL_law_633 : decode cL_law 633 = .ok (.aload_n 0, 1) := by decide +kernel
theorem dL_law_634 : decode cL_law 634 = .ok (.iload_n 3, 1) := by decide +kernel
theorem dL_law_635 : decode cL_law 635 = .ok (.iconst 1, 1) := by decide +kernel
theorem dL_law_636 : decode cL_law 636 = .ok (.iadd, 1) := by decide +kernel
theorem dL_law_637 : decode cL_law 637 = .ok (.iaload, 1) := by decide +kernel
theorem dL_law_638 : decode cL_law 638 = .ok (.aload_n 0, 1) := by decide +kernel
theorem dL_law_639 : decode cL_law 639 = .ok (.iload_n 3, 1) := by decide +kernel
theorem dL_law_640 : decode cL_law 640 = .ok (.iconst 2, 1) := by decide +kernel
theorem dL_law_641 : decode cL_law 641 = .ok (.iadd, 1) := by decide +kernel
theorem dL_law_642 : decode cL_law 642 = .ok (.iaload, 1) := by decide +kernel
theorem dL_law_643 : decode cL_law 643 = .ok (.invokevirtual 93, 3) := by decide +kernel
theorem dL_law_646 : decode cL_law 646 = .ok (.if_icmp .eq 51, 3) := by decide +kernel
theorem dL_law_649 : decode cL_law 649 = .ok (.iconst 0, 1) := by decide +kernel
theorem dL_law_650 : decode cL_law 650 = .ok (.ireturn, 1) := by decide +kernel
theorem dL_law_651 : decode cL_law 651 = .ok (.aload_n 1, 1) := by decide +kernel
theorem dL_law_652 : decode cL_law 652 = .ok (.aload_n 0, 1) := by decide +kernel
theorem dL_law_653 : decode cL_law 653 = .ok (.iload_n 3, 1) := by decide +kernel
theorem dL_law_654 : decode cL_law 654 = .ok (.iconst 1, 1) := by decide +kernel
theorem dL_law_655 : decode cL_law 655 = .ok (.iadd, 1) := by decide +kernel
theorem dL_law_656 : decode cL_law 656 = .ok (.iaload, 1) := by decide +kernel
theorem dL_law_657 : decode cL_law 657 = .ok (.invokevirtual 94, 3) := by decide +kernel
theorem dL_law_660 : decode cL_law 660 = .ok (.aload_n 2, 1) := by decide +kernel
theorem dL_law_661 : decode cL_law 661 = .ok (.aload_n 0, 1) := by decide +kernel
theorem dL_law_662 : decode cL_law 662 = .ok (.iload_n 3, 1) := by decide +kernel
theorem dL_law_663 : decode cL_law 663 = .ok (.iconst 1, 1) := by decide +kernel
theorem dL_law_664 : decode cL_law 664 = .ok (.iadd, 1) := by decide +kernel
theorem dL_law_665 : decode cL_law 665 = .ok (.iaload, 1) := by decide +kernel
theorem dL_law_666 : decode cL_law 666 = .ok (.invokevirtual 97, 3) := by decide +kernel
theorem dL_law_669 : decode cL_law 669 = .ok (.if_icmp .eq 28, 3) := by decide +kernel
theorem dL_law_672 : decode cL_law 672 = .ok (.iconst 0, 1) := by decide +kernel
theorem dL_law_673 : decode cL_law 673 = .ok (.ireturn, 1) := by decide +kernel
theorem dL_law_674 : decode cL_law 674 = .ok (.aload_n 1, 1) := by decide +kernel
theorem dL_law_675 : decode cL_law 675 = .ok (.aload_n 0, 1) := by decide +kernel
theorem dL_law_676 : decode cL_law 676 = .ok (.iload_n 3, 1) := by decide +kernel
theorem dL_law_677 : decode cL_law 677 = .ok (.iconst 1, 1) := by decide +kernel
theorem dL_law_678 : decode cL_law 678 = .ok (.iadd, 1) := by decide +kernel
theorem dL_law_679 : decode cL_law 679 = .ok (.iaload, 1) := by decide +kernel
theorem dL_law_680 : decode cL_law 680 = .ok (.invokevirtual 98, 3) := by decide +kernel
theorem dL_law_683 : decode cL_law 683 = .ok (.aload_n 2, 1) := by decide +kernel
theorem dL_law_684 : decode cL_law 684 = .ok (.aload_n 0, 1) := by decide +kernel
theorem dL_law_685 : decode cL_law 685 = .ok (.iload_n 3, 1) := by decide +kernel
theorem dL_law_686 : decode cL_law 686 = .ok (.iconst 1, 1) := by decide +kernel
theorem dL_law_687 : decode cL_law 687 = .ok (.iadd, 1) := by decide +kernel
theorem dL_law_688 : decode cL_law 688 = .ok (.iaload, 1) := by decide +kernel
theorem dL_law_689 : decode cL_law 689 = .ok (.invokevirtual 101, 3) := by decide +kernel
theorem dL_law_692 : decode cL_law 692 = .ok (.if_icmp .eq 5, 3) := by decide +kernel
theorem dL_law_695 : decode cL_law 695 = .ok (.iconst 0, 1) := by decide +kernel
theorem dL_law_696 : decode cL_law 696 = .ok (.ireturn, 1) := by decide +kernel
theorem dL_law_697 : decode cL_law 697 = .ok (.iinc 3 4, 3) := by decide +kernel
theorem dL_law_700 : decode cL_law 700 = .ok (.goto (-682), 3) := by decide +kernel
theorem dL_law_703 : decode cL_law 703 = .ok (.iconst 1, 1) := by decide +kernel
theorem dL_law_704 : decode cL_law 704 = .ok (.ireturn, 1) := by decide +kernel
abbrev vwCl : List vw_C := [(RX0, TX0, 8), (RX1, TX1, 9), (RX2, TX2, 2), (RX3, TX3, 8), (RX4, TX4, 5), (RX5, TX5, 7), (RX6, TX6, 9)]
/-- the objects of CousinShares$Division, kind 0: what each holds, by its address -/
structure wK_O_Division where
  f_owners : Nat → Option Nat
  f_trims : Nat → Int32
  f_grudgeTrims : Nat → Int32
  f_lastCousin : Nat → Int32
  f_harvest : Nat → Option Nat
  f_byOrder : Nat → Option Nat
  f_holder : Nat → Int32
  f_pieceSize : Nat → Int32
/-- the objects of CousinShares$Harvest, kind 1: what each holds, by its address -/
structure wK_O_Harvest where
  f_amounts : Nat → Option Nat
  f_weights : Nat → Option Nat
  f_grudges : Nat → Option Nat
  f_owners : Nat → Option Nat
  f_settings : Nat → Option Nat
  f_worths : Nat → Option Nat
  f_trims : Nat → Int32
  f_grudgeTrims : Nat → Int32
  f_trades : Nat → Int32
/-- the objects of CousinShares$History, kind 2: what each holds, by its address -/
structure wK_O_History where
  f_count : Nat → Int32
  f_states : Nat → Option Nat
/-- the objects of CousinShares$OrderText, kind 3: what each holds, by its address -/
structure wK_O_OrderText where
  f_length : Nat → Int32
  f_at : Nat → Int32
  f_kind : Nat → Int32
  f_first : Nat → Int32
  f_second : Nat → Int32
  f_party : Nat → Int32
  f_digits : Nat → Option Nat
  f_signs : Nat → Option Nat
/-- the objects of CousinShares$Shares, kind 4: what each holds, by its address -/
structure wK_O_Shares where
  f_bestFirst : Nat → Int32
  f_bestSecond : Nat → Int32
  f_bestSum : Nat → Int32
  f_harvest : Nat → Option Nat
  f_worths : Nat → Option Nat
/-- the objects of CousinShares, kind 5: what each holds, by its address -/
structure wK_O_CousinShares where
  f_now : Nat → Option Nat
  f_division : Nat → Option Nat
  f_shares : Nat → Option Nat
  f_text : Nat → Option Nat
  f_history : Nat → Option Nat
  f_snapshot : Nat → Option Nat
  f_hasSnapshot : Nat → Int32
/-- the objects of CousinSharesModel, kind 6: what each holds, by its address -/
structure wK_O_CousinSharesModel where
  f_s : Nat → Option Nat
  f_past : Nat → Option Nat
  f_known : Nat → Int32
  f_snap : Nat → Option Nat
  f_isKept : Nat → Int32
  f_text : Nat → Option Nat
  f_length : Nat → Int32
  f_order : Nat → Option Nat
  f_lastOne : Nat → Int32
/-- the arrays of kind 7: what each holds, by its address -/
structure wK_R_C where
  len : Nat → Nat
  row : Nat → Nat → Int32
/-- the arrays of kind 8: what each holds, by its address -/
structure wK_R_I where
  len : Nat → Nat
  row : Nat → Nat → Int32
/-- the arrays of kind 9: what each holds, by its address -/
structure wK_R_Harvest where
  len : Nat → Nat
  row : Nat → Nat → Option Nat
/-- the pool: the addresses, the kind of each, and the kinds -/
structure wPS where
  L : List Nat
  K : Nat → Nat
  O_Division : wK_O_Division
  O_Harvest : wK_O_Harvest
  O_History : wK_O_History
  O_OrderText : wK_O_OrderText
  O_Shares : wK_O_Shares
  O_CousinShares : wK_O_CousinShares
  O_CousinSharesModel : wK_O_CousinSharesModel
  R_C : wK_R_C
  R_I : wK_R_I
  R_Harvest : wK_R_Harvest
/-- the empty pool -/
abbrev wP0 : wPS := { L := [], K := (fun _ => 0), O_Division := { f_owners := (fun _ => none), f_trims := (fun _ => 0), f_grudgeTrims := (fun _ => 0), f_lastCousin := (fun _ => 0), f_harvest := (fun _ => none), f_byOrder := (fun _ => none), f_holder := (fun _ => 0), f_pieceSize := (fun _ => 0) }, O_Harvest := { f_amounts := (fun _ => none), f_weights := (fun _ => none), f_grudges := (fun _ => none), f_owners := (fun _ => none), f_settings := (fun _ => none), f_worths := (fun _ => none), f_trims := (fun _ => 0), f_grudgeTrims := (fun _ => 0), f_trades := (fun _ => 0) }, O_History := { f_count := (fun _ => 0), f_states := (fun _ => none) }, O_OrderText := { f_length := (fun _ => 0), f_at := (fun _ => 0), f_kind := (fun _ => 0), f_first := (fun _ => 0), f_second := (fun _ => 0), f_party := (fun _ => 0), f_digits := (fun _ => none), f_signs := (fun _ => none) }, O_Shares := { f_bestFirst := (fun _ => 0), f_bestSecond := (fun _ => 0), f_bestSum := (fun _ => 0), f_harvest := (fun _ => none), f_worths := (fun _ => none) }, O_CousinShares := { f_now := (fun _ => none), f_division := (fun _ => none), f_shares := (fun _ => none), f_text := (fun _ => none), f_history := (fun _ => none), f_snapshot := (fun _ => none), f_hasSnapshot := (fun _ => 0) }, O_CousinSharesModel := { f_s := (fun _ => none), f_past := (fun _ => none), f_known := (fun _ => 0), f_snap := (fun _ => none), f_isKept := (fun _ => 0), f_text := (fun _ => none), f_length := (fun _ => 0), f_order := (fun _ => none), f_lastOne := (fun _ => 0) }, R_C := { len := (fun _ => 0), row := (fun _ _ => 0) }, R_I := { len := (fun _ => 0), row := (fun _ _ => 0) }, R_Harvest := { len := (fun _ => 0), row := (fun _ _ => none) } }
/-- the pool's rows by their kinds -/
abbrev wPF (cyC : ClassId) (cyI : ClassId) (cyOb5c14 : ClassId) (S : wPS) : Nat → va_E := fun a => if S.K a = 0 then .inr (0, [va_rf (S.O_Division.f_owners a), .int (S.O_Division.f_trims a), .int (S.O_Division.f_grudgeTrims a), .int (S.O_Division.f_lastCousin a), va_rf (S.O_Division.f_harvest a), va_rf (S.O_Division.f_byOrder a), .int (S.O_Division.f_holder a), .int (S.O_Division.f_pieceSize a)]) else if S.K a = 1 then .inr (1, [va_rf (S.O_Harvest.f_amounts a), va_rf (S.O_Harvest.f_weights a), va_rf (S.O_Harvest.f_grudges a), va_rf (S.O_Harvest.f_owners a), va_rf (S.O_Harvest.f_settings a), va_rf (S.O_Harvest.f_worths a), .int (S.O_Harvest.f_trims a), .int (S.O_Harvest.f_grudgeTrims a), .int (S.O_Harvest.f_trades a)]) else if S.K a = 2 then .inr (2, [.int (S.O_History.f_count a), va_rf (S.O_History.f_states a)]) else if S.K a = 3 then .inr (3, [.int (S.O_OrderText.f_length a), .int (S.O_OrderText.f_at a), .int (S.O_OrderText.f_kind a), .int (S.O_OrderText.f_first a), .int (S.O_OrderText.f_second a), .int (S.O_OrderText.f_party a), va_rf (S.O_OrderText.f_digits a), va_rf (S.O_OrderText.f_signs a)]) else if S.K a = 4 then .inr (4, [.int (S.O_Shares.f_bestFirst a), .int (S.O_Shares.f_bestSecond a), .int (S.O_Shares.f_bestSum a), va_rf (S.O_Shares.f_harvest a), va_rf (S.O_Shares.f_worths a)]) else if S.K a = 5 then .inr (5, [va_rf (S.O_CousinShares.f_now a), va_rf (S.O_CousinShares.f_division a), va_rf (S.O_CousinShares.f_shares a), va_rf (S.O_CousinShares.f_text a), va_rf (S.O_CousinShares.f_history a), va_rf (S.O_CousinShares.f_snapshot a), .int (S.O_CousinShares.f_hasSnapshot a)]) else if S.K a = 6 then .inr (6, [va_rf (S.O_CousinSharesModel.f_s a), va_rf (S.O_CousinSharesModel.f_past a), .int (S.O_CousinSharesModel.f_known a), va_rf (S.O_CousinSharesModel.f_snap a), .int (S.O_CousinSharesModel.f_isKept a), va_rf (S.O_CousinSharesModel.f_text a), .int (S.O_CousinSharesModel.f_length a), va_rf (S.O_CousinSharesModel.f_order a), .int (S.O_CousinSharesModel.f_lastOne a)]) else if S.K a = 7 then .inl (cyC, S.R_C.len a, .inl (S.R_C.row a)) else if S.K a = 8 then .inl (cyI, S.R_I.len a, .inl (S.R_I.row a)) else .inl (cyOb5c14, S.R_Harvest.len a, .inr (.inr (.inr (.inr (S.R_Harvest.row a)))))
theorem wAt_O_Division (cyC : ClassId) (cyI : ClassId) (cyOb5c14 : ClassId) (S : wPS) {a : Nat} (h : S.K a = 0) : wPF cyC cyI cyOb5c14 S a = .inr (0, [va_rf (S.O_Division.f_owners a), .int (S.O_Division.f_trims a), .int (S.O_Division.f_grudgeTrims a), .int (S.O_Division.f_lastCousin a), va_rf (S.O_Division.f_harvest a), va_rf (S.O_Division.f_byOrder a), .int (S.O_Division.f_holder a), .int (S.O_Division.f_pieceSize a)]) := by simp [wPF, h]
theorem wGt_O_Division (cyC : ClassId) (cyI : ClassId) (cyOb5c14 : ClassId) (X : va_W) (S : wPS) {a : Nat} (hL : a ∈ S.L) (h : S.K a = 0) : ∃ k : Nat, (X ++ va_pl S.L (wPF cyC cyI cyOb5c14 S))[k]? = some (a, wPF cyC cyI cyOb5c14 S a) ∧ (X ++ va_pl S.L (wPF cyC cyI cyOb5c14 S))[k]? = some (a, .inr (0, [va_rf (S.O_Division.f_owners a), .int (S.O_Division.f_trims a), .int (S.O_Division.f_grudgeTrims a), .int (S.O_Division.f_lastCousin a), va_rf (S.O_Division.f_harvest a), va_rf (S.O_Division.f_byOrder a), .int (S.O_Division.f_holder a), .int (S.O_Division.f_pieceSize a)])) := by
  obtain ⟨k, hk⟩ := va_pl_get (X := X) (f := wPF cyC cyI cyOb5c14 S) hL
  exact ⟨k, hk, hk.trans (congrArg (fun e => some (a, e)) (wAt_O_Division cyC cyI cyOb5c14 S h))⟩
theorem wSt_O_Division_f_owners (cyC : ClassId) (cyI : ClassId) (cyOb5c14 : ClassId) (S : wPS) {a : Nat} (h : S.K a = 0) (v : Option Nat) (b : Nat) : va_up (wPF cyC cyI cyOb5c14 S) a (.inr (0, [va_rf v, .int (S.O_Division.f_trims a), .int (S.O_Division.f_grudgeTrims a), .int (S.O_Division.f_lastCousin a), va_rf (S.O_Division.f_harvest a), va_rf (S.O_Division.f_byOrder a), .int (S.O_Division.f_holder a), .int (S.O_Division.f_pieceSize a)])) b = wPF cyC cyI cyOb5c14 { S with O_Division := { S.O_Division with f_owners := va_up S.O_Division.f_owners a v } } b := by by_cases hb : b = a <;> first | (simp only [wPF, va_up_ne _ _ hb]; done) | (simp only [wPF, va_up, if_neg hb]; done) | simp [wPF, va_re, va_up, va_rf, hb, h]
theorem wPu_O_Division_f_owners (cyC : ClassId) (cyI : ClassId) (cyOb5c14 : ClassId) (X : va_W) (S : wPS) {A : Nat → Prop} {a k : Nat} (hD : va_D A (X ++ va_pl S.L (wPF cyC cyI cyOb5c14 S))) (hL : a ∈ S.L) (h : S.K a = 0) (hk : (X ++ va_pl S.L (wPF cyC cyI cyOb5c14 S))[k]? = some (a, wPF cyC cyI cyOb5c14 S a)) (v : Option Nat) : (X ++ va_pl S.L (wPF cyC cyI cyOb5c14 S)).set k (a, .inr (0, [va_rf v, .int (S.O_Division.f_trims a), .int (S.O_Division.f_grudgeTrims a), .int (S.O_Division.f_lastCousin a), va_rf (S.O_Division.f_harvest a), va_rf (S.O_Division.f_byOrder a), .int (S.O_Division.f_holder a), .int (S.O_Division.f_pieceSize a)])) = X ++ va_pl S.L (wPF cyC cyI cyOb5c14 { S with O_Division := { S.O_Division with f_owners := va_up S.O_Division.f_owners a v } }) := by
  rw [va_pl_set hD hL hk]
  exact congrArg (fun l => X ++ l) (va_pl_congr (wSt_O_Division_f_owners cyC cyI cyOb5c14 S h v))
theorem wSt_O_Division_f_trims (cyC : ClassId) (cyI : ClassId) (cyOb5c14 : ClassId) (S : wPS) {a : Nat} (h : S.K a = 0) (v : Int32) (b : Nat) : va_up (wPF cyC cyI cyOb5c14 S) a (.inr (0, [va_rf (S.O_Division.f_owners a), .int v, .int (S.O_Division.f_grudgeTrims a), .int (S.O_Division.f_lastCousin a), va_rf (S.O_Division.f_harvest a), va_rf (S.O_Division.f_byOrder a), .int (S.O_Division.f_holder a), .int (S.O_Division.f_pieceSize a)])) b = wPF cyC cyI cyOb5c14 { S with O_Division := { S.O_Division with f_trims := va_up S.O_Division.f_trims a v } } b := by by_cases hb : b = a <;> first | (simp only [wPF, va_up_ne _ _ hb]; done) | (simp only [wPF, va_up, if_neg hb]; done) | simp [wPF, va_re, va_up, va_rf, hb, h]
theorem wPu_O_Division_f_trims (cyC : ClassId) (cyI : ClassId) (cyOb5c14 : ClassId) (X : va_W) (S : wPS) {A : Nat → Prop} {a k : Nat} (hD : va_D A (X ++ va_pl S.L (wPF cyC cyI cyOb5c14 S))) (hL : a ∈ S.L) (h : S.K a = 0) (hk : (X ++ va_pl S.L (wPF cyC cyI cyOb5c14 S))[k]? = some (a, wPF cyC cyI cyOb5c14 S a)) (v : Int32) : (X ++ va_pl S.L (wPF cyC cyI cyOb5c14 S)).set k (a, .inr (0, [va_rf (S.O_Division.f_owners a), .int v, .int (S.O_Division.f_grudgeTrims a), .int (S.O_Division.f_lastCousin a), va_rf (S.O_Division.f_harvest a), va_rf (S.O_Division.f_byOrder a), .int (S.O_Division.f_holder a), .int (S.O_Division.f_pieceSize a)])) = X ++ va_pl S.L (wPF cyC cyI cyOb5c14 { S with O_Division := { S.O_Division with f_trims := va_up S.O_Division.f_trims a v } }) := by
  rw [va_pl_set hD hL hk]
  exact congrArg (fun l => X ++ l) (va_pl_congr (wSt_O_Division_f_trims cyC cyI cyOb5c14 S h v))
theorem wSt_O_Division_f_grudgeTrims (cyC : ClassId) (cyI : ClassId) (cyOb5c14 : ClassId) (S : wPS) {a : Nat} (h : S.K a = 0) (v : Int32) (b : Nat) : va_up (wPF cyC cyI cyOb5c14 S) a (.inr (0, [va_rf (S.O_Division.f_owners a), .int (S.O_Division.f_trims a), .int v, .int (S.O_Division.f_lastCousin a), va_rf (S.O_Division.f_harvest a), va_rf (S.O_Division.f_byOrder a), .int (S.O_Division.f_holder a), .int (S.O_Division.f_pieceSize a)])) b = wPF cyC cyI cyOb5c14 { S with O_Division := { S.O_Division with f_grudgeTrims := va_up S.O_Division.f_grudgeTrims a v } } b := by by_cases hb : b = a <;> first | (simp only [wPF, va_up_ne _ _ hb]; done) | (simp only [wPF, va_up, if_neg hb]; done) | simp [wPF, va_re, va_up, va_rf, hb, h]
theorem wPu_O_Division_f_grudgeTrims (cyC : ClassId) (cyI : ClassId) (cyOb5c14 : ClassId) (X : va_W) (S : wPS) {A : Nat → Prop} {a k : Nat} (hD : va_D A (X ++ va_pl S.L (wPF cyC cyI cyOb5c14 S))) (hL : a ∈ S.L) (h : S.K a = 0) (hk : (X ++ va_pl S.L (wPF cyC cyI cyOb5c14 S))[k]? = some (a, wPF cyC cyI cyOb5c14 S a)) (v : Int32) : (X ++ va_pl S.L (wPF cyC cyI cyOb5c14 S)).set k (a, .inr (0, [va_rf (S.O_Division.f_owners a), .int (S.O_Division.f_trims a), .int v, .int (S.O_Division.f_lastCousin a), va_rf (S.O_Division.f_harvest a), va_rf (S.O_Division.f_byOrder a), .int (S.O_Division.f_holder a), .int (S.O_Division.f_pieceSize a)])) = X ++ va_pl S.L (wPF cyC cyI cyOb5c14 { S with O_Division := { S.O_Division with f_grudgeTrims := va_up S.O_Division.f_grudgeTrims a v } }) := by
  rw [va_pl_set hD hL hk]
  exact congrArg (fun l => X ++ l) (va_pl_congr (wSt_O_Division_f_grudgeTrims cyC cyI cyOb5c14 S h v))
theorem wSt_O_Division_f_lastCousin (cyC : ClassId) (cyI : ClassId) (cyOb5c14 : ClassId) (S : wPS) {a : Nat} (h : S.K a = 0) (v : Int32) (b : Nat) : va_up (wPF cyC cyI cyOb5c14 S) a (.inr (0, [va_rf (S.O_Division.f_owners a), .int (S.O_Division.f_trims a), .int (S.O_Division.f_grudgeTrims a), .int v, va_rf (S.O_Division.f_harvest a), va_rf (S.O_Division.f_byOrder a), .int (S.O_Division.f_holder a), .int (S.O_Division.f_pieceSize a)])) b = wPF cyC cyI cyOb5c14 { S with O_Division := { S.O_Division with f_lastCousin := va_up S.O_Division.f_lastCousin a v } } b := by by_cases hb : b = a <;> first | (simp only [wPF, va_up_ne _ _ hb]; done) | (simp only [wPF, va_up, if_neg hb]; done) | simp [wPF, va_re, va_up, va_rf, hb, h]
theorem wPu_O_Division_f_lastCousin (cyC : ClassId) (cyI : ClassId) (cyOb5c14 : ClassId) (X : va_W) (S : wPS) {A : Nat → Prop} {a k : Nat} (hD : va_D A (X ++ va_pl S.L (wPF cyC cyI cyOb5c14 S))) (hL : a ∈ S.L) (h : S.K a = 0) (hk : (X ++ va_pl S.L (wPF cyC cyI cyOb5c14 S))[k]? = some (a, wPF cyC cyI cyOb5c14 S a)) (v : Int32) : (X ++ va_pl S.L (wPF cyC cyI cyOb5c14 S)).set k (a, .inr (0, [va_rf (S.O_Division.f_owners a), .int (S.O_Division.f_trims a), .int (S.O_Division.f_grudgeTrims a), .int v, va_rf (S.O_Division.f_harvest a), va_rf (S.O_Division.f_byOrder a), .int (S.O_Division.f_holder a), .int (S.O_Division.f_pieceSize a)])) = X ++ va_pl S.L (wPF cyC cyI cyOb5c14 { S with O_Division := { S.O_Division with f_lastCousin := va_up S.O_Division.f_lastCousin a v } }) := by
  rw [va_pl_set hD hL hk]
  exact congrArg (fun l => X ++ l) (va_pl_congr (wSt_O_Division_f_lastCousin cyC cyI cyOb5c14 S h v))
theorem wSt_O_Division_f_harvest (cyC : ClassId) (cyI : ClassId) (cyOb5c14 : ClassId) (S : wPS) {a : Nat} (h : S.K a = 0) (v : Option Nat) (b : Nat) : va_up (wPF cyC cyI cyOb5c14 S) a (.inr (0, [va_rf (S.O_Division.f_owners a), .int (S.O_Division.f_trims a), .int (S.O_Division.f_grudgeTrims a), .int (S.O_Division.f_lastCousin a), va_rf v, va_rf (S.O_Division.f_byOrder a), .int (S.O_Division.f_holder a), .int (S.O_Division.f_pieceSize a)])) b = wPF cyC cyI cyOb5c14 { S with O_Division := { S.O_Division with f_harvest := va_up S.O_Division.f_harvest a v } } b := by by_cases hb : b = a <;> first | (simp only [wPF, va_up_ne _ _ hb]; done) | (simp only [wPF, va_up, if_neg hb]; done) | simp [wPF, va_re, va_up, va_rf, hb, h]
theorem wPu_O_Division_f_harvest (cyC : ClassId) (cyI : ClassId) (cyOb5c14 : ClassId) (X : va_W) (S : wPS) {A : Nat → Prop} {a k : Nat} (hD : va_D A (X ++ va_pl S.L (wPF cyC cyI cyOb5c14 S))) (hL : a ∈ S.L) (h : S.K a = 0) (hk : (X ++ va_pl S.L (wPF cyC cyI cyOb5c14 S))[k]? = some (a, wPF cyC cyI cyOb5c14 S a)) (v : Option Nat) : (X ++ va_pl S.L (wPF cyC cyI cyOb5c14 S)).set k (a, .inr (0, [va_rf (S.O_Division.f_owners a), .int (S.O_Division.f_trims a), .int (S.O_Division.f_grudgeTrims a), .int (S.O_Division.f_lastCousin a), va_rf v, va_rf (S.O_Division.f_byOrder a), .int (S.O_Division.f_holder a), .int (S.O_Division.f_pieceSize a)])) = X ++ va_pl S.L (wPF cyC cyI cyOb5c14 { S with O_Division := { S.O_Division with f_harvest := va_up S.O_Division.f_harvest a v } }) := by
  rw [va_pl_set hD hL hk]
  exact congrArg (fun l => X ++ l) (va_pl_congr (wSt_O_Division_f_harvest cyC cyI cyOb5c14 S h v))
theorem wSt_O_Division_f_byOrder (cyC : ClassId) (cyI : ClassId) (cyOb5c14 : ClassId) (S : wPS) {a : Nat} (h : S.K a = 0) (v : Option Nat) (b : Nat) : va_up (wPF cyC cyI cyOb5c14 S) a (.inr (0, [va_rf (S.O_Division.f_owners a), .int (S.O_Division.f_trims a), .int (S.O_Division.f_grudgeTrims a), .int (S.O_Division.f_lastCousin a), va_rf (S.O_Division.f_harvest a), va_rf v, .int (S.O_Division.f_holder a), .int (S.O_Division.f_pieceSize a)])) b = wPF cyC cyI cyOb5c14 { S with O_Division := { S.O_Division with f_byOrder := va_up S.O_Division.f_byOrder a v } } b := by by_cases hb : b = a <;> first | (simp only [wPF, va_up_ne _ _ hb]; done) | (simp only [wPF, va_up, if_neg hb]; done) | simp [wPF, va_re, va_up, va_rf, hb, h]
theorem wPu_O_Division_f_byOrder (cyC : ClassId) (cyI : ClassId) (cyOb5c14 : ClassId) (X : va_W) (S : wPS) {A : Nat → Prop} {a k : Nat} (hD : va_D A (X ++ va_pl S.L (wPF cyC cyI cyOb5c14 S))) (hL : a ∈ S.L) (h : S.K a = 0) (hk : (X ++ va_pl S.L (wPF cyC cyI cyOb5c14 S))[k]? = some (a, wPF cyC cyI cyOb5c14 S a)) (v : Option Nat) : (X ++ va_pl S.L (wPF cyC cyI cyOb5c14 S)).set k (a, .inr (0, [va_rf (S.O_Division.f_owners a), .int (S.O_Division.f_trims a), .int (S.O_Division.f_grudgeTrims a), .int (S.O_Division.f_lastCousin a), va_rf (S.O_Division.f_harvest a), va_rf v, .int (S.O_Division.f_holder a), .int (S.O_Division.f_pieceSize a)])) = X ++ va_pl S.L (wPF cyC cyI cyOb5c14 { S with O_Division := { S.O_Division with f_byOrder := va_up S.O_Division.f_byOrder a v } }) := by
  rw [va_pl_set hD hL hk]
  exact congrArg (fun l => X ++ l) (va_pl_congr (wSt_O_Division_f_byOrder cyC cyI cyOb5c14 S h v))
theorem wSt_O_Division_f_holder (cyC : ClassId) (cyI : ClassId) (cyOb5c14 : ClassId) (S : wPS) {a : Nat} (h : S.K a = 0) (v : Int32) (b : Nat) : va_up (wPF cyC cyI cyOb5c14 S) a (.inr (0, [va_rf (S.O_Division.f_owners a), .int (S.O_Division.f_trims a), .int (S.O_Division.f_grudgeTrims a), .int (S.O_Division.f_lastCousin a), va_rf (S.O_Division.f_harvest a), va_rf (S.O_Division.f_byOrder a), .int v, .int (S.O_Division.f_pieceSize a)])) b = wPF cyC cyI cyOb5c14 { S with O_Division := { S.O_Division with f_holder := va_up S.O_Division.f_holder a v } } b := by by_cases hb : b = a <;> first | (simp only [wPF, va_up_ne _ _ hb]; done) | (simp only [wPF, va_up, if_neg hb]; done) | simp [wPF, va_re, va_up, va_rf, hb, h]
theorem wPu_O_Division_f_holder (cyC : ClassId) (cyI : ClassId) (cyOb5c14 : ClassId) (X : va_W) (S : wPS) {A : Nat → Prop} {a k : Nat} (hD : va_D A (X ++ va_pl S.L (wPF cyC cyI cyOb5c14 S))) (hL : a ∈ S.L) (h : S.K a = 0) (hk : (X ++ va_pl S.L (wPF cyC cyI cyOb5c14 S))[k]? = some (a, wPF cyC cyI cyOb5c14 S a)) (v : Int32) : (X ++ va_pl S.L (wPF cyC cyI cyOb5c14 S)).set k (a, .inr (0, [va_rf (S.O_Division.f_owners a), .int (S.O_Division.f_trims a), .int (S.O_Division.f_grudgeTrims a), .int (S.O_Division.f_lastCousin a), va_rf (S.O_Division.f_harvest a), va_rf (S.O_Division.f_byOrder a), .int v, .int (S.O_Division.f_pieceSize a)])) = X ++ va_pl S.L (wPF cyC cyI cyOb5c14 { S with O_Division := { S.O_Division with f_holder := va_up S.O_Division.f_holder a v } }) := by
  rw [va_pl_set hD hL hk]
  exact congrArg (fun l => X ++ l) (va_pl_congr (wSt_O_Division_f_holder cyC cyI cyOb5c14 S h v))
theorem wSt_O_Division_f_pieceSize (cyC : ClassId) (cyI : ClassId) (cyOb5c14 : ClassId) (S : wPS) {a : Nat} (h : S.K a = 0) (v : Int32) (b : Nat) : va_up (wPF cyC cyI cyOb5c14 S) a (.inr (0, [va_rf (S.O_Division.f_owners a), .int (S.O_Division.f_trims a), .int (S.O_Division.f_grudgeTrims a), .int (S.O_Division.f_lastCousin a), va_rf (S.O_Division.f_harvest a), va_rf (S.O_Division.f_byOrder a), .int (S.O_Division.f_holder a), .int v])) b = wPF cyC cyI cyOb5c14 { S with O_Division := { S.O_Division with f_pieceSize := va_up S.O_Division.f_pieceSize a v } } b := by by_cases hb : b = a <;> first | (simp only [wPF, va_up_ne _ _ hb]; done) | (simp only [wPF, va_up, if_neg hb]; done) | simp [wPF, va_re, va_up, va_rf, hb, h]
theorem wPu_O_Division_f_pieceSize (cyC : ClassId) (cyI : ClassId) (cyOb5c14 : ClassId) (X : va_W) (S : wPS) {A : Nat → Prop} {a k : Nat} (hD : va_D A (X ++ va_pl S.L (wPF cyC cyI cyOb5c14 S))) (hL : a ∈ S.L) (h : S.K a = 0) (hk : (X ++ va_pl S.L (wPF cyC cyI cyOb5c14 S))[k]? = some (a, wPF cyC cyI cyOb5c14 S a)) (v : Int32) : (X ++ va_pl S.L (wPF cyC cyI cyOb5c14 S)).set k (a, .inr (0, [va_rf (S.O_Division.f_owners a), .int (S.O_Division.f_trims a), .int (S.O_Division.f_grudgeTrims a), .int (S.O_Division.f_lastCousin a), va_rf (S.O_Division.f_harvest a), va_rf (S.O_Division.f_byOrder a), .int (S.O_Division.f_holder a), .int v])) = X ++ va_pl S.L (wPF cyC cyI cyOb5c14 { S with O_Division := { S.O_Division with f_pieceSize := va_up S.O_Division.f_pieceSize a v } }) := by
  rw [va_pl_set hD hL hk]
  exact congrArg (fun l => X ++ l) (va_pl_congr (wSt_O_Division_f_pieceSize cyC cyI cyOb5c14 S h v))
theorem wNw_O_Division (cyC : ClassId) (cyI : ClassId) (cyOb5c14 : ClassId) (S : wPS) (a b : Nat) : va_up (wPF cyC cyI cyOb5c14 S) a (.inr (0, [.null, .int 0, .int 0, .int 0, .null, .null, .int 0, .int 0])) b = wPF cyC cyI cyOb5c14 { S with L := S.L ++ [a], K := va_up S.K a 0, O_Division := { f_owners := va_up S.O_Division.f_owners a none, f_trims := va_up S.O_Division.f_trims a 0, f_grudgeTrims := va_up S.O_Division.f_grudgeTrims a 0, f_lastCousin := va_up S.O_Division.f_lastCousin a 0, f_harvest := va_up S.O_Division.f_harvest a none, f_byOrder := va_up S.O_Division.f_byOrder a none, f_holder := va_up S.O_Division.f_holder a 0, f_pieceSize := va_up S.O_Division.f_pieceSize a 0 } } b := by by_cases hb : b = a <;> first | (simp only [wPF, va_up_ne _ _ hb]; done) | (simp only [wPF, va_up, if_neg hb]; done) | simp [wPF, va_re, va_up, va_rf, hb]
theorem wPn_O_Division (cyC : ClassId) (cyI : ClassId) (cyOb5c14 : ClassId) (X : va_W) (S : wPS) {a : Nat} (ha : a ∉ S.L) : (X ++ va_pl S.L (wPF cyC cyI cyOb5c14 S)) ++ [(a, .inr (0, [.null, .int 0, .int 0, .int 0, .null, .null, .int 0, .int 0]))] = X ++ va_pl (S.L ++ [a]) (wPF cyC cyI cyOb5c14 { S with L := S.L ++ [a], K := va_up S.K a 0, O_Division := { f_owners := va_up S.O_Division.f_owners a none, f_trims := va_up S.O_Division.f_trims a 0, f_grudgeTrims := va_up S.O_Division.f_grudgeTrims a 0, f_lastCousin := va_up S.O_Division.f_lastCousin a 0, f_harvest := va_up S.O_Division.f_harvest a none, f_byOrder := va_up S.O_Division.f_byOrder a none, f_holder := va_up S.O_Division.f_holder a 0, f_pieceSize := va_up S.O_Division.f_pieceSize a 0 } }) := by
  rw [List.append_assoc, va_pl_push ha]
  exact congrArg (fun l => X ++ l) (va_pl_congr (wNw_O_Division cyC cyI cyOb5c14 S a))
theorem wAt_O_Harvest (cyC : ClassId) (cyI : ClassId) (cyOb5c14 : ClassId) (S : wPS) {a : Nat} (h : S.K a = 1) : wPF cyC cyI cyOb5c14 S a = .inr (1, [va_rf (S.O_Harvest.f_amounts a), va_rf (S.O_Harvest.f_weights a), va_rf (S.O_Harvest.f_grudges a), va_rf (S.O_Harvest.f_owners a), va_rf (S.O_Harvest.f_settings a), va_rf (S.O_Harvest.f_worths a), .int (S.O_Harvest.f_trims a), .int (S.O_Harvest.f_grudgeTrims a), .int (S.O_Harvest.f_trades a)]) := by simp [wPF, h]
theorem wGt_O_Harvest (cyC : ClassId) (cyI : ClassId) (cyOb5c14 : ClassId) (X : va_W) (S : wPS) {a : Nat} (hL : a ∈ S.L) (h : S.K a = 1) : ∃ k : Nat, (X ++ va_pl S.L (wPF cyC cyI cyOb5c14 S))[k]? = some (a, wPF cyC cyI cyOb5c14 S a) ∧ (X ++ va_pl S.L (wPF cyC cyI cyOb5c14 S))[k]? = some (a, .inr (1, [va_rf (S.O_Harvest.f_amounts a), va_rf (S.O_Harvest.f_weights a), va_rf (S.O_Harvest.f_grudges a), va_rf (S.O_Harvest.f_owners a), va_rf (S.O_Harvest.f_settings a), va_rf (S.O_Harvest.f_worths a), .int (S.O_Harvest.f_trims a), .int (S.O_Harvest.f_grudgeTrims a), .int (S.O_Harvest.f_trades a)])) := by
  obtain ⟨k, hk⟩ := va_pl_get (X := X) (f := wPF cyC cyI cyOb5c14 S) hL
  exact ⟨k, hk, hk.trans (congrArg (fun e => some (a, e)) (wAt_O_Harvest cyC cyI cyOb5c14 S h))⟩
theorem wSt_O_Harvest_f_amounts (cyC : ClassId) (cyI : ClassId) (cyOb5c14 : ClassId) (S : wPS) {a : Nat} (h : S.K a = 1) (v : Option Nat) (b : Nat) : va_up (wPF cyC cyI cyOb5c14 S) a (.inr (1, [va_rf v, va_rf (S.O_Harvest.f_weights a), va_rf (S.O_Harvest.f_grudges a), va_rf (S.O_Harvest.f_owners a), va_rf (S.O_Harvest.f_settings a), va_rf (S.O_Harvest.f_worths a), .int (S.O_Harvest.f_trims a), .int (S.O_Harvest.f_grudgeTrims a), .int (S.O_Harvest.f_trades a)])) b = wPF cyC cyI cyOb5c14 { S with O_Harvest := { S.O_Harvest with f_amounts := va_up S.O_Harvest.f_amounts a v } } b := by by_cases hb : b = a <;> first | (simp only [wPF, va_up_ne _ _ hb]; done) | (simp only [wPF, va_up, if_neg hb]; done) | simp [wPF, va_re, va_up, va_rf, hb, h]
theorem wPu_O_Harvest_f_amounts (cyC : ClassId) (cyI : ClassId) (cyOb5c14 : ClassId) (X : va_W) (S : wPS) {A : Nat → Prop} {a k : Nat} (hD : va_D A (X ++ va_pl S.L (wPF cyC cyI cyOb5c14 S))) (hL : a ∈ S.L) (h : S.K a = 1) (hk : (X ++ va_pl S.L (wPF cyC cyI cyOb5c14 S))[k]? = some (a, wPF cyC cyI cyOb5c14 S a)) (v : Option Nat) : (X ++ va_pl S.L (wPF cyC cyI cyOb5c14 S)).set k (a, .inr (1, [va_rf v, va_rf (S.O_Harvest.f_weights a), va_rf (S.O_Harvest.f_grudges a), va_rf (S.O_Harvest.f_owners a), va_rf (S.O_Harvest.f_settings a), va_rf (S.O_Harvest.f_worths a), .int (S.O_Harvest.f_trims a), .int (S.O_Harvest.f_grudgeTrims a), .int (S.O_Harvest.f_trades a)])) = X ++ va_pl S.L (wPF cyC cyI cyOb5c14 { S with O_Harvest := { S.O_Harvest with f_amounts := va_up S.O_Harvest.f_amounts a v } }) := by
  rw [va_pl_set hD hL hk]
  exact congrArg (fun l => X ++ l) (va_pl_congr (wSt_O_Harvest_f_amounts cyC cyI cyOb5c14 S h v))
theorem wSt_O_Harvest_f_weights (cyC : ClassId) (cyI : ClassId) (cyOb5c14 : ClassId) (S : wPS) {a : Nat} (h : S.K a = 1) (v : Option Nat) (b : Nat) : va_up (wPF cyC cyI cyOb5c14 S) a (.inr (1, [va_rf (S.O_Harvest.f_amounts a), va_rf v, va_rf (S.O_Harvest.f_grudges a), va_rf (S.O_Harvest.f_owners a), va_rf (S.O_Harvest.f_settings a), va_rf (S.O_Harvest.f_worths a), .int (S.O_Harvest.f_trims a), .int (S.O_Harvest.f_grudgeTrims a), .int (S.O_Harvest.f_trades a)])) b = wPF cyC cyI cyOb5c14 { S with O_Harvest := { S.O_Harvest with f_weights := va_up S.O_Harvest.f_weights a v } } b := by by_cases hb : b = a <;> first | (simp only [wPF, va_up_ne _ _ hb]; done) | (simp only [wPF, va_up, if_neg hb]; done) | simp [wPF, va_re, va_up, va_rf, hb, h]
theorem wPu_O_Harvest_f_weights (cyC : ClassId) (cyI : ClassId) (cyOb5c14 : ClassId) (X : va_W) (S : wPS) {A : Nat → Prop} {a k : Nat} (hD : va_D A (X ++ va_pl S.L (wPF cyC cyI cyOb5c14 S))) (hL : a ∈ S.L) (h : S.K a = 1) (hk : (X ++ va_pl S.L (wPF cyC cyI cyOb5c14 S))[k]? = some (a, wPF cyC cyI cyOb5c14 S a)) (v : Option Nat) : (X ++ va_pl S.L (wPF cyC cyI cyOb5c14 S)).set k (a, .inr (1, [va_rf (S.O_Harvest.f_amounts a), va_rf v, va_rf (S.O_Harvest.f_grudges a), va_rf (S.O_Harvest.f_owners a), va_rf (S.O_Harvest.f_settings a), va_rf (S.O_Harvest.f_worths a), .int (S.O_Harvest.f_trims a), .int (S.O_Harvest.f_grudgeTrims a), .int (S.O_Harvest.f_trades a)])) = X ++ va_pl S.L (wPF cyC cyI cyOb5c14 { S with O_Harvest := { S.O_Harvest with f_weights := va_up S.O_Harvest.f_weights a v } }) := by
  rw [va_pl_set hD hL hk]
  exact congrArg (fun l => X ++ l) (va_pl_congr (wSt_O_Harvest_f_weights cyC cyI cyOb5c14 S h v))
theorem wSt_O_Harvest_f_grudges (cyC : ClassId) (cyI : ClassId) (cyOb5c14 : ClassId) (S : wPS) {a : Nat} (h : S.K a = 1) (v : Option Nat) (b : Nat) : va_up (wPF cyC cyI cyOb5c14 S) a (.inr (1, [va_rf (S.O_Harvest.f_amounts a), va_rf (S.O_Harvest.f_weights a), va_rf v, va_rf (S.O_Harvest.f_owners a), va_rf (S.O_Harvest.f_settings a), va_rf (S.O_Harvest.f_worths a), .int (S.O_Harvest.f_trims a), .int (S.O_Harvest.f_grudgeTrims a), .int (S.O_Harvest.f_trades a)])) b = wPF cyC cyI cyOb5c14 { S with O_Harvest := { S.O_Harvest with f_grudges := va_up S.O_Harvest.f_grudges a v } } b := by by_cases hb : b = a <;> first | (simp only [wPF, va_up_ne _ _ hb]; done) | (simp only [wPF, va_up, if_neg hb]; done) | simp [wPF, va_re, va_up, va_rf, hb, h]
theorem wPu_O_Harvest_f_grudges (cyC : ClassId) (cyI : ClassId) (cyOb5c14 : ClassId) (X : va_W) (S : wPS) {A : Nat → Prop} {a k : Nat} (hD : va_D A (X ++ va_pl S.L (wPF cyC cyI cyOb5c14 S))) (hL : a ∈ S.L) (h : S.K a = 1) (hk : (X ++ va_pl S.L (wPF cyC cyI cyOb5c14 S))[k]? = some (a, wPF cyC cyI cyOb5c14 S a)) (v : Option Nat) : (X ++ va_pl S.L (wPF cyC cyI cyOb5c14 S)).set k (a, .inr (1, [va_rf (S.O_Harvest.f_amounts a), va_rf (S.O_Harvest.f_weights a), va_rf v, va_rf (S.O_Harvest.f_owners a), va_rf (S.O_Harvest.f_settings a), va_rf (S.O_Harvest.f_worths a), .int (S.O_Harvest.f_trims a), .int (S.O_Harvest.f_grudgeTrims a), .int (S.O_Harvest.f_trades a)])) = X ++ va_pl S.L (wPF cyC cyI cyOb5c14 { S with O_Harvest := { S.O_Harvest with f_grudges := va_up S.O_Harvest.f_grudges a v } }) := by
  rw [va_pl_set hD hL hk]
  exact congrArg (fun l => X ++ l) (va_pl_congr (wSt_O_Harvest_f_grudges cyC cyI cyOb5c14 S h v))
theorem wSt_O_Harvest_f_owners (cyC : ClassId) (cyI : ClassId) (cyOb5c14 : ClassId) (S : wPS) {a : Nat} (h : S.K a = 1) (v : Option Nat) (b : Nat) : va_up (wPF cyC cyI cyOb5c14 S) a (.inr (1, [va_rf (S.O_Harvest.f_amounts a), va_rf (S.O_Harvest.f_weights a), va_rf (S.O_Harvest.f_grudges a), va_rf v, va_rf (S.O_Harvest.f_settings a), va_rf (S.O_Harvest.f_worths a), .int (S.O_Harvest.f_trims a), .int (S.O_Harvest.f_grudgeTrims a), .int (S.O_Harvest.f_trades a)])) b = wPF cyC cyI cyOb5c14 { S with O_Harvest := { S.O_Harvest with f_owners := va_up S.O_Harvest.f_owners a v } } b := by by_cases hb : b = a <;> first | (simp only [wPF, va_up_ne _ _ hb]; done) | (simp only [wPF, va_up, if_neg hb]; done) | simp [wPF, va_re, va_up, va_rf, hb, h]
theorem wPu_O_Harvest_f_owners (cyC : ClassId) (cyI : ClassId) (cyOb5c14 : ClassId) (X : va_W) (S : wPS) {A : Nat → Prop} {a k : Nat} (hD : va_D A (X ++ va_pl S.L (wPF cyC cyI cyOb5c14 S))) (hL : a ∈ S.L) (h : S.K a = 1) (hk : (X ++ va_pl S.L (wPF cyC cyI cyOb5c14 S))[k]? = some (a, wPF cyC cyI cyOb5c14 S a)) (v : Option Nat) : (X ++ va_pl S.L (wPF cyC cyI cyOb5c14 S)).set k (a, .inr (1, [va_rf (S.O_Harvest.f_amounts a), va_rf (S.O_Harvest.f_weights a), va_rf (S.O_Harvest.f_grudges a), va_rf v, va_rf (S.O_Harvest.f_settings a), va_rf (S.O_Harvest.f_worths a), .int (S.O_Harvest.f_trims a), .int (S.O_Harvest.f_grudgeTrims a), .int (S.O_Harvest.f_trades a)])) = X ++ va_pl S.L (wPF cyC cyI cyOb5c14 { S with O_Harvest := { S.O_Harvest with f_owners := va_up S.O_Harvest.f_owners a v } }) := by
  rw [va_pl_set hD hL hk]
  exact congrArg (fun l => X ++ l) (va_pl_congr (wSt_O_Harvest_f_owners cyC cyI cyOb5c14 S h v))
theorem wSt_O_Harvest_f_settings (cyC : ClassId) (cyI : ClassId) (cyOb5c14 : ClassId) (S : wPS) {a : Nat} (h : S.K a = 1) (v : Option Nat) (b : Nat) : va_up (wPF cyC cyI cyOb5c14 S) a (.inr (1, [va_rf (S.O_Harvest.f_amounts a), va_rf (S.O_Harvest.f_weights a), va_rf (S.O_Harvest.f_grudges a), va_rf (S.O_Harvest.f_owners a), va_rf v, va_rf (S.O_Harvest.f_worths a), .int (S.O_Harvest.f_trims a), .int (S.O_Harvest.f_grudgeTrims a), .int (S.O_Harvest.f_trades a)])) b = wPF cyC cyI cyOb5c14 { S with O_Harvest := { S.O_Harvest with f_settings := va_up S.O_Harvest.f_settings a v } } b := by by_cases hb : b = a <;> first | (simp only [wPF, va_up_ne _ _ hb]; done) | (simp only [wPF, va_up, if_neg hb]; done) | simp [wPF, va_re, va_up, va_rf, hb, h]
theorem wPu_O_Harvest_f_settings (cyC : ClassId) (cyI : ClassId) (cyOb5c14 : ClassId) (X : va_W) (S : wPS) {A : Nat → Prop} {a k : Nat} (hD : va_D A (X ++ va_pl S.L (wPF cyC cyI cyOb5c14 S))) (hL : a ∈ S.L) (h : S.K a = 1) (hk : (X ++ va_pl S.L (wPF cyC cyI cyOb5c14 S))[k]? = some (a, wPF cyC cyI cyOb5c14 S a)) (v : Option Nat) : (X ++ va_pl S.L (wPF cyC cyI cyOb5c14 S)).set k (a, .inr (1, [va_rf (S.O_Harvest.f_amounts a), va_rf (S.O_Harvest.f_weights a), va_rf (S.O_Harvest.f_grudges a), va_rf (S.O_Harvest.f_owners a), va_rf v, va_rf (S.O_Harvest.f_worths a), .int (S.O_Harvest.f_trims a), .int (S.O_Harvest.f_grudgeTrims a), .int (S.O_Harvest.f_trades a)])) = X ++ va_pl S.L (wPF cyC cyI cyOb5c14 { S with O_Harvest := { S.O_Harvest with f_settings := va_up S.O_Harvest.f_settings a v } }) := by
  rw [va_pl_set hD hL hk]
  exact congrArg (fun l => X ++ l) (va_pl_congr (wSt_O_Harvest_f_settings cyC cyI cyOb5c14 S h v))
theorem wSt_O_Harvest_f_worths (cyC : ClassId) (cyI : ClassId) (cyOb5c14 : ClassId) (S : wPS) {a : Nat} (h : S.K a = 1) (v : Option Nat) (b : Nat) : va_up (wPF cyC cyI cyOb5c14 S) a (.inr (1, [va_rf (S.O_Harvest.f_amounts a), va_rf (S.O_Harvest.f_weights a), va_rf (S.O_Harvest.f_grudges a), va_rf (S.O_Harvest.f_owners a), va_rf (S.O_Harvest.f_settings a), va_rf v, .int (S.O_Harvest.f_trims a), .int (S.O_Harvest.f_grudgeTrims a), .int (S.O_Harvest.f_trades a)])) b = wPF cyC cyI cyOb5c14 { S with O_Harvest := { S.O_Harvest with f_worths := va_up S.O_Harvest.f_worths a v } } b := by by_cases hb : b = a <;> first | (simp only [wPF, va_up_ne _ _ hb]; done) | (simp only [wPF, va_up, if_neg hb]; done) | simp [wPF, va_re, va_up, va_rf, hb, h]
theorem wPu_O_Harvest_f_worths (cyC : ClassId) (cyI : ClassId) (cyOb5c14 : ClassId) (X : va_W) (S : wPS) {A : Nat → Prop} {a k : Nat} (hD : va_D A (X ++ va_pl S.L (wPF cyC cyI cyOb5c14 S))) (hL : a ∈ S.L) (h : S.K a = 1) (hk : (X ++ va_pl S.L (wPF cyC cyI cyOb5c14 S))[k]? = some (a, wPF cyC cyI cyOb5c14 S a)) (v : Option Nat) : (X ++ va_pl S.L (wPF cyC cyI cyOb5c14 S)).set k (a, .inr (1, [va_rf (S.O_Harvest.f_amounts a), va_rf (S.O_Harvest.f_weights a), va_rf (S.O_Harvest.f_grudges a), va_rf (S.O_Harvest.f_owners a), va_rf (S.O_Harvest.f_settings a), va_rf v, .int (S.O_Harvest.f_trims a), .int (S.O_Harvest.f_grudgeTrims a), .int (S.O_Harvest.f_trades a)])) = X ++ va_pl S.L (wPF cyC cyI cyOb5c14 { S with O_Harvest := { S.O_Harvest with f_worths := va_up S.O_Harvest.f_worths a v } }) := by
  rw [va_pl_set hD hL hk]
  exact congrArg (fun l => X ++ l) (va_pl_congr (wSt_O_Harvest_f_worths cyC cyI cyOb5c14 S h v))
theorem wSt_O_Harvest_f_trims (cyC : ClassId) (cyI : ClassId) (cyOb5c14 : ClassId) (S : wPS) {a : Nat} (h : S.K a = 1) (v : Int32) (b : Nat) : va_up (wPF cyC cyI cyOb5c14 S) a (.inr (1, [va_rf (S.O_Harvest.f_amounts a), va_rf (S.O_Harvest.f_weights a), va_rf (S.O_Harvest.f_grudges a), va_rf (S.O_Harvest.f_owners a), va_rf (S.O_Harvest.f_settings a), va_rf (S.O_Harvest.f_worths a), .int v, .int (S.O_Harvest.f_grudgeTrims a), .int (S.O_Harvest.f_trades a)])) b = wPF cyC cyI cyOb5c14 { S with O_Harvest := { S.O_Harvest with f_trims := va_up S.O_Harvest.f_trims a v } } b := by by_cases hb : b = a <;> first | (simp only [wPF, va_up_ne _ _ hb]; done) | (simp only [wPF, va_up, if_neg hb]; done) | simp [wPF, va_re, va_up, va_rf, hb, h]
theorem wPu_O_Harvest_f_trims (cyC : ClassId) (cyI : ClassId) (cyOb5c14 : ClassId) (X : va_W) (S : wPS) {A : Nat → Prop} {a k : Nat} (hD : va_D A (X ++ va_pl S.L (wPF cyC cyI cyOb5c14 S))) (hL : a ∈ S.L) (h : S.K a = 1) (hk : (X ++ va_pl S.L (wPF cyC cyI cyOb5c14 S))[k]? = some (a, wPF cyC cyI cyOb5c14 S a)) (v : Int32) : (X ++ va_pl S.L (wPF cyC cyI cyOb5c14 S)).set k (a, .inr (1, [va_rf (S.O_Harvest.f_amounts a), va_rf (S.O_Harvest.f_weights a), va_rf (S.O_Harvest.f_grudges a), va_rf (S.O_Harvest.f_owners a), va_rf (S.O_Harvest.f_settings a), va_rf (S.O_Harvest.f_worths a), .int v, .int (S.O_Harvest.f_grudgeTrims a), .int (S.O_Harvest.f_trades a)])) = X ++ va_pl S.L (wPF cyC cyI cyOb5c14 { S with O_Harvest := { S.O_Harvest with f_trims := va_up S.O_Harvest.f_trims a v } }) := by
  rw [va_pl_set hD hL hk]
  exact congrArg (fun l => X ++ l) (va_pl_congr (wSt_O_Harvest_f_trims cyC cyI cyOb5c14 S h v))
theorem wSt_O_Harvest_f_grudgeTrims (cyC : ClassId) (cyI : ClassId) (cyOb5c14 : ClassId) (S : wPS) {a : Nat} (h : S.K a = 1) (v : Int32) (b : Nat) : va_up (wPF cyC cyI cyOb5c14 S) a (.inr (1, [va_rf (S.O_Harvest.f_amounts a), va_rf (S.O_Harvest.f_weights a), va_rf (S.O_Harvest.f_grudges a), va_rf (S.O_Harvest.f_owners a), va_rf (S.O_Harvest.f_settings a), va_rf (S.O_Harvest.f_worths a), .int (S.O_Harvest.f_trims a), .int v, .int (S.O_Harvest.f_trades a)])) b = wPF cyC cyI cyOb5c14 { S with O_Harvest := { S.O_Harvest with f_grudgeTrims := va_up S.O_Harvest.f_grudgeTrims a v } } b := by by_cases hb : b = a <;> first | (simp only [wPF, va_up_ne _ _ hb]; done) | (simp only [wPF, va_up, if_neg hb]; done) | simp [wPF, va_re, va_up, va_rf, hb, h]
theorem wPu_O_Harvest_f_grudgeTrims (cyC : ClassId) (cyI : ClassId) (cyOb5c14 : ClassId) (X : va_W) (S : wPS) {A : Nat → Prop} {a k : Nat} (hD : va_D A (X ++ va_pl S.L (wPF cyC cyI cyOb5c14 S))) (hL : a ∈ S.L) (h : S.K a = 1) (hk : (X ++ va_pl S.L (wPF cyC cyI cyOb5c14 S))[k]? = some (a, wPF cyC cyI cyOb5c14 S a)) (v : Int32) : (X ++ va_pl S.L (wPF cyC cyI cyOb5c14 S)).set k (a, .inr (1, [va_rf (S.O_Harvest.f_amounts a), va_rf (S.O_Harvest.f_weights a), va_rf (S.O_Harvest.f_grudges a), va_rf (S.O_Harvest.f_owners a), va_rf (S.O_Harvest.f_settings a), va_rf (S.O_Harvest.f_worths a), .int (S.O_Harvest.f_trims a), .int v, .int (S.O_Harvest.f_trades a)])) = X ++ va_pl S.L (wPF cyC cyI cyOb5c14 { S with O_Harvest := { S.O_Harvest with f_grudgeTrims := va_up S.O_Harvest.f_grudgeTrims a v } }) := by
  rw [va_pl_set hD hL hk]
  exact congrArg (fun l => X ++ l) (va_pl_congr (wSt_O_Harvest_f_grudgeTrims cyC cyI cyOb5c14 S h v))
theorem wSt_O_Harvest_f_trades (cyC : ClassId) (cyI : ClassId) (cyOb5c14 : ClassId) (S : wPS) {a : Nat} (h : S.K a = 1) (v : Int32) (b : Nat) : va_up (wPF cyC cyI cyOb5c14 S) a (.inr (1, [va_rf (S.O_Harvest.f_amounts a), va_rf (S.O_Harvest.f_weights a), va_rf (S.O_Harvest.f_grudges a), va_rf (S.O_Harvest.f_owners a), va_rf (S.O_Harvest.f_settings a), va_rf (S.O_Harvest.f_worths a), .int (S.O_Harvest.f_trims a), .int (S.O_Harvest.f_grudgeTrims a), .int v])) b = wPF cyC cyI cyOb5c14 { S with O_Harvest := { S.O_Harvest with f_trades := va_up S.O_Harvest.f_trades a v } } b := by by_cases hb : b = a <;> first | (simp only [wPF, va_up_ne _ _ hb]; done) | (simp only [wPF, va_up, if_neg hb]; done) | simp [wPF, va_re, va_up, va_rf, hb, h]
theorem wPu_O_Harvest_f_trades (cyC : ClassId) (cyI : ClassId) (cyOb5c14 : ClassId) (X : va_W) (S : wPS) {A : Nat → Prop} {a k : Nat} (hD : va_D A (X ++ va_pl S.L (wPF cyC cyI cyOb5c14 S))) (hL : a ∈ S.L) (h : S.K a = 1) (hk : (X ++ va_pl S.L (wPF cyC cyI cyOb5c14 S))[k]? = some (a, wPF cyC cyI cyOb5c14 S a)) (v : Int32) : (X ++ va_pl S.L (wPF cyC cyI cyOb5c14 S)).set k (a, .inr (1, [va_rf (S.O_Harvest.f_amounts a), va_rf (S.O_Harvest.f_weights a), va_rf (S.O_Harvest.f_grudges a), va_rf (S.O_Harvest.f_owners a), va_rf (S.O_Harvest.f_settings a), va_rf (S.O_Harvest.f_worths a), .int (S.O_Harvest.f_trims a), .int (S.O_Harvest.f_grudgeTrims a), .int v])) = X ++ va_pl S.L (wPF cyC cyI cyOb5c14 { S with O_Harvest := { S.O_Harvest with f_trades := va_up S.O_Harvest.f_trades a v } }) := by
  rw [va_pl_set hD hL hk]
  exact congrArg (fun l => X ++ l) (va_pl_congr (wSt_O_Harvest_f_trades cyC cyI cyOb5c14 S h v))
theorem wNw_O_Harvest (cyC : ClassId) (cyI : ClassId) (cyOb5c14 : ClassId) (S : wPS) (a b : Nat) : va_up (wPF cyC cyI cyOb5c14 S) a (.inr (1, [.null, .null, .null, .null, .null, .null, .int 0, .int 0, .int 0])) b = wPF cyC cyI cyOb5c14 { S with L := S.L ++ [a], K := va_up S.K a 1, O_Harvest := { f_amounts := va_up S.O_Harvest.f_amounts a none, f_weights := va_up S.O_Harvest.f_weights a none, f_grudges := va_up S.O_Harvest.f_grudges a none, f_owners := va_up S.O_Harvest.f_owners a none, f_settings := va_up S.O_Harvest.f_settings a none, f_worths := va_up S.O_Harvest.f_worths a none, f_trims := va_up S.O_Harvest.f_trims a 0, f_grudgeTrims := va_up S.O_Harvest.f_grudgeTrims a 0, f_trades := va_up S.O_Harvest.f_trades a 0 } } b := by by_cases hb : b = a <;> first | (simp only [wPF, va_up_ne _ _ hb]; done) | (simp only [wPF, va_up, if_neg hb]; done) | simp [wPF, va_re, va_up, va_rf, hb]
theorem wPn_O_Harvest (cyC : ClassId) (cyI : ClassId) (cyOb5c14 : ClassId) (X : va_W) (S : wPS) {a : Nat} (ha : a ∉ S.L) : (X ++ va_pl S.L (wPF cyC cyI cyOb5c14 S)) ++ [(a, .inr (1, [.null, .null, .null, .null, .null, .null, .int 0, .int 0, .int 0]))] = X ++ va_pl (S.L ++ [a]) (wPF cyC cyI cyOb5c14 { S with L := S.L ++ [a], K := va_up S.K a 1, O_Harvest := { f_amounts := va_up S.O_Harvest.f_amounts a none, f_weights := va_up S.O_Harvest.f_weights a none, f_grudges := va_up S.O_Harvest.f_grudges a none, f_owners := va_up S.O_Harvest.f_owners a none, f_settings := va_up S.O_Harvest.f_settings a none, f_worths := va_up S.O_Harvest.f_worths a none, f_trims := va_up S.O_Harvest.f_trims a 0, f_grudgeTrims := va_up S.O_Harvest.f_grudgeTrims a 0, f_trades := va_up S.O_Harvest.f_trades a 0 } }) := by
  rw [List.append_assoc, va_pl_push ha]
  exact congrArg (fun l => X ++ l) (va_pl_congr (wNw_O_Harvest cyC cyI cyOb5c14 S a))
theorem wAt_O_History (cyC : ClassId) (cyI : ClassId) (cyOb5c14 : ClassId) (S : wPS) {a : Nat} (h : S.K a = 2) : wPF cyC cyI cyOb5c14 S a = .inr (2, [.int (S.O_History.f_count a), va_rf (S.O_History.f_states a)]) := by simp [wPF, h]
theorem wGt_O_History (cyC : ClassId) (cyI : ClassId) (cyOb5c14 : ClassId) (X : va_W) (S : wPS) {a : Nat} (hL : a ∈ S.L) (h : S.K a = 2) : ∃ k : Nat, (X ++ va_pl S.L (wPF cyC cyI cyOb5c14 S))[k]? = some (a, wPF cyC cyI cyOb5c14 S a) ∧ (X ++ va_pl S.L (wPF cyC cyI cyOb5c14 S))[k]? = some (a, .inr (2, [.int (S.O_History.f_count a), va_rf (S.O_History.f_states a)])) := by
  obtain ⟨k, hk⟩ := va_pl_get (X := X) (f := wPF cyC cyI cyOb5c14 S) hL
  exact ⟨k, hk, hk.trans (congrArg (fun e => some (a, e)) (wAt_O_History cyC cyI cyOb5c14 S h))⟩
theorem wSt_O_History_f_count (cyC : ClassId) (cyI : ClassId) (cyOb5c14 : ClassId) (S : wPS) {a : Nat} (h : S.K a = 2) (v : Int32) (b : Nat) : va_up (wPF cyC cyI cyOb5c14 S) a (.inr (2, [.int v, va_rf (S.O_History.f_states a)])) b = wPF cyC cyI cyOb5c14 { S with O_History := { S.O_History with f_count := va_up S.O_History.f_count a v } } b := by by_cases hb : b = a <;> first | (simp only [wPF, va_up_ne _ _ hb]; done) | (simp only [wPF, va_up, if_neg hb]; done) | simp [wPF, va_re, va_up, va_rf, hb, h]
theorem wPu_O_History_f_count (cyC : ClassId) (cyI : ClassId) (cyOb5c14 : ClassId) (X : va_W) (S : wPS) {A : Nat → Prop} {a k : Nat} (hD : va_D A (X ++ va_pl S.L (wPF cyC cyI cyOb5c14 S))) (hL : a ∈ S.L) (h : S.K a = 2) (hk : (X ++ va_pl S.L (wPF cyC cyI cyOb5c14 S))[k]? = some (a, wPF cyC cyI cyOb5c14 S a)) (v : Int32) : (X ++ va_pl S.L (wPF cyC cyI cyOb5c14 S)).set k (a, .inr (2, [.int v, va_rf (S.O_History.f_states a)])) = X ++ va_pl S.L (wPF cyC cyI cyOb5c14 { S with O_History := { S.O_History with f_count := va_up S.O_History.f_count a v } }) := by
  rw [va_pl_set hD hL hk]
  exact congrArg (fun l => X ++ l) (va_pl_congr (wSt_O_History_f_count cyC cyI cyOb5c14 S h v))
theorem wSt_O_History_f_states (cyC : ClassId) (cyI : ClassId) (cyOb5c14 : ClassId) (S : wPS) {a : Nat} (h : S.K a = 2) (v : Option Nat) (b : Nat) : va_up (wPF cyC cyI cyOb5c14 S) a (.inr (2, [.int (S.O_History.f_count a), va_rf v])) b = wPF cyC cyI cyOb5c14 { S with O_History := { S.O_History with f_states := va_up S.O_History.f_states a v } } b := by by_cases hb : b = a <;> first | (simp only [wPF, va_up_ne _ _ hb]; done) | (simp only [wPF, va_up, if_neg hb]; done) | simp [wPF, va_re, va_up, va_rf, hb, h]
theorem wPu_O_History_f_states (cyC : ClassId) (cyI : ClassId) (cyOb5c14 : ClassId) (X : va_W) (S : wPS) {A : Nat → Prop} {a k : Nat} (hD : va_D A (X ++ va_pl S.L (wPF cyC cyI cyOb5c14 S))) (hL : a ∈ S.L) (h : S.K a = 2) (hk : (X ++ va_pl S.L (wPF cyC cyI cyOb5c14 S))[k]? = some (a, wPF cyC cyI cyOb5c14 S a)) (v : Option Nat) : (X ++ va_pl S.L (wPF cyC cyI cyOb5c14 S)).set k (a, .inr (2, [.int (S.O_History.f_count a), va_rf v])) = X ++ va_pl S.L (wPF cyC cyI cyOb5c14 { S with O_History := { S.O_History with f_states := va_up S.O_History.f_states a v } }) := by
  rw [va_pl_set hD hL hk]
  exact congrArg (fun l => X ++ l) (va_pl_congr (wSt_O_History_f_states cyC cyI cyOb5c14 S h v))
theorem wNw_O_History (cyC : ClassId) (cyI : ClassId) (cyOb5c14 : ClassId) (S : wPS) (a b : Nat) : va_up (wPF cyC cyI cyOb5c14 S) a (.inr (2, [.int 0, .null])) b = wPF cyC cyI cyOb5c14 { S with L := S.L ++ [a], K := va_up S.K a 2, O_History := { f_count := va_up S.O_History.f_count a 0, f_states := va_up S.O_History.f_states a none } } b := by by_cases hb : b = a <;> first | (simp only [wPF, va_up_ne _ _ hb]; done) | (simp only [wPF, va_up, if_neg hb]; done) | simp [wPF, va_re, va_up, va_rf, hb]
theorem wPn_O_History (cyC : ClassId) (cyI : ClassId) (cyOb5c14 : ClassId) (X : va_W) (S : wPS) {a : Nat} (ha : a ∉ S.L) : (X ++ va_pl S.L (wPF cyC cyI cyOb5c14 S)) ++ [(a, .inr (2, [.int 0, .null]))] = X ++ va_pl (S.L ++ [a]) (wPF cyC cyI cyOb5c14 { S with L := S.L ++ [a], K := va_up S.K a 2, O_History := { f_count := va_up S.O_History.f_count a 0, f_states := va_up S.O_History.f_states a none } }) := by
  rw [List.append_assoc, va_pl_push ha]
  exact congrArg (fun l => X ++ l) (va_pl_congr (wNw_O_History cyC cyI cyOb5c14 S a))
theorem wAt_O_OrderText (cyC : ClassId) (cyI : ClassId) (cyOb5c14 : ClassId) (S : wPS) {a : Nat} (h : S.K a = 3) : wPF cyC cyI cyOb5c14 S a = .inr (3, [.int (S.O_OrderText.f_length a), .int (S.O_OrderText.f_at a), .int (S.O_OrderText.f_kind a), .int (S.O_OrderText.f_first a), .int (S.O_OrderText.f_second a), .int (S.O_OrderText.f_party a), va_rf (S.O_OrderText.f_digits a), va_rf (S.O_OrderText.f_signs a)]) := by simp [wPF, h]
theorem wGt_O_OrderText (cyC : ClassId) (cyI : ClassId) (cyOb5c14 : ClassId) (X : va_W) (S : wPS) {a : Nat} (hL : a ∈ S.L) (h : S.K a = 3) : ∃ k : Nat, (X ++ va_pl S.L (wPF cyC cyI cyOb5c14 S))[k]? = some (a, wPF cyC cyI cyOb5c14 S a) ∧ (X ++ va_pl S.L (wPF cyC cyI cyOb5c14 S))[k]? = some (a, .inr (3, [.int (S.O_OrderText.f_length a), .int (S.O_OrderText.f_at a), .int (S.O_OrderText.f_kind a), .int (S.O_OrderText.f_first a), .int (S.O_OrderText.f_second a), .int (S.O_OrderText.f_party a), va_rf (S.O_OrderText.f_digits a), va_rf (S.O_OrderText.f_signs a)])) := by
  obtain ⟨k, hk⟩ := va_pl_get (X := X) (f := wPF cyC cyI cyOb5c14 S) hL
  exact ⟨k, hk, hk.trans (congrArg (fun e => some (a, e)) (wAt_O_OrderText cyC cyI cyOb5c14 S h))⟩
theorem wSt_O_OrderText_f_length (cyC : ClassId) (cyI : ClassId) (cyOb5c14 : ClassId) (S : wPS) {a : Nat} (h : S.K a = 3) (v : Int32) (b : Nat) : va_up (wPF cyC cyI cyOb5c14 S) a (.inr (3, [.int v, .int (S.O_OrderText.f_at a), .int (S.O_OrderText.f_kind a), .int (S.O_OrderText.f_first a), .int (S.O_OrderText.f_second a), .int (S.O_OrderText.f_party a), va_rf (S.O_OrderText.f_digits a), va_rf (S.O_OrderText.f_signs a)])) b = wPF cyC cyI cyOb5c14 { S with O_OrderText := { S.O_OrderText with f_length := va_up S.O_OrderText.f_length a v } } b := by by_cases hb : b = a <;> first | (simp only [wPF, va_up_ne _ _ hb]; done) | (simp only [wPF, va_up, if_neg hb]; done) | simp [wPF, va_re, va_up, va_rf, hb, h]
theorem wPu_O_OrderText_f_length (cyC : ClassId) (cyI : ClassId) (cyOb5c14 : ClassId) (X : va_W) (S : wPS) {A : Nat → Prop} {a k : Nat} (hD : va_D A (X ++ va_pl S.L (wPF cyC cyI cyOb5c14 S))) (hL : a ∈ S.L) (h : S.K a = 3) (hk : (X ++ va_pl S.L (wPF cyC cyI cyOb5c14 S))[k]? = some (a, wPF cyC cyI cyOb5c14 S a)) (v : Int32) : (X ++ va_pl S.L (wPF cyC cyI cyOb5c14 S)).set k (a, .inr (3, [.int v, .int (S.O_OrderText.f_at a), .int (S.O_OrderText.f_kind a), .int (S.O_OrderText.f_first a), .int (S.O_OrderText.f_second a), .int (S.O_OrderText.f_party a), va_rf (S.O_OrderText.f_digits a), va_rf (S.O_OrderText.f_signs a)])) = X ++ va_pl S.L (wPF cyC cyI cyOb5c14 { S with O_OrderText := { S.O_OrderText with f_length := va_up S.O_OrderText.f_length a v } }) := by
  rw [va_pl_set hD hL hk]
  exact congrArg (fun l => X ++ l) (va_pl_congr (wSt_O_OrderText_f_length cyC cyI cyOb5c14 S h v))
theorem wSt_O_OrderText_f_at (cyC : ClassId) (cyI : ClassId) (cyOb5c14 : ClassId) (S : wPS) {a : Nat} (h : S.K a = 3) (v : Int32) (b : Nat) : va_up (wPF cyC cyI cyOb5c14 S) a (.inr (3, [.int (S.O_OrderText.f_length a), .int v, .int (S.O_OrderText.f_kind a), .int (S.O_OrderText.f_first a), .int (S.O_OrderText.f_second a), .int (S.O_OrderText.f_party a), va_rf (S.O_OrderText.f_digits a), va_rf (S.O_OrderText.f_signs a)])) b = wPF cyC cyI cyOb5c14 { S with O_OrderText := { S.O_OrderText with f_at := va_up S.O_OrderText.f_at a v } } b := by by_cases hb : b = a <;> first | (simp only [wPF, va_up_ne _ _ hb]; done) | (simp only [wPF, va_up, if_neg hb]; done) | simp [wPF, va_re, va_up, va_rf, hb, h]
theorem wPu_O_OrderText_f_at (cyC : ClassId) (cyI : ClassId) (cyOb5c14 : ClassId) (X : va_W) (S : wPS) {A : Nat → Prop} {a k : Nat} (hD : va_D A (X ++ va_pl S.L (wPF cyC cyI cyOb5c14 S))) (hL : a ∈ S.L) (h : S.K a = 3) (hk : (X ++ va_pl S.L (wPF cyC cyI cyOb5c14 S))[k]? = some (a, wPF cyC cyI cyOb5c14 S a)) (v : Int32) : (X ++ va_pl S.L (wPF cyC cyI cyOb5c14 S)).set k (a, .inr (3, [.int (S.O_OrderText.f_length a), .int v, .int (S.O_OrderText.f_kind a), .int (S.O_OrderText.f_first a), .int (S.O_OrderText.f_second a), .int (S.O_OrderText.f_party a), va_rf (S.O_OrderText.f_digits a), va_rf (S.O_OrderText.f_signs a)])) = X ++ va_pl S.L (wPF cyC cyI cyOb5c14 { S with O_OrderText := { S.O_OrderText with f_at := va_up S.O_OrderText.f_at a v } }) := by
  rw [va_pl_set hD hL hk]
  exact congrArg (fun l => X ++ l) (va_pl_congr (wSt_O_OrderText_f_at cyC cyI cyOb5c14 S h v))
theorem wSt_O_OrderText_f_kind (cyC : ClassId) (cyI : ClassId) (cyOb5c14 : ClassId) (S : wPS) {a : Nat} (h : S.K a = 3) (v : Int32) (b : Nat) : va_up (wPF cyC cyI cyOb5c14 S) a (.inr (3, [.int (S.O_OrderText.f_length a), .int (S.O_OrderText.f_at a), .int v, .int (S.O_OrderText.f_first a), .int (S.O_OrderText.f_second a), .int (S.O_OrderText.f_party a), va_rf (S.O_OrderText.f_digits a), va_rf (S.O_OrderText.f_signs a)])) b = wPF cyC cyI cyOb5c14 { S with O_OrderText := { S.O_OrderText with f_kind := va_up S.O_OrderText.f_kind a v } } b := by by_cases hb : b = a <;> first | (simp only [wPF, va_up_ne _ _ hb]; done) | (simp only [wPF, va_up, if_neg hb]; done) | simp [wPF, va_re, va_up, va_rf, hb, h]
theorem wPu_O_OrderText_f_kind (cyC : ClassId) (cyI : ClassId) (cyOb5c14 : ClassId) (X : va_W) (S : wPS) {A : Nat → Prop} {a k : Nat} (hD : va_D A (X ++ va_pl S.L (wPF cyC cyI cyOb5c14 S))) (hL : a ∈ S.L) (h : S.K a = 3) (hk : (X ++ va_pl S.L (wPF cyC cyI cyOb5c14 S))[k]? = some (a, wPF cyC cyI cyOb5c14 S a)) (v : Int32) : (X ++ va_pl S.L (wPF cyC cyI cyOb5c14 S)).set k (a, .inr (3, [.int (S.O_OrderText.f_length a), .int (S.O_OrderText.f_at a), .int v, .int (S.O_OrderText.f_first a), .int (S.O_OrderText.f_second a), .int (S.O_OrderText.f_party a), va_rf (S.O_OrderText.f_digits a), va_rf (S.O_OrderText.f_signs a)])) = X ++ va_pl S.L (wPF cyC cyI cyOb5c14 { S with O_OrderText := { S.O_OrderText with f_kind := va_up S.O_OrderText.f_kind a v } }) := by
  rw [va_pl_set hD hL hk]
  exact congrArg (fun l => X ++ l) (va_pl_congr (wSt_O_OrderText_f_kind cyC cyI cyOb5c14 S h v))
theorem wSt_O_OrderText_f_first (cyC : ClassId) (cyI : ClassId) (cyOb5c14 : ClassId) (S : wPS) {a : Nat} (h : S.K a = 3) (v : Int32) (b : Nat) : va_up (wPF cyC cyI cyOb5c14 S) a (.inr (3, [.int (S.O_OrderText.f_length a), .int (S.O_OrderText.f_at a), .int (S.O_OrderText.f_kind a), .int v, .int (S.O_OrderText.f_second a), .int (S.O_OrderText.f_party a), va_rf (S.O_OrderText.f_digits a), va_rf (S.O_OrderText.f_signs a)])) b = wPF cyC cyI cyOb5c14 { S with O_OrderText := { S.O_OrderText with f_first := va_up S.O_OrderText.f_first a v } } b := by by_cases hb : b = a <;> first | (simp only [wPF, va_up_ne _ _ hb]; done) | (simp only [wPF, va_up, if_neg hb]; done) | simp [wPF, va_re, va_up, va_rf, hb, h]
theorem wPu_O_OrderText_f_first (cyC : ClassId) (cyI : ClassId) (cyOb5c14 : ClassId) (X : va_W) (S : wPS) {A : Nat → Prop} {a k : Nat} (hD : va_D A (X ++ va_pl S.L (wPF cyC cyI cyOb5c14 S))) (hL : a ∈ S.L) (h : S.K a = 3) (hk : (X ++ va_pl S.L (wPF cyC cyI cyOb5c14 S))[k]? = some (a, wPF cyC cyI cyOb5c14 S a)) (v : Int32) : (X ++ va_pl S.L (wPF cyC cyI cyOb5c14 S)).set k (a, .inr (3, [.int (S.O_OrderText.f_length a), .int (S.O_OrderText.f_at a), .int (S.O_OrderText.f_kind a), .int v, .int (S.O_OrderText.f_second a), .int (S.O_OrderText.f_party a), va_rf (S.O_OrderText.f_digits a), va_rf (S.O_OrderText.f_signs a)])) = X ++ va_pl S.L (wPF cyC cyI cyOb5c14 { S with O_OrderText := { S.O_OrderText with f_first := va_up S.O_OrderText.f_first a v } }) := by
  rw [va_pl_set hD hL hk]
  exact congrArg (fun l => X ++ l) (va_pl_congr (wSt_O_OrderText_f_first cyC cyI cyOb5c14 S h v))
theorem wSt_O_OrderText_f_second (cyC : ClassId) (cyI : ClassId) (cyOb5c14 : ClassId) (S : wPS) {a : Nat} (h : S.K a = 3) (v : Int32) (b : Nat) : va_up (wPF cyC cyI cyOb5c14 S) a (.inr (3, [.int (S.O_OrderText.f_length a), .int (S.O_OrderText.f_at a), .int (S.O_OrderText.f_kind a), .int (S.O_OrderText.f_first a), .int v, .int (S.O_OrderText.f_party a), va_rf (S.O_OrderText.f_digits a), va_rf (S.O_OrderText.f_signs a)])) b = wPF cyC cyI cyOb5c14 { S with O_OrderText := { S.O_OrderText with f_second := va_up S.O_OrderText.f_second a v } } b := by by_cases hb : b = a <;> first | (simp only [wPF, va_up_ne _ _ hb]; done) | (simp only [wPF, va_up, if_neg hb]; done) | simp [wPF, va_re, va_up, va_rf, hb, h]
theorem wPu_O_OrderText_f_second (cyC : ClassId) (cyI : ClassId) (cyOb5c14 : ClassId) (X : va_W) (S : wPS) {A : Nat → Prop} {a k : Nat} (hD : va_D A (X ++ va_pl S.L (wPF cyC cyI cyOb5c14 S))) (hL : a ∈ S.L) (h : S.K a = 3) (hk : (X ++ va_pl S.L (wPF cyC cyI cyOb5c14 S))[k]? = some (a, wPF cyC cyI cyOb5c14 S a)) (v : Int32) : (X ++ va_pl S.L (wPF cyC cyI cyOb5c14 S)).set k (a, .inr (3, [.int (S.O_OrderText.f_length a), .int (S.O_OrderText.f_at a), .int (S.O_OrderText.f_kind a), .int (S.O_OrderText.f_first a), .int v, .int (S.O_OrderText.f_party a), va_rf (S.O_OrderText.f_digits a), va_rf (S.O_OrderText.f_signs a)])) = X ++ va_pl S.L (wPF cyC cyI cyOb5c14 { S with O_OrderText := { S.O_OrderText with f_second := va_up S.O_OrderText.f_second a v } }) := by
  rw [va_pl_set hD hL hk]
  exact congrArg (fun l => X ++ l) (va_pl_congr (wSt_O_OrderText_f_second cyC cyI cyOb5c14 S h v))
theorem wSt_O_OrderText_f_party (cyC : ClassId) (cyI : ClassId) (cyOb5c14 : ClassId) (S : wPS) {a : Nat} (h : S.K a = 3) (v : Int32) (b : Nat) : va_up (wPF cyC cyI cyOb5c14 S) a (.inr (3, [.int (S.O_OrderText.f_length a), .int (S.O_OrderText.f_at a), .int (S.O_OrderText.f_kind a), .int (S.O_OrderText.f_first a), .int (S.O_OrderText.f_second a), .int v, va_rf (S.O_OrderText.f_digits a), va_rf (S.O_OrderText.f_signs a)])) b = wPF cyC cyI cyOb5c14 { S with O_OrderText := { S.O_OrderText with f_party := va_up S.O_OrderText.f_party a v } } b := by by_cases hb : b = a <;> first | (simp only [wPF, va_up_ne _ _ hb]; done) | (simp only [wPF, va_up, if_neg hb]; done) | simp [wPF, va_re, va_up, va_rf, hb, h]
theorem wPu_O_OrderText_f_party (cyC : ClassId) (cyI : ClassId) (cyOb5c14 : ClassId) (X : va_W) (S : wPS) {A : Nat → Prop} {a k : Nat} (hD : va_D A (X ++ va_pl S.L (wPF cyC cyI cyOb5c14 S))) (hL : a ∈ S.L) (h : S.K a = 3) (hk : (X ++ va_pl S.L (wPF cyC cyI cyOb5c14 S))[k]? = some (a, wPF cyC cyI cyOb5c14 S a)) (v : Int32) : (X ++ va_pl S.L (wPF cyC cyI cyOb5c14 S)).set k (a, .inr (3, [.int (S.O_OrderText.f_length a), .int (S.O_OrderText.f_at a), .int (S.O_OrderText.f_kind a), .int (S.O_OrderText.f_first a), .int (S.O_OrderText.f_second a), .int v, va_rf (S.O_OrderText.f_digits a), va_rf (S.O_OrderText.f_signs a)])) = X ++ va_pl S.L (wPF cyC cyI cyOb5c14 { S with O_OrderText := { S.O_OrderText with f_party := va_up S.O_OrderText.f_party a v } }) := by
  rw [va_pl_set hD hL hk]
  exact congrArg (fun l => X ++ l) (va_pl_congr (wSt_O_OrderText_f_party cyC cyI cyOb5c14 S h v))
theorem wSt_O_OrderText_f_digits (cyC : ClassId) (cyI : ClassId) (cyOb5c14 : ClassId) (S : wPS) {a : Nat} (h : S.K a = 3) (v : Option Nat) (b : Nat) : va_up (wPF cyC cyI cyOb5c14 S) a (.inr (3, [.int (S.O_OrderText.f_length a), .int (S.O_OrderText.f_at a), .int (S.O_OrderText.f_kind a), .int (S.O_OrderText.f_first a), .int (S.O_OrderText.f_second a), .int (S.O_OrderText.f_party a), va_rf v, va_rf (S.O_OrderText.f_signs a)])) b = wPF cyC cyI cyOb5c14 { S with O_OrderText := { S.O_OrderText with f_digits := va_up S.O_OrderText.f_digits a v } } b := by by_cases hb : b = a <;> first | (simp only [wPF, va_up_ne _ _ hb]; done) | (simp only [wPF, va_up, if_neg hb]; done) | simp [wPF, va_re, va_up, va_rf, hb, h]
theorem wPu_O_OrderText_f_digits (cyC : ClassId) (cyI : ClassId) (cyOb5c14 : ClassId) (X : va_W) (S : wPS) {A : Nat → Prop} {a k : Nat} (hD : va_D A (X ++ va_pl S.L (wPF cyC cyI cyOb5c14 S))) (hL : a ∈ S.L) (h : S.K a = 3) (hk : (X ++ va_pl S.L (wPF cyC cyI cyOb5c14 S))[k]? = some (a, wPF cyC cyI cyOb5c14 S a)) (v : Option Nat) : (X ++ va_pl S.L (wPF cyC cyI cyOb5c14 S)).set k (a, .inr (3, [.int (S.O_OrderText.f_length a), .int (S.O_OrderText.f_at a), .int (S.O_OrderText.f_kind a), .int (S.O_OrderText.f_first a), .int (S.O_OrderText.f_second a), .int (S.O_OrderText.f_party a), va_rf v, va_rf (S.O_OrderText.f_signs a)])) = X ++ va_pl S.L (wPF cyC cyI cyOb5c14 { S with O_OrderText := { S.O_OrderText with f_digits := va_up S.O_OrderText.f_digits a v } }) := by
  rw [va_pl_set hD hL hk]
  exact congrArg (fun l => X ++ l) (va_pl_congr (wSt_O_OrderText_f_digits cyC cyI cyOb5c14 S h v))
theorem wSt_O_OrderText_f_signs (cyC : ClassId) (cyI : ClassId) (cyOb5c14 : ClassId) (S : wPS) {a : Nat} (h : S.K a = 3) (v : Option Nat) (b : Nat) : va_up (wPF cyC cyI cyOb5c14 S) a (.inr (3, [.int (S.O_OrderText.f_length a), .int (S.O_OrderText.f_at a), .int (S.O_OrderText.f_kind a), .int (S.O_OrderText.f_first a), .int (S.O_OrderText.f_second a), .int (S.O_OrderText.f_party a), va_rf (S.O_OrderText.f_digits a), va_rf v])) b = wPF cyC cyI cyOb5c14 { S with O_OrderText := { S.O_OrderText with f_signs := va_up S.O_OrderText.f_signs a v } } b := by by_cases hb : b = a <;> first | (simp only [wPF, va_up_ne _ _ hb]; done) | (simp only [wPF, va_up, if_neg hb]; done) | simp [wPF, va_re, va_up, va_rf, hb, h]
theorem wPu_O_OrderText_f_signs (cyC : ClassId) (cyI : ClassId) (cyOb5c14 : ClassId) (X : va_W) (S : wPS) {A : Nat → Prop} {a k : Nat} (hD : va_D A (X ++ va_pl S.L (wPF cyC cyI cyOb5c14 S))) (hL : a ∈ S.L) (h : S.K a = 3) (hk : (X ++ va_pl S.L (wPF cyC cyI cyOb5c14 S))[k]? = some (a, wPF cyC cyI cyOb5c14 S a)) (v : Option Nat) : (X ++ va_pl S.L (wPF cyC cyI cyOb5c14 S)).set k (a, .inr (3, [.int (S.O_OrderText.f_length a), .int (S.O_OrderText.f_at a), .int (S.O_OrderText.f_kind a), .int (S.O_OrderText.f_first a), .int (S.O_OrderText.f_second a), .int (S.O_OrderText.f_party a), va_rf (S.O_OrderText.f_digits a), va_rf v])) = X ++ va_pl S.L (wPF cyC cyI cyOb5c14 { S with O_OrderText := { S.O_OrderText with f_signs := va_up S.O_OrderText.f_signs a v } }) := by
  rw [va_pl_set hD hL hk]
  exact congrArg (fun l => X ++ l) (va_pl_congr (wSt_O_OrderText_f_signs cyC cyI cyOb5c14 S h v))
theorem wNw_O_OrderText (cyC : ClassId) (cyI : ClassId) (cyOb5c14 : ClassId) (S : wPS) (a b : Nat) : va_up (wPF cyC cyI cyOb5c14 S) a (.inr (3, [.int 0, .int 0, .int 0, .int 0, .int 0, .int 0, .null, .null])) b = wPF cyC cyI cyOb5c14 { S with L := S.L ++ [a], K := va_up S.K a 3, O_OrderText := { f_length := va_up S.O_OrderText.f_length a 0, f_at := va_up S.O_OrderText.f_at a 0, f_kind := va_up S.O_OrderText.f_kind a 0, f_first := va_up S.O_OrderText.f_first a 0, f_second := va_up S.O_OrderText.f_second a 0, f_party := va_up S.O_OrderText.f_party a 0, f_digits := va_up S.O_OrderText.f_digits a none, f_signs := va_up S.O_OrderText.f_signs a none } } b := by by_cases hb : b = a <;> first | (simp only [wPF, va_up_ne _ _ hb]; done) | (simp only [wPF, va_up, if_neg hb]; done) | simp [wPF, va_re, va_up, va_rf, hb]
theorem wPn_O_OrderText (cyC : ClassId) (cyI : ClassId) (cyOb5c14 : ClassId) (X : va_W) (S : wPS) {a : Nat} (ha : a ∉ S.L) : (X ++ va_pl S.L (wPF cyC cyI cyOb5c14 S)) ++ [(a, .inr (3, [.int 0, .int 0, .int 0, .int 0, .int 0, .int 0, .null, .null]))] = X ++ va_pl (S.L ++ [a]) (wPF cyC cyI cyOb5c14 { S with L := S.L ++ [a], K := va_up S.K a 3, O_OrderText := { f_length := va_up S.O_OrderText.f_length a 0, f_at := va_up S.O_OrderText.f_at a 0, f_kind := va_up S.O_OrderText.f_kind a 0, f_first := va_up S.O_OrderText.f_first a 0, f_second := va_up S.O_OrderText.f_second a 0, f_party := va_up S.O_OrderText.f_party a 0, f_digits := va_up S.O_OrderText.f_digits a none, f_signs := va_up S.O_OrderText.f_signs a none } }) := by
  rw [List.append_assoc, va_pl_push ha]
  exact congrArg (fun l => X ++ l) (va_pl_congr (wNw_O_OrderText cyC cyI cyOb5c14 S a))
theorem wAt_O_Shares (cyC : ClassId) (cyI : ClassId) (cyOb5c14 : ClassId) (S : wPS) {a : Nat} (h : S.K a = 4) : wPF cyC cyI cyOb5c14 S a = .inr (4, [.int (S.O_Shares.f_bestFirst a), .int (S.O_Shares.f_bestSecond a), .int (S.O_Shares.f_bestSum a), va_rf (S.O_Shares.f_harvest a), va_rf (S.O_Shares.f_worths a)]) := by simp [wPF, h]
theorem wGt_O_Shares (cyC : ClassId) (cyI : ClassId) (cyOb5c14 : ClassId) (X : va_W) (S : wPS) {a : Nat} (hL : a ∈ S.L) (h : S.K a = 4) : ∃ k : Nat, (X ++ va_pl S.L (wPF cyC cyI cyOb5c14 S))[k]? = some (a, wPF cyC cyI cyOb5c14 S a) ∧ (X ++ va_pl S.L (wPF cyC cyI cyOb5c14 S))[k]? = some (a, .inr (4, [.int (S.O_Shares.f_bestFirst a), .int (S.O_Shares.f_bestSecond a), .int (S.O_Shares.f_bestSum a), va_rf (S.O_Shares.f_harvest a), va_rf (S.O_Shares.f_worths a)])) := by
  obtain ⟨k, hk⟩ := va_pl_get (X := X) (f := wPF cyC cyI cyOb5c14 S) hL
  exact ⟨k, hk, hk.trans (congrArg (fun e => some (a, e)) (wAt_O_Shares cyC cyI cyOb5c14 S h))⟩
theorem wSt_O_Shares_f_bestFirst (cyC : ClassId) (cyI : ClassId) (cyOb5c14 : ClassId) (S : wPS) {a : Nat} (h : S.K a = 4) (v : Int32) (b : Nat) : va_up (wPF cyC cyI cyOb5c14 S) a (.inr (4, [.int v, .int (S.O_Shares.f_bestSecond a), .int (S.O_Shares.f_bestSum a), va_rf (S.O_Shares.f_harvest a), va_rf (S.O_Shares.f_worths a)])) b = wPF cyC cyI cyOb5c14 { S with O_Shares := { S.O_Shares with f_bestFirst := va_up S.O_Shares.f_bestFirst a v } } b := by by_cases hb : b = a <;> first | (simp only [wPF, va_up_ne _ _ hb]; done) | (simp only [wPF, va_up, if_neg hb]; done) | simp [wPF, va_re, va_up, va_rf, hb, h]
theorem wPu_O_Shares_f_bestFirst (cyC : ClassId) (cyI : ClassId) (cyOb5c14 : ClassId) (X : va_W) (S : wPS) {A : Nat → Prop} {a k : Nat} (hD : va_D A (X ++ va_pl S.L (wPF cyC cyI cyOb5c14 S))) (hL : a ∈ S.L) (h : S.K a = 4) (hk : (X ++ va_pl S.L (wPF cyC cyI cyOb5c14 S))[k]? = some (a, wPF cyC cyI cyOb5c14 S a)) (v : Int32) : (X ++ va_pl S.L (wPF cyC cyI cyOb5c14 S)).set k (a, .inr (4, [.int v, .int (S.O_Shares.f_bestSecond a), .int (S.O_Shares.f_bestSum a), va_rf (S.O_Shares.f_harvest a), va_rf (S.O_Shares.f_worths a)])) = X ++ va_pl S.L (wPF cyC cyI cyOb5c14 { S with O_Shares := { S.O_Shares with f_bestFirst := va_up S.O_Shares.f_bestFirst a v } }) := by
  rw [va_pl_set hD hL hk]
  exact congrArg (fun l => X ++ l) (va_pl_congr (wSt_O_Shares_f_bestFirst cyC cyI cyOb5c14 S h v))
theorem wSt_O_Shares_f_bestSecond (cyC : ClassId) (cyI : ClassId) (cyOb5c14 : ClassId) (S : wPS) {a : Nat} (h : S.K a = 4) (v : Int32) (b : Nat) : va_up (wPF cyC cyI cyOb5c14 S) a (.inr (4, [.int (S.O_Shares.f_bestFirst a), .int v, .int (S.O_Shares.f_bestSum a), va_rf (S.O_Shares.f_harvest a), va_rf (S.O_Shares.f_worths a)])) b = wPF cyC cyI cyOb5c14 { S with O_Shares := { S.O_Shares with f_bestSecond := va_up S.O_Shares.f_bestSecond a v } } b := by by_cases hb : b = a <;> first | (simp only [wPF, va_up_ne _ _ hb]; done) | (simp only [wPF, va_up, if_neg hb]; done) | simp [wPF, va_re, va_up, va_rf, hb, h]
theorem wPu_O_Shares_f_bestSecond (cyC : ClassId) (cyI : ClassId) (cyOb5c14 : ClassId) (X : va_W) (S : wPS) {A : Nat → Prop} {a k : Nat} (hD : va_D A (X ++ va_pl S.L (wPF cyC cyI cyOb5c14 S))) (hL : a ∈ S.L) (h : S.K a = 4) (hk : (X ++ va_pl S.L (wPF cyC cyI cyOb5c14 S))[k]? = some (a, wPF cyC cyI cyOb5c14 S a)) (v : Int32) : (X ++ va_pl S.L (wPF cyC cyI cyOb5c14 S)).set k (a, .inr (4, [.int (S.O_Shares.f_bestFirst a), .int v, .int (S.O_Shares.f_bestSum a), va_rf (S.O_Shares.f_harvest a), va_rf (S.O_Shares.f_worths a)])) = X ++ va_pl S.L (wPF cyC cyI cyOb5c14 { S with O_Shares := { S.O_Shares with f_bestSecond := va_up S.O_Shares.f_bestSecond a v } }) := by
  rw [va_pl_set hD hL hk]
  exact congrArg (fun l => X ++ l) (va_pl_congr (wSt_O_Shares_f_bestSecond cyC cyI cyOb5c14 S h v))
theorem wSt_O_Shares_f_bestSum (cyC : ClassId) (cyI : ClassId) (cyOb5c14 : ClassId) (S : wPS) {a : Nat} (h : S.K a = 4) (v : Int32) (b : Nat) : va_up (wPF cyC cyI cyOb5c14 S) a (.inr (4, [.int (S.O_Shares.f_bestFirst a), .int (S.O_Shares.f_bestSecond a), .int v, va_rf (S.O_Shares.f_harvest a), va_rf (S.O_Shares.f_worths a)])) b = wPF cyC cyI cyOb5c14 { S with O_Shares := { S.O_Shares with f_bestSum := va_up S.O_Shares.f_bestSum a v } } b := by by_cases hb : b = a <;> first | (simp only [wPF, va_up_ne _ _ hb]; done) | (simp only [wPF, va_up, if_neg hb]; done) | simp [wPF, va_re, va_up, va_rf, hb, h]
theorem wPu_O_Shares_f_bestSum (cyC : ClassId) (cyI : ClassId) (cyOb5c14 : ClassId) (X : va_W) (S : wPS) {A : Nat → Prop} {a k : Nat} (hD : va_D A (X ++ va_pl S.L (wPF cyC cyI cyOb5c14 S))) (hL : a ∈ S.L) (h : S.K a = 4) (hk : (X ++ va_pl S.L (wPF cyC cyI cyOb5c14 S))[k]? = some (a, wPF cyC cyI cyOb5c14 S a)) (v : Int32) : (X ++ va_pl S.L (wPF cyC cyI cyOb5c14 S)).set k (a, .inr (4, [.int (S.O_Shares.f_bestFirst a), .int (S.O_Shares.f_bestSecond a), .int v, va_rf (S.O_Shares.f_harvest a), va_rf (S.O_Shares.f_worths a)])) = X ++ va_pl S.L (wPF cyC cyI cyOb5c14 { S with O_Shares := { S.O_Shares with f_bestSum := va_up S.O_Shares.f_bestSum a v } }) := by
  rw [va_pl_set hD hL hk]
  exact congrArg (fun l => X ++ l) (va_pl_congr (wSt_O_Shares_f_bestSum cyC cyI cyOb5c14 S h v))
theorem wSt_O_Shares_f_harvest (cyC : ClassId) (cyI : ClassId) (cyOb5c14 : ClassId) (S : wPS) {a : Nat} (h : S.K a = 4) (v : Option Nat) (b : Nat) : va_up (wPF cyC cyI cyOb5c14 S) a (.inr (4, [.int (S.O_Shares.f_bestFirst a), .int (S.O_Shares.f_bestSecond a), .int (S.O_Shares.f_bestSum a), va_rf v, va_rf (S.O_Shares.f_worths a)])) b = wPF cyC cyI cyOb5c14 { S with O_Shares := { S.O_Shares with f_harvest := va_up S.O_Shares.f_harvest a v } } b := by by_cases hb : b = a <;> first | (simp only [wPF, va_up_ne _ _ hb]; done) | (simp only [wPF, va_up, if_neg hb]; done) | simp [wPF, va_re, va_up, va_rf, hb, h]
theorem wPu_O_Shares_f_harvest (cyC : ClassId) (cyI : ClassId) (cyOb5c14 : ClassId) (X : va_W) (S : wPS) {A : Nat → Prop} {a k : Nat} (hD : va_D A (X ++ va_pl S.L (wPF cyC cyI cyOb5c14 S))) (hL : a ∈ S.L) (h : S.K a = 4) (hk : (X ++ va_pl S.L (wPF cyC cyI cyOb5c14 S))[k]? = some (a, wPF cyC cyI cyOb5c14 S a)) (v : Option Nat) : (X ++ va_pl S.L (wPF cyC cyI cyOb5c14 S)).set k (a, .inr (4, [.int (S.O_Shares.f_bestFirst a), .int (S.O_Shares.f_bestSecond a), .int (S.O_Shares.f_bestSum a), va_rf v, va_rf (S.O_Shares.f_worths a)])) = X ++ va_pl S.L (wPF cyC cyI cyOb5c14 { S with O_Shares := { S.O_Shares with f_harvest := va_up S.O_Shares.f_harvest a v } }) := by
  rw [va_pl_set hD hL hk]
  exact congrArg (fun l => X ++ l) (va_pl_congr (wSt_O_Shares_f_harvest cyC cyI cyOb5c14 S h v))
theorem wSt_O_Shares_f_worths (cyC : ClassId) (cyI : ClassId) (cyOb5c14 : ClassId) (S : wPS) {a : Nat} (h : S.K a = 4) (v : Option Nat) (b : Nat) : va_up (wPF cyC cyI cyOb5c14 S) a (.inr (4, [.int (S.O_Shares.f_bestFirst a), .int (S.O_Shares.f_bestSecond a), .int (S.O_Shares.f_bestSum a), va_rf (S.O_Shares.f_harvest a), va_rf v])) b = wPF cyC cyI cyOb5c14 { S with O_Shares := { S.O_Shares with f_worths := va_up S.O_Shares.f_worths a v } } b := by by_cases hb : b = a <;> first | (simp only [wPF, va_up_ne _ _ hb]; done) | (simp only [wPF, va_up, if_neg hb]; done) | simp [wPF, va_re, va_up, va_rf, hb, h]
theorem wPu_O_Shares_f_worths (cyC : ClassId) (cyI : ClassId) (cyOb5c14 : ClassId) (X : va_W) (S : wPS) {A : Nat → Prop} {a k : Nat} (hD : va_D A (X ++ va_pl S.L (wPF cyC cyI cyOb5c14 S))) (hL : a ∈ S.L) (h : S.K a = 4) (hk : (X ++ va_pl S.L (wPF cyC cyI cyOb5c14 S))[k]? = some (a, wPF cyC cyI cyOb5c14 S a)) (v : Option Nat) : (X ++ va_pl S.L (wPF cyC cyI cyOb5c14 S)).set k (a, .inr (4, [.int (S.O_Shares.f_bestFirst a), .int (S.O_Shares.f_bestSecond a), .int (S.O_Shares.f_bestSum a), va_rf (S.O_Shares.f_harvest a), va_rf v])) = X ++ va_pl S.L (wPF cyC cyI cyOb5c14 { S with O_Shares := { S.O_Shares with f_worths := va_up S.O_Shares.f_worths a v } }) := by
  rw [va_pl_set hD hL hk]
  exact congrArg (fun l => X ++ l) (va_pl_congr (wSt_O_Shares_f_worths cyC cyI cyOb5c14 S h v))
theorem wNw_O_Shares (cyC : ClassId) (cyI : ClassId) (cyOb5c14 : ClassId) (S : wPS) (a b : Nat) : va_up (wPF cyC cyI cyOb5c14 S) a (.inr (4, [.int 0, .int 0, .int 0, .null, .null])) b = wPF cyC cyI cyOb5c14 { S with L := S.L ++ [a], K := va_up S.K a 4, O_Shares := { f_bestFirst := va_up S.O_Shares.f_bestFirst a 0, f_bestSecond := va_up S.O_Shares.f_bestSecond a 0, f_bestSum := va_up S.O_Shares.f_bestSum a 0, f_harvest := va_up S.O_Shares.f_harvest a none, f_worths := va_up S.O_Shares.f_worths a none } } b := by by_cases hb : b = a <;> first | (simp only [wPF, va_up_ne _ _ hb]; done) | (simp only [wPF, va_up, if_neg hb]; done) | simp [wPF, va_re, va_up, va_rf, hb]
theorem wPn_O_Shares (cyC : ClassId) (cyI : ClassId) (cyOb5c14 : ClassId) (X : va_W) (S : wPS) {a : Nat} (ha : a ∉ S.L) : (X ++ va_pl S.L (wPF cyC cyI cyOb5c14 S)) ++ [(a, .inr (4, [.int 0, .int 0, .int 0, .null, .null]))] = X ++ va_pl (S.L ++ [a]) (wPF cyC cyI cyOb5c14 { S with L := S.L ++ [a], K := va_up S.K a 4, O_Shares := { f_bestFirst := va_up S.O_Shares.f_bestFirst a 0, f_bestSecond := va_up S.O_Shares.f_bestSecond a 0, f_bestSum := va_up S.O_Shares.f_bestSum a 0, f_harvest := va_up S.O_Shares.f_harvest a none, f_worths := va_up S.O_Shares.f_worths a none } }) := by
  rw [List.append_assoc, va_pl_push ha]
  exact congrArg (fun l => X ++ l) (va_pl_congr (wNw_O_Shares cyC cyI cyOb5c14 S a))
theorem wAt_O_CousinShares (cyC : ClassId) (cyI : ClassId) (cyOb5c14 : ClassId) (S : wPS) {a : Nat} (h : S.K a = 5) : wPF cyC cyI cyOb5c14 S a = .inr (5, [va_rf (S.O_CousinShares.f_now a), va_rf (S.O_CousinShares.f_division a), va_rf (S.O_CousinShares.f_shares a), va_rf (S.O_CousinShares.f_text a), va_rf (S.O_CousinShares.f_history a), va_rf (S.O_CousinShares.f_snapshot a), .int (S.O_CousinShares.f_hasSnapshot a)]) := by simp [wPF, h]
theorem wGt_O_CousinShares (cyC : ClassId) (cyI : ClassId) (cyOb5c14 : ClassId) (X : va_W) (S : wPS) {a : Nat} (hL : a ∈ S.L) (h : S.K a = 5) : ∃ k : Nat, (X ++ va_pl S.L (wPF cyC cyI cyOb5c14 S))[k]? = some (a, wPF cyC cyI cyOb5c14 S a) ∧ (X ++ va_pl S.L (wPF cyC cyI cyOb5c14 S))[k]? = some (a, .inr (5, [va_rf (S.O_CousinShares.f_now a), va_rf (S.O_CousinShares.f_division a), va_rf (S.O_CousinShares.f_shares a), va_rf (S.O_CousinShares.f_text a), va_rf (S.O_CousinShares.f_history a), va_rf (S.O_CousinShares.f_snapshot a), .int (S.O_CousinShares.f_hasSnapshot a)])) := by
  obtain ⟨k, hk⟩ := va_pl_get (X := X) (f := wPF cyC cyI cyOb5c14 S) hL
  exact ⟨k, hk, hk.trans (congrArg (fun e => some (a, e)) (wAt_O_CousinShares cyC cyI cyOb5c14 S h))⟩
theorem wSt_O_CousinShares_f_now (cyC : ClassId) (cyI : ClassId) (cyOb5c14 : ClassId) (S : wPS) {a : Nat} (h : S.K a = 5) (v : Option Nat) (b : Nat) : va_up (wPF cyC cyI cyOb5c14 S) a (.inr (5, [va_rf v, va_rf (S.O_CousinShares.f_division a), va_rf (S.O_CousinShares.f_shares a), va_rf (S.O_CousinShares.f_text a), va_rf (S.O_CousinShares.f_history a), va_rf (S.O_CousinShares.f_snapshot a), .int (S.O_CousinShares.f_hasSnapshot a)])) b = wPF cyC cyI cyOb5c14 { S with O_CousinShares := { S.O_CousinShares with f_now := va_up S.O_CousinShares.f_now a v } } b := by by_cases hb : b = a <;> first | (simp only [wPF, va_up_ne _ _ hb]; done) | (simp only [wPF, va_up, if_neg hb]; done) | simp [wPF, va_re, va_up, va_rf, hb, h]
theorem wPu_O_CousinShares_f_now (cyC : ClassId) (cyI : ClassId) (cyOb5c14 : ClassId) (X : va_W) (S : wPS) {A : Nat → Prop} {a k : Nat} (hD : va_D A (X ++ va_pl S.L (wPF cyC cyI cyOb5c14 S))) (hL : a ∈ S.L) (h : S.K a = 5) (hk : (X ++ va_pl S.L (wPF cyC cyI cyOb5c14 S))[k]? = some (a, wPF cyC cyI cyOb5c14 S a)) (v : Option Nat) : (X ++ va_pl S.L (wPF cyC cyI cyOb5c14 S)).set k (a, .inr (5, [va_rf v, va_rf (S.O_CousinShares.f_division a), va_rf (S.O_CousinShares.f_shares a), va_rf (S.O_CousinShares.f_text a), va_rf (S.O_CousinShares.f_history a), va_rf (S.O_CousinShares.f_snapshot a), .int (S.O_CousinShares.f_hasSnapshot a)])) = X ++ va_pl S.L (wPF cyC cyI cyOb5c14 { S with O_CousinShares := { S.O_CousinShares with f_now := va_up S.O_CousinShares.f_now a v } }) := by
  rw [va_pl_set hD hL hk]
  exact congrArg (fun l => X ++ l) (va_pl_congr (wSt_O_CousinShares_f_now cyC cyI cyOb5c14 S h v))
theorem wSt_O_CousinShares_f_division (cyC : ClassId) (cyI : ClassId) (cyOb5c14 : ClassId) (S : wPS) {a : Nat} (h : S.K a = 5) (v : Option Nat) (b : Nat) : va_up (wPF cyC cyI cyOb5c14 S) a (.inr (5, [va_rf (S.O_CousinShares.f_now a), va_rf v, va_rf (S.O_CousinShares.f_shares a), va_rf (S.O_CousinShares.f_text a), va_rf (S.O_CousinShares.f_history a), va_rf (S.O_CousinShares.f_snapshot a), .int (S.O_CousinShares.f_hasSnapshot a)])) b = wPF cyC cyI cyOb5c14 { S with O_CousinShares := { S.O_CousinShares with f_division := va_up S.O_CousinShares.f_division a v } } b := by by_cases hb : b = a <;> first | (simp only [wPF, va_up_ne _ _ hb]; done) | (simp only [wPF, va_up, if_neg hb]; done) | simp [wPF, va_re, va_up, va_rf, hb, h]
theorem wPu_O_CousinShares_f_division (cyC : ClassId) (cyI : ClassId) (cyOb5c14 : ClassId) (X : va_W) (S : wPS) {A : Nat → Prop} {a k : Nat} (hD : va_D A (X ++ va_pl S.L (wPF cyC cyI cyOb5c14 S))) (hL : a ∈ S.L) (h : S.K a = 5) (hk : (X ++ va_pl S.L (wPF cyC cyI cyOb5c14 S))[k]? = some (a, wPF cyC cyI cyOb5c14 S a)) (v : Option Nat) : (X ++ va_pl S.L (wPF cyC cyI cyOb5c14 S)).set k (a, .inr (5, [va_rf (S.O_CousinShares.f_now a), va_rf v, va_rf (S.O_CousinShares.f_shares a), va_rf (S.O_CousinShares.f_text a), va_rf (S.O_CousinShares.f_history a), va_rf (S.O_CousinShares.f_snapshot a), .int (S.O_CousinShares.f_hasSnapshot a)])) = X ++ va_pl S.L (wPF cyC cyI cyOb5c14 { S with O_CousinShares := { S.O_CousinShares with f_division := va_up S.O_CousinShares.f_division a v } }) := by
  rw [va_pl_set hD hL hk]
  exact congrArg (fun l => X ++ l) (va_pl_congr (wSt_O_CousinShares_f_division cyC cyI cyOb5c14 S h v))
theorem wSt_O_CousinShares_f_shares (cyC : ClassId) (cyI : ClassId) (cyOb5c14 : ClassId) (S : wPS) {a : Nat} (h : S.K a = 5) (v : Option Nat) (b : Nat) : va_up (wPF cyC cyI cyOb5c14 S) a (.inr (5, [va_rf (S.O_CousinShares.f_now a), va_rf (S.O_CousinShares.f_division a), va_rf v, va_rf (S.O_CousinShares.f_text a), va_rf (S.O_CousinShares.f_history a), va_rf (S.O_CousinShares.f_snapshot a), .int (S.O_CousinShares.f_hasSnapshot a)])) b = wPF cyC cyI cyOb5c14 { S with O_CousinShares := { S.O_CousinShares with f_shares := va_up S.O_CousinShares.f_shares a v } } b := by by_cases hb : b = a <;> first | (simp only [wPF, va_up_ne _ _ hb]; done) | (simp only [wPF, va_up, if_neg hb]; done) | simp [wPF, va_re, va_up, va_rf, hb, h]
theorem wPu_O_CousinShares_f_shares (cyC : ClassId) (cyI : ClassId) (cyOb5c14 : ClassId) (X : va_W) (S : wPS) {A : Nat → Prop} {a k : Nat} (hD : va_D A (X ++ va_pl S.L (wPF cyC cyI cyOb5c14 S))) (hL : a ∈ S.L) (h : S.K a = 5) (hk : (X ++ va_pl S.L (wPF cyC cyI cyOb5c14 S))[k]? = some (a, wPF cyC cyI cyOb5c14 S a)) (v : Option Nat) : (X ++ va_pl S.L (wPF cyC cyI cyOb5c14 S)).set k (a, .inr (5, [va_rf (S.O_CousinShares.f_now a), va_rf (S.O_CousinShares.f_division a), va_rf v, va_rf (S.O_CousinShares.f_text a), va_rf (S.O_CousinShares.f_history a), va_rf (S.O_CousinShares.f_snapshot a), .int (S.O_CousinShares.f_hasSnapshot a)])) = X ++ va_pl S.L (wPF cyC cyI cyOb5c14 { S with O_CousinShares := { S.O_CousinShares with f_shares := va_up S.O_CousinShares.f_shares a v } }) := by
  rw [va_pl_set hD hL hk]
  exact congrArg (fun l => X ++ l) (va_pl_congr (wSt_O_CousinShares_f_shares cyC cyI cyOb5c14 S h v))
theorem wSt_O_CousinShares_f_text (cyC : ClassId) (cyI : ClassId) (cyOb5c14 : ClassId) (S : wPS) {a : Nat} (h : S.K a = 5) (v : Option Nat) (b : Nat) : va_up (wPF cyC cyI cyOb5c14 S) a (.inr (5, [va_rf (S.O_CousinShares.f_now a), va_rf (S.O_CousinShares.f_division a), va_rf (S.O_CousinShares.f_shares a), va_rf v, va_rf (S.O_CousinShares.f_history a), va_rf (S.O_CousinShares.f_snapshot a), .int (S.O_CousinShares.f_hasSnapshot a)])) b = wPF cyC cyI cyOb5c14 { S with O_CousinShares := { S.O_CousinShares with f_text := va_up S.O_CousinShares.f_text a v } } b := by by_cases hb : b = a <;> first | (simp only [wPF, va_up_ne _ _ hb]; done) | (simp only [wPF, va_up, if_neg hb]; done) | simp [wPF, va_re, va_up, va_rf, hb, h]
theorem wPu_O_CousinShares_f_text (cyC : ClassId) (cyI : ClassId) (cyOb5c14 : ClassId) (X : va_W) (S : wPS) {A : Nat → Prop} {a k : Nat} (hD : va_D A (X ++ va_pl S.L (wPF cyC cyI cyOb5c14 S))) (hL : a ∈ S.L) (h : S.K a = 5) (hk : (X ++ va_pl S.L (wPF cyC cyI cyOb5c14 S))[k]? = some (a, wPF cyC cyI cyOb5c14 S a)) (v : Option Nat) : (X ++ va_pl S.L (wPF cyC cyI cyOb5c14 S)).set k (a, .inr (5, [va_rf (S.O_CousinShares.f_now a), va_rf (S.O_CousinShares.f_division a), va_rf (S.O_CousinShares.f_shares a), va_rf v, va_rf (S.O_CousinShares.f_history a), va_rf (S.O_CousinShares.f_snapshot a), .int (S.O_CousinShares.f_hasSnapshot a)])) = X ++ va_pl S.L (wPF cyC cyI cyOb5c14 { S with O_CousinShares := { S.O_CousinShares with f_text := va_up S.O_CousinShares.f_text a v } }) := by
  rw [va_pl_set hD hL hk]
  exact congrArg (fun l => X ++ l) (va_pl_congr (wSt_O_CousinShares_f_text cyC cyI cyOb5c14 S h v))
theorem wSt_O_CousinShares_f_history (cyC : ClassId) (cyI : ClassId) (cyOb5c14 : ClassId) (S : wPS) {a : Nat} (h : S.K a = 5) (v : Option Nat) (b : Nat) : va_up (wPF cyC cyI cyOb5c14 S) a (.inr (5, [va_rf (S.O_CousinShares.f_now a), va_rf (S.O_CousinShares.f_division a), va_rf (S.O_CousinShares.f_shares a), va_rf (S.O_CousinShares.f_text a), va_rf v, va_rf (S.O_CousinShares.f_snapshot a), .int (S.O_CousinShares.f_hasSnapshot a)])) b = wPF cyC cyI cyOb5c14 { S with O_CousinShares := { S.O_CousinShares with f_history := va_up S.O_CousinShares.f_history a v } } b := by by_cases hb : b = a <;> first | (simp only [wPF, va_up_ne _ _ hb]; done) | (simp only [wPF, va_up, if_neg hb]; done) | simp [wPF, va_re, va_up, va_rf, hb, h]
theorem wPu_O_CousinShares_f_history (cyC : ClassId) (cyI : ClassId) (cyOb5c14 : ClassId) (X : va_W) (S : wPS) {A : Nat → Prop} {a k : Nat} (hD : va_D A (X ++ va_pl S.L (wPF cyC cyI cyOb5c14 S))) (hL : a ∈ S.L) (h : S.K a = 5) (hk : (X ++ va_pl S.L (wPF cyC cyI cyOb5c14 S))[k]? = some (a, wPF cyC cyI cyOb5c14 S a)) (v : Option Nat) : (X ++ va_pl S.L (wPF cyC cyI cyOb5c14 S)).set k (a, .inr (5, [va_rf (S.O_CousinShares.f_now a), va_rf (S.O_CousinShares.f_division a), va_rf (S.O_CousinShares.f_shares a), va_rf (S.O_CousinShares.f_text a), va_rf v, va_rf (S.O_CousinShares.f_snapshot a), .int (S.O_CousinShares.f_hasSnapshot a)])) = X ++ va_pl S.L (wPF cyC cyI cyOb5c14 { S with O_CousinShares := { S.O_CousinShares with f_history := va_up S.O_CousinShares.f_history a v } }) := by
  rw [va_pl_set hD hL hk]
  exact congrArg (fun l => X ++ l) (va_pl_congr (wSt_O_CousinShares_f_history cyC cyI cyOb5c14 S h v))
theorem wSt_O_CousinShares_f_snapshot (cyC : ClassId) (cyI : ClassId) (cyOb5c14 : ClassId) (S : wPS) {a : Nat} (h : S.K a = 5) (v : Option Nat) (b : Nat) : va_up (wPF cyC cyI cyOb5c14 S) a (.inr (5, [va_rf (S.O_CousinShares.f_now a), va_rf (S.O_CousinShares.f_division a), va_rf (S.O_CousinShares.f_shares a), va_rf (S.O_CousinShares.f_text a), va_rf (S.O_CousinShares.f_history a), va_rf v, .int (S.O_CousinShares.f_hasSnapshot a)])) b = wPF cyC cyI cyOb5c14 { S with O_CousinShares := { S.O_CousinShares with f_snapshot := va_up S.O_CousinShares.f_snapshot a v } } b := by by_cases hb : b = a <;> first | (simp only [wPF, va_up_ne _ _ hb]; done) | (simp only [wPF, va_up, if_neg hb]; done) | simp [wPF, va_re, va_up, va_rf, hb, h]
theorem wPu_O_CousinShares_f_snapshot (cyC : ClassId) (cyI : ClassId) (cyOb5c14 : ClassId) (X : va_W) (S : wPS) {A : Nat → Prop} {a k : Nat} (hD : va_D A (X ++ va_pl S.L (wPF cyC cyI cyOb5c14 S))) (hL : a ∈ S.L) (h : S.K a = 5) (hk : (X ++ va_pl S.L (wPF cyC cyI cyOb5c14 S))[k]? = some (a, wPF cyC cyI cyOb5c14 S a)) (v : Option Nat) : (X ++ va_pl S.L (wPF cyC cyI cyOb5c14 S)).set k (a, .inr (5, [va_rf (S.O_CousinShares.f_now a), va_rf (S.O_CousinShares.f_division a), va_rf (S.O_CousinShares.f_shares a), va_rf (S.O_CousinShares.f_text a), va_rf (S.O_CousinShares.f_history a), va_rf v, .int (S.O_CousinShares.f_hasSnapshot a)])) = X ++ va_pl S.L (wPF cyC cyI cyOb5c14 { S with O_CousinShares := { S.O_CousinShares with f_snapshot := va_up S.O_CousinShares.f_snapshot a v } }) := by
  rw [va_pl_set hD hL hk]
  exact congrArg (fun l => X ++ l) (va_pl_congr (wSt_O_CousinShares_f_snapshot cyC cyI cyOb5c14 S h v))
theorem wSt_O_CousinShares_f_hasSnapshot (cyC : ClassId) (cyI : ClassId) (cyOb5c14 : ClassId) (S : wPS) {a : Nat} (h : S.K a = 5) (v : Int32) (b : Nat) : va_up (wPF cyC cyI cyOb5c14 S) a (.inr (5, [va_rf (S.O_CousinShares.f_now a), va_rf (S.O_CousinShares.f_division a), va_rf (S.O_CousinShares.f_shares a), va_rf (S.O_CousinShares.f_text a), va_rf (S.O_CousinShares.f_history a), va_rf (S.O_CousinShares.f_snapshot a), .int v])) b = wPF cyC cyI cyOb5c14 { S with O_CousinShares := { S.O_CousinShares with f_hasSnapshot := va_up S.O_CousinShares.f_hasSnapshot a v } } b := by by_cases hb : b = a <;> first | (simp only [wPF, va_up_ne _ _ hb]; done) | (simp only [wPF, va_up, if_neg hb]; done) | simp [wPF, va_re, va_up, va_rf, hb, h]
theorem wPu_O_CousinShares_f_hasSnapshot (cyC : ClassId) (cyI : ClassId) (cyOb5c14 : ClassId) (X : va_W) (S : wPS) {A : Nat → Prop} {a k : Nat} (hD : va_D A (X ++ va_pl S.L (wPF cyC cyI cyOb5c14 S))) (hL : a ∈ S.L) (h : S.K a = 5) (hk : (X ++ va_pl S.L (wPF cyC cyI cyOb5c14 S))[k]? = some (a, wPF cyC cyI cyOb5c14 S a)) (v : Int32) : (X ++ va_pl S.L (wPF cyC cyI cyOb5c14 S)).set k (a, .inr (5, [va_rf (S.O_CousinShares.f_now a), va_rf (S.O_CousinShares.f_division a), va_rf (S.O_CousinShares.f_shares a), va_rf (S.O_CousinShares.f_text a), va_rf (S.O_CousinShares.f_history a), va_rf (S.O_CousinShares.f_snapshot a), .int v])) = X ++ va_pl S.L (wPF cyC cyI cyOb5c14 { S with O_CousinShares := { S.O_CousinShares with f_hasSnapshot := va_up S.O_CousinShares.f_hasSnapshot a v } }) := by
  rw [va_pl_set hD hL hk]
  exact congrArg (fun l => X ++ l) (va_pl_congr (wSt_O_CousinShares_f_hasSnapshot cyC cyI cyOb5c14 S h v))
theorem wNw_O_CousinShares (cyC : ClassId) (cyI : ClassId) (cyOb5c14 : ClassId) (S : wPS) (a b : Nat) : va_up (wPF cyC cyI cyOb5c14 S) a (.inr (5, [.null, .null, .null, .null, .null, .null, .int 0])) b = wPF cyC cyI cyOb5c14 { S with L := S.L ++ [a], K := va_up S.K a 5, O_CousinShares := { f_now := va_up S.O_CousinShares.f_now a none, f_division := va_up S.O_CousinShares.f_division a none, f_shares := va_up S.O_CousinShares.f_shares a none, f_text := va_up S.O_CousinShares.f_text a none, f_history := va_up S.O_CousinShares.f_history a none, f_snapshot := va_up S.O_CousinShares.f_snapshot a none, f_hasSnapshot := va_up S.O_CousinShares.f_hasSnapshot a 0 } } b := by by_cases hb : b = a <;> first | (simp only [wPF, va_up_ne _ _ hb]; done) | (simp only [wPF, va_up, if_neg hb]; done) | simp [wPF, va_re, va_up, va_rf, hb]
theorem wPn_O_CousinShares (cyC : ClassId) (cyI : ClassId) (cyOb5c14 : ClassId) (X : va_W) (S : wPS) {a : Nat} (ha : a ∉ S.L) : (X ++ va_pl S.L (wPF cyC cyI cyOb5c14 S)) ++ [(a, .inr (5, [.null, .null, .null, .null, .null, .null, .int 0]))] = X ++ va_pl (S.L ++ [a]) (wPF cyC cyI cyOb5c14 { S with L := S.L ++ [a], K := va_up S.K a 5, O_CousinShares := { f_now := va_up S.O_CousinShares.f_now a none, f_division := va_up S.O_CousinShares.f_division a none, f_shares := va_up S.O_CousinShares.f_shares a none, f_text := va_up S.O_CousinShares.f_text a none, f_history := va_up S.O_CousinShares.f_history a none, f_snapshot := va_up S.O_CousinShares.f_snapshot a none, f_hasSnapshot := va_up S.O_CousinShares.f_hasSnapshot a 0 } }) := by
  rw [List.append_assoc, va_pl_push ha]
  exact congrArg (fun l => X ++ l) (va_pl_congr (wNw_O_CousinShares cyC cyI cyOb5c14 S a))
theorem wAt_O_CousinSharesModel (cyC : ClassId) (cyI : ClassId) (cyOb5c14 : ClassId) (S : wPS) {a : Nat} (h : S.K a = 6) : wPF cyC cyI cyOb5c14 S a = .inr (6, [va_rf (S.O_CousinSharesModel.f_s a), va_rf (S.O_CousinSharesModel.f_past a), .int (S.O_CousinSharesModel.f_known a), va_rf (S.O_CousinSharesModel.f_snap a), .int (S.O_CousinSharesModel.f_isKept a), va_rf (S.O_CousinSharesModel.f_text a), .int (S.O_CousinSharesModel.f_length a), va_rf (S.O_CousinSharesModel.f_order a), .int (S.O_CousinSharesModel.f_lastOne a)]) := by simp [wPF, h]
theorem wGt_O_CousinSharesModel (cyC : ClassId) (cyI : ClassId) (cyOb5c14 : ClassId) (X : va_W) (S : wPS) {a : Nat} (hL : a ∈ S.L) (h : S.K a = 6) : ∃ k : Nat, (X ++ va_pl S.L (wPF cyC cyI cyOb5c14 S))[k]? = some (a, wPF cyC cyI cyOb5c14 S a) ∧ (X ++ va_pl S.L (wPF cyC cyI cyOb5c14 S))[k]? = some (a, .inr (6, [va_rf (S.O_CousinSharesModel.f_s a), va_rf (S.O_CousinSharesModel.f_past a), .int (S.O_CousinSharesModel.f_known a), va_rf (S.O_CousinSharesModel.f_snap a), .int (S.O_CousinSharesModel.f_isKept a), va_rf (S.O_CousinSharesModel.f_text a), .int (S.O_CousinSharesModel.f_length a), va_rf (S.O_CousinSharesModel.f_order a), .int (S.O_CousinSharesModel.f_lastOne a)])) := by
  obtain ⟨k, hk⟩ := va_pl_get (X := X) (f := wPF cyC cyI cyOb5c14 S) hL
  exact ⟨k, hk, hk.trans (congrArg (fun e => some (a, e)) (wAt_O_CousinSharesModel cyC cyI cyOb5c14 S h))⟩
theorem wSt_O_CousinSharesModel_f_s (cyC : ClassId) (cyI : ClassId) (cyOb5c14 : ClassId) (S : wPS) {a : Nat} (h : S.K a = 6) (v : Option Nat) (b : Nat) : va_up (wPF cyC cyI cyOb5c14 S) a (.inr (6, [va_rf v, va_rf (S.O_CousinSharesModel.f_past a), .int (S.O_CousinSharesModel.f_known a), va_rf (S.O_CousinSharesModel.f_snap a), .int (S.O_CousinSharesModel.f_isKept a), va_rf (S.O_CousinSharesModel.f_text a), .int (S.O_CousinSharesModel.f_length a), va_rf (S.O_CousinSharesModel.f_order a), .int (S.O_CousinSharesModel.f_lastOne a)])) b = wPF cyC cyI cyOb5c14 { S with O_CousinSharesModel := { S.O_CousinSharesModel with f_s := va_up S.O_CousinSharesModel.f_s a v } } b := by by_cases hb : b = a <;> first | (simp only [wPF, va_up_ne _ _ hb]; done) | (simp only [wPF, va_up, if_neg hb]; done) | simp [wPF, va_re, va_up, va_rf, hb, h]
theorem wPu_O_CousinSharesModel_f_s (cyC : ClassId) (cyI : ClassId) (cyOb5c14 : ClassId) (X : va_W) (S : wPS) {A : Nat → Prop} {a k : Nat} (hD : va_D A (X ++ va_pl S.L (wPF cyC cyI cyOb5c14 S))) (hL : a ∈ S.L) (h : S.K a = 6) (hk : (X ++ va_pl S.L (wPF cyC cyI cyOb5c14 S))[k]? = some (a, wPF cyC cyI cyOb5c14 S a)) (v : Option Nat) : (X ++ va_pl S.L (wPF cyC cyI cyOb5c14 S)).set k (a, .inr (6, [va_rf v, va_rf (S.O_CousinSharesModel.f_past a), .int (S.O_CousinSharesModel.f_known a), va_rf (S.O_CousinSharesModel.f_snap a), .int (S.O_CousinSharesModel.f_isKept a), va_rf (S.O_CousinSharesModel.f_text a), .int (S.O_CousinSharesModel.f_length a), va_rf (S.O_CousinSharesModel.f_order a), .int (S.O_CousinSharesModel.f_lastOne a)])) = X ++ va_pl S.L (wPF cyC cyI cyOb5c14 { S with O_CousinSharesModel := { S.O_CousinSharesModel with f_s := va_up S.O_CousinSharesModel.f_s a v } }) := by
  rw [va_pl_set hD hL hk]
  exact congrArg (fun l => X ++ l) (va_pl_congr (wSt_O_CousinSharesModel_f_s cyC cyI cyOb5c14 S h v))
theorem wSt_O_CousinSharesModel_f_past (cyC : ClassId) (cyI : ClassId) (cyOb5c14 : ClassId) (S : wPS) {a : Nat} (h : S.K a = 6) (v : Option Nat) (b : Nat) : va_up (wPF cyC cyI cyOb5c14 S) a (.inr (6, [va_rf (S.O_CousinSharesModel.f_s a), va_rf v, .int (S.O_CousinSharesModel.f_known a), va_rf (S.O_CousinSharesModel.f_snap a), .int (S.O_CousinSharesModel.f_isKept a), va_rf (S.O_CousinSharesModel.f_text a), .int (S.O_CousinSharesModel.f_length a), va_rf (S.O_CousinSharesModel.f_order a), .int (S.O_CousinSharesModel.f_lastOne a)])) b = wPF cyC cyI cyOb5c14 { S with O_CousinSharesModel := { S.O_CousinSharesModel with f_past := va_up S.O_CousinSharesModel.f_past a v } } b := by by_cases hb : b = a <;> first | (simp only [wPF, va_up_ne _ _ hb]; done) | (simp only [wPF, va_up, if_neg hb]; done) | simp [wPF, va_re, va_up, va_rf, hb, h]
theorem wPu_O_CousinSharesModel_f_past (cyC : ClassId) (cyI : ClassId) (cyOb5c14 : ClassId) (X : va_W) (S : wPS) {A : Nat → Prop} {a k : Nat} (hD : va_D A (X ++ va_pl S.L (wPF cyC cyI cyOb5c14 S))) (hL : a ∈ S.L) (h : S.K a = 6) (hk : (X ++ va_pl S.L (wPF cyC cyI cyOb5c14 S))[k]? = some (a, wPF cyC cyI cyOb5c14 S a)) (v : Option Nat) : (X ++ va_pl S.L (wPF cyC cyI cyOb5c14 S)).set k (a, .inr (6, [va_rf (S.O_CousinSharesModel.f_s a), va_rf v, .int (S.O_CousinSharesModel.f_known a), va_rf (S.O_CousinSharesModel.f_snap a), .int (S.O_CousinSharesModel.f_isKept a), va_rf (S.O_CousinSharesModel.f_text a), .int (S.O_CousinSharesModel.f_length a), va_rf (S.O_CousinSharesModel.f_order a), .int (S.O_CousinSharesModel.f_lastOne a)])) = X ++ va_pl S.L (wPF cyC cyI cyOb5c14 { S with O_CousinSharesModel := { S.O_CousinSharesModel with f_past := va_up S.O_CousinSharesModel.f_past a v } }) := by
  rw [va_pl_set hD hL hk]
  exact congrArg (fun l => X ++ l) (va_pl_congr (wSt_O_CousinSharesModel_f_past cyC cyI cyOb5c14 S h v))
theorem wSt_O_CousinSharesModel_f_known (cyC : ClassId) (cyI : ClassId) (cyOb5c14 : ClassId) (S : wPS) {a : Nat} (h : S.K a = 6) (v : Int32) (b : Nat) : va_up (wPF cyC cyI cyOb5c14 S) a (.inr (6, [va_rf (S.O_CousinSharesModel.f_s a), va_rf (S.O_CousinSharesModel.f_past a), .int v, va_rf (S.O_CousinSharesModel.f_snap a), .int (S.O_CousinSharesModel.f_isKept a), va_rf (S.O_CousinSharesModel.f_text a), .int (S.O_CousinSharesModel.f_length a), va_rf (S.O_CousinSharesModel.f_order a), .int (S.O_CousinSharesModel.f_lastOne a)])) b = wPF cyC cyI cyOb5c14 { S with O_CousinSharesModel := { S.O_CousinSharesModel with f_known := va_up S.O_CousinSharesModel.f_known a v } } b := by by_cases hb : b = a <;> first | (simp only [wPF, va_up_ne _ _ hb]; done) | (simp only [wPF, va_up, if_neg hb]; done) | simp [wPF, va_re, va_up, va_rf, hb, h]
theorem wPu_O_CousinSharesModel_f_known (cyC : ClassId) (cyI : ClassId) (cyOb5c14 : ClassId) (X : va_W) (S : wPS) {A : Nat → Prop} {a k : Nat} (hD : va_D A (X ++ va_pl S.L (wPF cyC cyI cyOb5c14 S))) (hL : a ∈ S.L) (h : S.K a = 6) (hk : (X ++ va_pl S.L (wPF cyC cyI cyOb5c14 S))[k]? = some (a, wPF cyC cyI cyOb5c14 S a)) (v : Int32) : (X ++ va_pl S.L (wPF cyC cyI cyOb5c14 S)).set k (a, .inr (6, [va_rf (S.O_CousinSharesModel.f_s a), va_rf (S.O_CousinSharesModel.f_past a), .int v, va_rf (S.O_CousinSharesModel.f_snap a), .int (S.O_CousinSharesModel.f_isKept a), va_rf (S.O_CousinSharesModel.f_text a), .int (S.O_CousinSharesModel.f_length a), va_rf (S.O_CousinSharesModel.f_order a), .int (S.O_CousinSharesModel.f_lastOne a)])) = X ++ va_pl S.L (wPF cyC cyI cyOb5c14 { S with O_CousinSharesModel := { S.O_CousinSharesModel with f_known := va_up S.O_CousinSharesModel.f_known a v } }) := by
  rw [va_pl_set hD hL hk]
  exact congrArg (fun l => X ++ l) (va_pl_congr (wSt_O_CousinSharesModel_f_known cyC cyI cyOb5c14 S h v))
theorem wSt_O_CousinSharesModel_f_snap (cyC : ClassId) (cyI : ClassId) (cyOb5c14 : ClassId) (S : wPS) {a : Nat} (h : S.K a = 6) (v : Option Nat) (b : Nat) : va_up (wPF cyC cyI cyOb5c14 S) a (.inr (6, [va_rf (S.O_CousinSharesModel.f_s a), va_rf (S.O_CousinSharesModel.f_past a), .int (S.O_CousinSharesModel.f_known a), va_rf v, .int (S.O_CousinSharesModel.f_isKept a), va_rf (S.O_CousinSharesModel.f_text a), .int (S.O_CousinSharesModel.f_length a), va_rf (S.O_CousinSharesModel.f_order a), .int (S.O_CousinSharesModel.f_lastOne a)])) b = wPF cyC cyI cyOb5c14 { S with O_CousinSharesModel := { S.O_CousinSharesModel with f_snap := va_up S.O_CousinSharesModel.f_snap a v } } b := by by_cases hb : b = a <;> first | (simp only [wPF, va_up_ne _ _ hb]; done) | (simp only [wPF, va_up, if_neg hb]; done) | simp [wPF, va_re, va_up, va_rf, hb, h]
theorem wPu_O_CousinSharesModel_f_snap (cyC : ClassId) (cyI : ClassId) (cyOb5c14 : ClassId) (X : va_W) (S : wPS) {A : Nat → Prop} {a k : Nat} (hD : va_D A (X ++ va_pl S.L (wPF cyC cyI cyOb5c14 S))) (hL : a ∈ S.L) (h : S.K a = 6) (hk : (X ++ va_pl S.L (wPF cyC cyI cyOb5c14 S))[k]? = some (a, wPF cyC cyI cyOb5c14 S a)) (v : Option Nat) : (X ++ va_pl S.L (wPF cyC cyI cyOb5c14 S)).set k (a, .inr (6, [va_rf (S.O_CousinSharesModel.f_s a), va_rf (S.O_CousinSharesModel.f_past a), .int (S.O_CousinSharesModel.f_known a), va_rf v, .int (S.O_CousinSharesModel.f_isKept a), va_rf (S.O_CousinSharesModel.f_text a), .int (S.O_CousinSharesModel.f_length a), va_rf (S.O_CousinSharesModel.f_order a), .int (S.O_CousinSharesModel.f_lastOne a)])) = X ++ va_pl S.L (wPF cyC cyI cyOb5c14 { S with O_CousinSharesModel := { S.O_CousinSharesModel with f_snap := va_up S.O_CousinSharesModel.f_snap a v } }) := by
  rw [va_pl_set hD hL hk]
  exact congrArg (fun l => X ++ l) (va_pl_congr (wSt_O_CousinSharesModel_f_snap cyC cyI cyOb5c14 S h v))
theorem wSt_O_CousinSharesModel_f_isKept (cyC : ClassId) (cyI : ClassId) (cyOb5c14 : ClassId) (S : wPS) {a : Nat} (h : S.K a = 6) (v : Int32) (b : Nat) : va_up (wPF cyC cyI cyOb5c14 S) a (.inr (6, [va_rf (S.O_CousinSharesModel.f_s a), va_rf (S.O_CousinSharesModel.f_past a), .int (S.O_CousinSharesModel.f_known a), va_rf (S.O_CousinSharesModel.f_snap a), .int v, va_rf (S.O_CousinSharesModel.f_text a), .int (S.O_CousinSharesModel.f_length a), va_rf (S.O_CousinSharesModel.f_order a), .int (S.O_CousinSharesModel.f_lastOne a)])) b = wPF cyC cyI cyOb5c14 { S with O_CousinSharesModel := { S.O_CousinSharesModel with f_isKept := va_up S.O_CousinSharesModel.f_isKept a v } } b := by by_cases hb : b = a <;> first | (simp only [wPF, va_up_ne _ _ hb]; done) | (simp only [wPF, va_up, if_neg hb]; done) | simp [wPF, va_re, va_up, va_rf, hb, h]
theorem wPu_O_CousinSharesModel_f_isKept (cyC : ClassId) (cyI : ClassId) (cyOb5c14 : ClassId) (X : va_W) (S : wPS) {A : Nat → Prop} {a k : Nat} (hD : va_D A (X ++ va_pl S.L (wPF cyC cyI cyOb5c14 S))) (hL : a ∈ S.L) (h : S.K a = 6) (hk : (X ++ va_pl S.L (wPF cyC cyI cyOb5c14 S))[k]? = some (a, wPF cyC cyI cyOb5c14 S a)) (v : Int32) : (X ++ va_pl S.L (wPF cyC cyI cyOb5c14 S)).set k (a, .inr (6, [va_rf (S.O_CousinSharesModel.f_s a), va_rf (S.O_CousinSharesModel.f_past a), .int (S.O_CousinSharesModel.f_known a), va_rf (S.O_CousinSharesModel.f_snap a), .int v, va_rf (S.O_CousinSharesModel.f_text a), .int (S.O_CousinSharesModel.f_length a), va_rf (S.O_CousinSharesModel.f_order a), .int (S.O_CousinSharesModel.f_lastOne a)])) = X ++ va_pl S.L (wPF cyC cyI cyOb5c14 { S with O_CousinSharesModel := { S.O_CousinSharesModel with f_isKept := va_up S.O_CousinSharesModel.f_isKept a v } }) := by
  rw [va_pl_set hD hL hk]
  exact congrArg (fun l => X ++ l) (va_pl_congr (wSt_O_CousinSharesModel_f_isKept cyC cyI cyOb5c14 S h v))
theorem wSt_O_CousinSharesModel_f_text (cyC : ClassId) (cyI : ClassId) (cyOb5c14 : ClassId) (S : wPS) {a : Nat} (h : S.K a = 6) (v : Option Nat) (b : Nat) : va_up (wPF cyC cyI cyOb5c14 S) a (.inr (6, [va_rf (S.O_CousinSharesModel.f_s a), va_rf (S.O_CousinSharesModel.f_past a), .int (S.O_CousinSharesModel.f_known a), va_rf (S.O_CousinSharesModel.f_snap a), .int (S.O_CousinSharesModel.f_isKept a), va_rf v, .int (S.O_CousinSharesModel.f_length a), va_rf (S.O_CousinSharesModel.f_order a), .int (S.O_CousinSharesModel.f_lastOne a)])) b = wPF cyC cyI cyOb5c14 { S with O_CousinSharesModel := { S.O_CousinSharesModel with f_text := va_up S.O_CousinSharesModel.f_text a v } } b := by by_cases hb : b = a <;> first | (simp only [wPF, va_up_ne _ _ hb]; done) | (simp only [wPF, va_up, if_neg hb]; done) | simp [wPF, va_re, va_up, va_rf, hb, h]
theorem wPu_O_CousinSharesModel_f_text (cyC : ClassId) (cyI : ClassId) (cyOb5c14 : ClassId) (X : va_W) (S : wPS) {A : Nat → Prop} {a k : Nat} (hD : va_D A (X ++ va_pl S.L (wPF cyC cyI cyOb5c14 S))) (hL : a ∈ S.L) (h : S.K a = 6) (hk : (X ++ va_pl S.L (wPF cyC cyI cyOb5c14 S))[k]? = some (a, wPF cyC cyI cyOb5c14 S a)) (v : Option Nat) : (X ++ va_pl S.L (wPF cyC cyI cyOb5c14 S)).set k (a, .inr (6, [va_rf (S.O_CousinSharesModel.f_s a), va_rf (S.O_CousinSharesModel.f_past a), .int (S.O_CousinSharesModel.f_known a), va_rf (S.O_CousinSharesModel.f_snap a), .int (S.O_CousinSharesModel.f_isKept a), va_rf v, .int (S.O_CousinSharesModel.f_length a), va_rf (S.O_CousinSharesModel.f_order a), .int (S.O_CousinSharesModel.f_lastOne a)])) = X ++ va_pl S.L (wPF cyC cyI cyOb5c14 { S with O_CousinSharesModel := { S.O_CousinSharesModel with f_text := va_up S.O_CousinSharesModel.f_text a v } }) := by
  rw [va_pl_set hD hL hk]
  exact congrArg (fun l => X ++ l) (va_pl_congr (wSt_O_CousinSharesModel_f_text cyC cyI cyOb5c14 S h v))
theorem wSt_O_CousinSharesModel_f_length (cyC : ClassId) (cyI : ClassId) (cyOb5c14 : ClassId) (S : wPS) {a : Nat} (h : S.K a = 6) (v : Int32) (b : Nat) : va_up (wPF cyC cyI cyOb5c14 S) a (.inr (6, [va_rf (S.O_CousinSharesModel.f_s a), va_rf (S.O_CousinSharesModel.f_past a), .int (S.O_CousinSharesModel.f_known a), va_rf (S.O_CousinSharesModel.f_snap a), .int (S.O_CousinSharesModel.f_isKept a), va_rf (S.O_CousinSharesModel.f_text a), .int v, va_rf (S.O_CousinSharesModel.f_order a), .int (S.O_CousinSharesModel.f_lastOne a)])) b = wPF cyC cyI cyOb5c14 { S with O_CousinSharesModel := { S.O_CousinSharesModel with f_length := va_up S.O_CousinSharesModel.f_length a v } } b := by by_cases hb : b = a <;> first | (simp only [wPF, va_up_ne _ _ hb]; done) | (simp only [wPF, va_up, if_neg hb]; done) | simp [wPF, va_re, va_up, va_rf, hb, h]
theorem wPu_O_CousinSharesModel_f_length (cyC : ClassId) (cyI : ClassId) (cyOb5c14 : ClassId) (X : va_W) (S : wPS) {A : Nat → Prop} {a k : Nat} (hD : va_D A (X ++ va_pl S.L (wPF cyC cyI cyOb5c14 S))) (hL : a ∈ S.L) (h : S.K a = 6) (hk : (X ++ va_pl S.L (wPF cyC cyI cyOb5c14 S))[k]? = some (a, wPF cyC cyI cyOb5c14 S a)) (v : Int32) : (X ++ va_pl S.L (wPF cyC cyI cyOb5c14 S)).set k (a, .inr (6, [va_rf (S.O_CousinSharesModel.f_s a), va_rf (S.O_CousinSharesModel.f_past a), .int (S.O_CousinSharesModel.f_known a), va_rf (S.O_CousinSharesModel.f_snap a), .int (S.O_CousinSharesModel.f_isKept a), va_rf (S.O_CousinSharesModel.f_text a), .int v, va_rf (S.O_CousinSharesModel.f_order a), .int (S.O_CousinSharesModel.f_lastOne a)])) = X ++ va_pl S.L (wPF cyC cyI cyOb5c14 { S with O_CousinSharesModel := { S.O_CousinSharesModel with f_length := va_up S.O_CousinSharesModel.f_length a v } }) := by
  rw [va_pl_set hD hL hk]
  exact congrArg (fun l => X ++ l) (va_pl_congr (wSt_O_CousinSharesModel_f_length cyC cyI cyOb5c14 S h v))
theorem wSt_O_CousinSharesModel_f_order (cyC : ClassId) (cyI : ClassId) (cyOb5c14 : ClassId) (S : wPS) {a : Nat} (h : S.K a = 6) (v : Option Nat) (b : Nat) : va_up (wPF cyC cyI cyOb5c14 S) a (.inr (6, [va_rf (S.O_CousinSharesModel.f_s a), va_rf (S.O_CousinSharesModel.f_past a), .int (S.O_CousinSharesModel.f_known a), va_rf (S.O_CousinSharesModel.f_snap a), .int (S.O_CousinSharesModel.f_isKept a), va_rf (S.O_CousinSharesModel.f_text a), .int (S.O_CousinSharesModel.f_length a), va_rf v, .int (S.O_CousinSharesModel.f_lastOne a)])) b = wPF cyC cyI cyOb5c14 { S with O_CousinSharesModel := { S.O_CousinSharesModel with f_order := va_up S.O_CousinSharesModel.f_order a v } } b := by by_cases hb : b = a <;> first | (simp only [wPF, va_up_ne _ _ hb]; done) | (simp only [wPF, va_up, if_neg hb]; done) | simp [wPF, va_re, va_up, va_rf, hb, h]
theorem wPu_O_CousinSharesModel_f_order (cyC : ClassId) (cyI : ClassId) (cyOb5c14 : ClassId) (X : va_W) (S : wPS) {A : Nat → Prop} {a k : Nat} (hD : va_D A (X ++ va_pl S.L (wPF cyC cyI cyOb5c14 S))) (hL : a ∈ S.L) (h : S.K a = 6) (hk : (X ++ va_pl S.L (wPF cyC cyI cyOb5c14 S))[k]? = some (a, wPF cyC cyI cyOb5c14 S a)) (v : Option Nat) : (X ++ va_pl S.L (wPF cyC cyI cyOb5c14 S)).set k (a, .inr (6, [va_rf (S.O_CousinSharesModel.f_s a), va_rf (S.O_CousinSharesModel.f_past a), .int (S.O_CousinSharesModel.f_known a), va_rf (S.O_CousinSharesModel.f_snap a), .int (S.O_CousinSharesModel.f_isKept a), va_rf (S.O_CousinSharesModel.f_text a), .int (S.O_CousinSharesModel.f_length a), va_rf v, .int (S.O_CousinSharesModel.f_lastOne a)])) = X ++ va_pl S.L (wPF cyC cyI cyOb5c14 { S with O_CousinSharesModel := { S.O_CousinSharesModel with f_order := va_up S.O_CousinSharesModel.f_order a v } }) := by
  rw [va_pl_set hD hL hk]
  exact congrArg (fun l => X ++ l) (va_pl_congr (wSt_O_CousinSharesModel_f_order cyC cyI cyOb5c14 S h v))
theorem wSt_O_CousinSharesModel_f_lastOne (cyC : ClassId) (cyI : ClassId) (cyOb5c14 : ClassId) (S : wPS) {a : Nat} (h : S.K a = 6) (v : Int32) (b : Nat) : va_up (wPF cyC cyI cyOb5c14 S) a (.inr (6, [va_rf (S.O_CousinSharesModel.f_s a), va_rf (S.O_CousinSharesModel.f_past a), .int (S.O_CousinSharesModel.f_known a), va_rf (S.O_CousinSharesModel.f_snap a), .int (S.O_CousinSharesModel.f_isKept a), va_rf (S.O_CousinSharesModel.f_text a), .int (S.O_CousinSharesModel.f_length a), va_rf (S.O_CousinSharesModel.f_order a), .int v])) b = wPF cyC cyI cyOb5c14 { S with O_CousinSharesModel := { S.O_CousinSharesModel with f_lastOne := va_up S.O_CousinSharesModel.f_lastOne a v } } b := by by_cases hb : b = a <;> first | (simp only [wPF, va_up_ne _ _ hb]; done) | (simp only [wPF, va_up, if_neg hb]; done) | simp [wPF, va_re, va_up, va_rf, hb, h]
theorem wPu_O_CousinSharesModel_f_lastOne (cyC : ClassId) (cyI : ClassId) (cyOb5c14 : ClassId) (X : va_W) (S : wPS) {A : Nat → Prop} {a k : Nat} (hD : va_D A (X ++ va_pl S.L (wPF cyC cyI cyOb5c14 S))) (hL : a ∈ S.L) (h : S.K a = 6) (hk : (X ++ va_pl S.L (wPF cyC cyI cyOb5c14 S))[k]? = some (a, wPF cyC cyI cyOb5c14 S a)) (v : Int32) : (X ++ va_pl S.L (wPF cyC cyI cyOb5c14 S)).set k (a, .inr (6, [va_rf (S.O_CousinSharesModel.f_s a), va_rf (S.O_CousinSharesModel.f_past a), .int (S.O_CousinSharesModel.f_known a), va_rf (S.O_CousinSharesModel.f_snap a), .int (S.O_CousinSharesModel.f_isKept a), va_rf (S.O_CousinSharesModel.f_text a), .int (S.O_CousinSharesModel.f_length a), va_rf (S.O_CousinSharesModel.f_order a), .int v])) = X ++ va_pl S.L (wPF cyC cyI cyOb5c14 { S with O_CousinSharesModel := { S.O_CousinSharesModel with f_lastOne := va_up S.O_CousinSharesModel.f_lastOne a v } }) := by
  rw [va_pl_set hD hL hk]
  exact congrArg (fun l => X ++ l) (va_pl_congr (wSt_O_CousinSharesModel_f_lastOne cyC cyI cyOb5c14 S h v))
theorem wNw_O_CousinSharesModel (cyC : ClassId) (cyI : ClassId) (cyOb5c14 : ClassId) (S : wPS) (a b : Nat) : va_up (wPF cyC cyI cyOb5c14 S) a (.inr (6, [.null, .null, .int 0, .null, .int 0, .null, .int 0, .null, .int 0])) b = wPF cyC cyI cyOb5c14 { S with L := S.L ++ [a], K := va_up S.K a 6, O_CousinSharesModel := { f_s := va_up S.O_CousinSharesModel.f_s a none, f_past := va_up S.O_CousinSharesModel.f_past a none, f_known := va_up S.O_CousinSharesModel.f_known a 0, f_snap := va_up S.O_CousinSharesModel.f_snap a none, f_isKept := va_up S.O_CousinSharesModel.f_isKept a 0, f_text := va_up S.O_CousinSharesModel.f_text a none, f_length := va_up S.O_CousinSharesModel.f_length a 0, f_order := va_up S.O_CousinSharesModel.f_order a none, f_lastOne := va_up S.O_CousinSharesModel.f_lastOne a 0 } } b := by by_cases hb : b = a <;> first | (simp only [wPF, va_up_ne _ _ hb]; done) | (simp only [wPF, va_up, if_neg hb]; done) | simp [wPF, va_re, va_up, va_rf, hb]
theorem wPn_O_CousinSharesModel (cyC : ClassId) (cyI : ClassId) (cyOb5c14 : ClassId) (X : va_W) (S : wPS) {a : Nat} (ha : a ∉ S.L) : (X ++ va_pl S.L (wPF cyC cyI cyOb5c14 S)) ++ [(a, .inr (6, [.null, .null, .int 0, .null, .int 0, .null, .int 0, .null, .int 0]))] = X ++ va_pl (S.L ++ [a]) (wPF cyC cyI cyOb5c14 { S with L := S.L ++ [a], K := va_up S.K a 6, O_CousinSharesModel := { f_s := va_up S.O_CousinSharesModel.f_s a none, f_past := va_up S.O_CousinSharesModel.f_past a none, f_known := va_up S.O_CousinSharesModel.f_known a 0, f_snap := va_up S.O_CousinSharesModel.f_snap a none, f_isKept := va_up S.O_CousinSharesModel.f_isKept a 0, f_text := va_up S.O_CousinSharesModel.f_text a none, f_length := va_up S.O_CousinSharesModel.f_length a 0, f_order := va_up S.O_CousinSharesModel.f_order a none, f_lastOne := va_up S.O_CousinSharesModel.f_lastOne a 0 } }) := by
  rw [List.append_assoc, va_pl_push ha]
  exact congrArg (fun l => X ++ l) (va_pl_congr (wNw_O_CousinSharesModel cyC cyI cyOb5c14 S a))
theorem wAt_R_C (cyC : ClassId) (cyI : ClassId) (cyOb5c14 : ClassId) (S : wPS) {a : Nat} (h : S.K a = 7) : wPF cyC cyI cyOb5c14 S a = .inl (cyC, S.R_C.len a, .inl (S.R_C.row a)) := by simp [wPF, h]
theorem wGt_R_C (cyC : ClassId) (cyI : ClassId) (cyOb5c14 : ClassId) (X : va_W) (S : wPS) {a : Nat} (hL : a ∈ S.L) (h : S.K a = 7) : ∃ k : Nat, (X ++ va_pl S.L (wPF cyC cyI cyOb5c14 S))[k]? = some (a, wPF cyC cyI cyOb5c14 S a) ∧ (X ++ va_pl S.L (wPF cyC cyI cyOb5c14 S))[k]? = some (a, .inl (cyC, S.R_C.len a, .inl (S.R_C.row a))) := by
  obtain ⟨k, hk⟩ := va_pl_get (X := X) (f := wPF cyC cyI cyOb5c14 S) hL
  exact ⟨k, hk, hk.trans (congrArg (fun e => some (a, e)) (wAt_R_C cyC cyI cyOb5c14 S h))⟩
theorem wSt_R_C_row (cyC : ClassId) (cyI : ClassId) (cyOb5c14 : ClassId) (S : wPS) {a : Nat} (h : S.K a = 7) (v : Nat → Int32) (b : Nat) : va_up (wPF cyC cyI cyOb5c14 S) a (.inl (cyC, S.R_C.len a, .inl v)) b = wPF cyC cyI cyOb5c14 { S with R_C := { S.R_C with row := va_up S.R_C.row a v } } b := by by_cases hb : b = a <;> first | (simp only [wPF, va_up_ne _ _ hb]; done) | (simp only [wPF, va_up, if_neg hb]; done) | simp [wPF, va_re, va_up, va_rf, hb, h]
theorem wPu_R_C_row (cyC : ClassId) (cyI : ClassId) (cyOb5c14 : ClassId) (X : va_W) (S : wPS) {A : Nat → Prop} {a k : Nat} (hD : va_D A (X ++ va_pl S.L (wPF cyC cyI cyOb5c14 S))) (hL : a ∈ S.L) (h : S.K a = 7) (hk : (X ++ va_pl S.L (wPF cyC cyI cyOb5c14 S))[k]? = some (a, wPF cyC cyI cyOb5c14 S a)) (v : Nat → Int32) : (X ++ va_pl S.L (wPF cyC cyI cyOb5c14 S)).set k (a, .inl (cyC, S.R_C.len a, .inl v)) = X ++ va_pl S.L (wPF cyC cyI cyOb5c14 { S with R_C := { S.R_C with row := va_up S.R_C.row a v } }) := by
  rw [va_pl_set hD hL hk]
  exact congrArg (fun l => X ++ l) (va_pl_congr (wSt_R_C_row cyC cyI cyOb5c14 S h v))
theorem wNw_R_C (cyC : ClassId) (cyI : ClassId) (cyOb5c14 : ClassId) (S : wPS) (a : Nat) (z : Nat) (f : Nat → Int32) (b : Nat) : va_up (wPF cyC cyI cyOb5c14 S) a (.inl (cyC, z, .inl f)) b = wPF cyC cyI cyOb5c14 { S with L := S.L ++ [a], K := va_up S.K a 7, R_C := { len := va_up S.R_C.len a z, row := va_up S.R_C.row a f } } b := by by_cases hb : b = a <;> first | (simp only [wPF, va_up_ne _ _ hb]; done) | (simp only [wPF, va_up, if_neg hb]; done) | simp [wPF, va_re, va_up, va_rf, hb]
theorem wAt_R_I (cyC : ClassId) (cyI : ClassId) (cyOb5c14 : ClassId) (S : wPS) {a : Nat} (h : S.K a = 8) : wPF cyC cyI cyOb5c14 S a = .inl (cyI, S.R_I.len a, .inl (S.R_I.row a)) := by simp [wPF, h]
theorem wGt_R_I (cyC : ClassId) (cyI : ClassId) (cyOb5c14 : ClassId) (X : va_W) (S : wPS) {a : Nat} (hL : a ∈ S.L) (h : S.K a = 8) : ∃ k : Nat, (X ++ va_pl S.L (wPF cyC cyI cyOb5c14 S))[k]? = some (a, wPF cyC cyI cyOb5c14 S a) ∧ (X ++ va_pl S.L (wPF cyC cyI cyOb5c14 S))[k]? = some (a, .inl (cyI, S.R_I.len a, .inl (S.R_I.row a))) := by
  obtain ⟨k, hk⟩ := va_pl_get (X := X) (f := wPF cyC cyI cyOb5c14 S) hL
  exact ⟨k, hk, hk.trans (congrArg (fun e => some (a, e)) (wAt_R_I cyC cyI cyOb5c14 S h))⟩
theorem wSt_R_I_row (cyC : ClassId) (cyI : ClassId) (cyOb5c14 : ClassId) (S : wPS) {a : Nat} (h : S.K a = 8) (v : Nat → Int32) (b : Nat) : va_up (wPF cyC cyI cyOb5c14 S) a (.inl (cyI, S.R_I.len a, .inl v)) b = wPF cyC cyI cyOb5c14 { S with R_I := { S.R_I with row := va_up S.R_I.row a v } } b := by by_cases hb : b = a <;> first | (simp only [wPF, va_up_ne _ _ hb]; done) | (simp only [wPF, va_up, if_neg hb]; done) | simp [wPF, va_re, va_up, va_rf, hb, h]
theorem wPu_R_I_row (cyC : ClassId) (cyI : ClassId) (cyOb5c14 : ClassId) (X : va_W) (S : wPS) {A : Nat → Prop} {a k : Nat} (hD : va_D A (X ++ va_pl S.L (wPF cyC cyI cyOb5c14 S))) (hL : a ∈ S.L) (h : S.K a = 8) (hk : (X ++ va_pl S.L (wPF cyC cyI cyOb5c14 S))[k]? = some (a, wPF cyC cyI cyOb5c14 S a)) (v : Nat → Int32) : (X ++ va_pl S.L (wPF cyC cyI cyOb5c14 S)).set k (a, .inl (cyI, S.R_I.len a, .inl v)) = X ++ va_pl S.L (wPF cyC cyI cyOb5c14 { S with R_I := { S.R_I with row := va_up S.R_I.row a v } }) := by
  rw [va_pl_set hD hL hk]
  exact congrArg (fun l => X ++ l) (va_pl_congr (wSt_R_I_row cyC cyI cyOb5c14 S h v))
theorem wNw_R_I (cyC : ClassId) (cyI : ClassId) (cyOb5c14 : ClassId) (S : wPS) (a : Nat) (z : Nat) (f : Nat → Int32) (b : Nat) : va_up (wPF cyC cyI cyOb5c14 S) a (.inl (cyI, z, .inl f)) b = wPF cyC cyI cyOb5c14 { S with L := S.L ++ [a], K := va_up S.K a 8, R_I := { len := va_up S.R_I.len a z, row := va_up S.R_I.row a f } } b := by by_cases hb : b = a <;> first | (simp only [wPF, va_up_ne _ _ hb]; done) | (simp only [wPF, va_up, if_neg hb]; done) | simp [wPF, va_re, va_up, va_rf, hb]
theorem wAt_R_Harvest (cyC : ClassId) (cyI : ClassId) (cyOb5c14 : ClassId) (S : wPS) {a : Nat} (h : S.K a = 9) : wPF cyC cyI cyOb5c14 S a = .inl (cyOb5c14, S.R_Harvest.len a, .inr (.inr (.inr (.inr (S.R_Harvest.row a))))) := by simp [wPF, h]
theorem wGt_R_Harvest (cyC : ClassId) (cyI : ClassId) (cyOb5c14 : ClassId) (X : va_W) (S : wPS) {a : Nat} (hL : a ∈ S.L) (h : S.K a = 9) : ∃ k : Nat, (X ++ va_pl S.L (wPF cyC cyI cyOb5c14 S))[k]? = some (a, wPF cyC cyI cyOb5c14 S a) ∧ (X ++ va_pl S.L (wPF cyC cyI cyOb5c14 S))[k]? = some (a, .inl (cyOb5c14, S.R_Harvest.len a, .inr (.inr (.inr (.inr (S.R_Harvest.row a)))))) := by
  obtain ⟨k, hk⟩ := va_pl_get (X := X) (f := wPF cyC cyI cyOb5c14 S) hL
  exact ⟨k, hk, hk.trans (congrArg (fun e => some (a, e)) (wAt_R_Harvest cyC cyI cyOb5c14 S h))⟩
theorem wSt_R_Harvest_row (cyC : ClassId) (cyI : ClassId) (cyOb5c14 : ClassId) (S : wPS) {a : Nat} (h : S.K a = 9) (v : Nat → Option Nat) (b : Nat) : va_up (wPF cyC cyI cyOb5c14 S) a (.inl (cyOb5c14, S.R_Harvest.len a, .inr (.inr (.inr (.inr v))))) b = wPF cyC cyI cyOb5c14 { S with R_Harvest := { S.R_Harvest with row := va_up S.R_Harvest.row a v } } b := by by_cases hb : b = a <;> first | (simp only [wPF, va_up_ne _ _ hb]; done) | (simp only [wPF, va_up, if_neg hb]; done) | simp [wPF, va_re, va_up, va_rf, hb, h]
theorem wPu_R_Harvest_row (cyC : ClassId) (cyI : ClassId) (cyOb5c14 : ClassId) (X : va_W) (S : wPS) {A : Nat → Prop} {a k : Nat} (hD : va_D A (X ++ va_pl S.L (wPF cyC cyI cyOb5c14 S))) (hL : a ∈ S.L) (h : S.K a = 9) (hk : (X ++ va_pl S.L (wPF cyC cyI cyOb5c14 S))[k]? = some (a, wPF cyC cyI cyOb5c14 S a)) (v : Nat → Option Nat) : (X ++ va_pl S.L (wPF cyC cyI cyOb5c14 S)).set k (a, .inl (cyOb5c14, S.R_Harvest.len a, .inr (.inr (.inr (.inr v))))) = X ++ va_pl S.L (wPF cyC cyI cyOb5c14 { S with R_Harvest := { S.R_Harvest with row := va_up S.R_Harvest.row a v } }) := by
  rw [va_pl_set hD hL hk]
  exact congrArg (fun l => X ++ l) (va_pl_congr (wSt_R_Harvest_row cyC cyI cyOb5c14 S h v))
theorem wNw_R_Harvest (cyC : ClassId) (cyI : ClassId) (cyOb5c14 : ClassId) (S : wPS) (a : Nat) (z : Nat) (f : Nat → Option Nat) (b : Nat) : va_up (wPF cyC cyI cyOb5c14 S) a (.inl (cyOb5c14, z, .inr (.inr (.inr (.inr f))))) b = wPF cyC cyI cyOb5c14 { S with L := S.L ++ [a], K := va_up S.K a 9, R_Harvest := { len := va_up S.R_Harvest.len a z, row := va_up S.R_Harvest.row a f } } b := by by_cases hb : b = a <;> first | (simp only [wPF, va_up_ne _ _ hb]; done) | (simp only [wPF, va_up, if_neg hb]; done) | simp [wPF, va_re, va_up, va_rf, hb]
/-! ===== END printed: names ===== -/
