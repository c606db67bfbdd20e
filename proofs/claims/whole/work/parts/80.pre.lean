def pTx : List (String × Nat × Nat) := [("bar", 38, 218), ("on", 81, 205), ("stuck", 48, 223), ("table", 53, 224), ("minutes", 58, 229), ("move", 63, 230)]
def pTm (i : Nat) : Term := .string "RingsOff$Tape" ([38, 81, 48, 53, 58, 63].getD i 0)
def pTn (i : Nat) : Term := .string "RingsOffModel" ([218, 205, 223, 224, 229, 230].getD i 0)
def pK2 (i j : Nat) : Cond := .not (.eq (pTm i) (pTm j))
def pWs : List Cond := flatC (Jvm.Cond.and given_1 narrow_1)
def pExa : Bool := (List.range 6).all fun i => pWs.contains (Cond.exactly (pTm i) "java/lang/String") && pWs.contains (Cond.eq (.field (pTm i) "java/lang/String" "coder" "B") (.int 0)) && pWs.contains (Cond.arrayOf (.field (pTm i) "java/lang/String" "value" "[B") .byte) && pWs.contains (Cond.eq (.length (.field (pTm i) "java/lang/String" "value" "[B")) (.int (Int32.ofNat (kLen.getD i 0)))) && pWs.contains (Cond.eq (pTm i) (pTn i)) && decide (kLen.getD i 0 < 2 ^ 31)
def pExb : Bool := (List.range 6).all fun i => (List.range (kLen.getD i 0)).all fun j => pWs.contains (Cond.eq (.elem (.field (pTm i) "java/lang/String" "value" "[B") (.int (Int32.ofNat j))) (.int ((kByt.getD i []).getD j 0)))
def pExc : Bool := (List.range 6).all fun i => (List.range 6).all fun j => i == j || pWs.contains (pK2 i j) || pWs.contains (pK2 j i)
theorem pExa_ok : pExa = true := by decide +kernel
theorem pExb_ok : pExb = true := by decide +kernel
theorem pExc_ok : pExc = true := by decide +kernel
theorem p_srT : ∀ i < 6, Cond.stringRef "RingsOff$Tape" ([38, 81, 48, 53, 58, 63].getD i 0) (["bar", "on", "stuck", "table", "minutes", "move"].getD i "") ∈ lw_tbl := by decide +kernel
theorem p_srM : ∀ i < 6, Cond.stringRef "RingsOffModel" ([218, 205, 223, 224, 229, 230].getD i 0) (["bar", "on", "stuck", "table", "minutes", "move"].getD i "") ∈ lw_tbl := by decide +kernel
theorem p_ls1 : Cond.laysStatic "java/lang/String" "COMPACT_STRINGS" "Z" ∈ lw_tbl := by decide +kernel
theorem p_ls2 : Cond.laysStatic "jdk/internal/util/Preconditions" "SIOOBE_FORMATTER" "Ljava/util/function/BiFunction;" ∈ lw_tbl := by decide +kernel
theorem p_oi : Cond.arrayOver (.array .int) ∈ lw_tbl := by decide +kernel
theorem p_ol : Cond.arrayOver (.array .long) ∈ lw_tbl := by decide +kernel
theorem p_nr1 : Cond.eq (.static "java/lang/String" "COMPACT_STRINGS" "Z") (.int 1) ∈ pWs := by decide +kernel
theorem p_nr2 : Cond.isRef (.static "jdk/internal/util/Preconditions" "SIOOBE_FORMATTER" "Ljava/util/function/BiFunction;") ∈ pWs := by decide +kernel
