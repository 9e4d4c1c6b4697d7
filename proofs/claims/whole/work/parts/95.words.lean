/-! Reserved words. -/
section WRD
variable {d e L : Nat} {I : TI} {J : TJ}
theorem bX9_kindOfWord_1 (cf : xCF) (v0 : Int64) (v2 : Int32) : xlim cf mX9_kindOfWord 1 [.long v0, xD, .int v2] [] (xst e L I J) = (if v2 < 21 then xaJ (xst e L I J) 1000001 v2 (fun w => if lg_cmp w v0 = 0 then some (some (.int (64 + v2)), xst e L I J) else xlim cf mX9_kindOfWord 2 [.long v0, xD, .int v2] [] (xst e L I J)) else xlim cf mX9_kindOfWord 3 [xD, xD, xD] [] (xst e L I J)) := (xlim_eq cf mX9_kindOfWord 1 _ _ _).trans rfl
end WRD
