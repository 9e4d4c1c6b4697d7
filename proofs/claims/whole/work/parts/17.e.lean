/-! The tables of methods, held against their code. -/
theorem xmo_252 : xMo 252 = true := by decide +kernel
theorem xmo_253 : xMo 253 = true := by decide +kernel
theorem xmo_254 : xMo 254 = true := by decide +kernel
theorem xmo_255 : xMo 255 = true := by decide +kernel
theorem xmo_256 : xMo 256 = true := by decide +kernel
theorem xmo_257 : xMo 257 = true := by decide +kernel
theorem xmo_258 : xMo 258 = true := by decide +kernel
theorem xmo_259 : xMo 259 = true := by decide +kernel
theorem xmo_260 : xMo 260 = true := by decide +kernel
theorem xmo_261 : xMo 261 = true := by decide +kernel
theorem xmo_262 : xMo 262 = true := by decide +kernel
theorem xmo_263 : xMo 263 = true := by decide +kernel
theorem xmo_264 : xMo 264 = true := by decide +kernel
theorem xmo_265 : xMo 265 = true := by decide +kernel
theorem xmo_266 : xMo 266 = true := by decide +kernel
theorem xmo_267 : xMo 267 = true := by decide +kernel
theorem xmo_268 : xMo 268 = true := by decide +kernel
theorem xmo_274 : xMo 274 = true := by decide +kernel
theorem xmo_275 : xMo 275 = true := by decide +kernel
theorem xmos_4 : ∀ m ∈ [252, 253, 254, 255, 256, 257, 258, 259, 260, 261, 262, 263, 264, 265, 266, 267, 268, 269, 274, 275], xMo m = true := List.forall_mem_cons.mpr ⟨xmo_252, List.forall_mem_cons.mpr ⟨xmo_253, List.forall_mem_cons.mpr ⟨xmo_254, List.forall_mem_cons.mpr ⟨xmo_255, List.forall_mem_cons.mpr ⟨xmo_256, List.forall_mem_cons.mpr ⟨xmo_257, List.forall_mem_cons.mpr ⟨xmo_258, List.forall_mem_cons.mpr ⟨xmo_259, List.forall_mem_cons.mpr ⟨xmo_260, List.forall_mem_cons.mpr ⟨xmo_261, List.forall_mem_cons.mpr ⟨xmo_262, List.forall_mem_cons.mpr ⟨xmo_263, List.forall_mem_cons.mpr ⟨xmo_264, List.forall_mem_cons.mpr ⟨xmo_265, List.forall_mem_cons.mpr ⟨xmo_266, List.forall_mem_cons.mpr ⟨xmo_267, List.forall_mem_cons.mpr ⟨xmo_268, List.forall_mem_cons.mpr ⟨xmo_269, List.forall_mem_cons.mpr ⟨xmo_274, List.forall_mem_cons.mpr ⟨xmo_275, fun _ h => absurd h List.not_mem_nil⟩⟩⟩⟩⟩⟩⟩⟩⟩⟩⟩⟩⟩⟩⟩⟩⟩⟩⟩⟩
