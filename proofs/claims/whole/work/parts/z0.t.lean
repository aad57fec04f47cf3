set_option maxRecDepth 100000 in
theorem zz_t1 : (i_goB i_MT i_AT 3 100 351 0 (i_lo0 [.retAddr 3] 4) [] [] 0 0).isSome = true := by decide +kernel
set_option maxRecDepth 100000 in
theorem zz_t2 : ((i_goB i_MT i_AT 3 100 351 0 (i_lo0 [.retAddr 3] 4) [] [] 0 0).bind (fun s => i_exB i_MT i_AT 1000 82 0 (i_lo0 [.ref 0] 4) [] (s.2.2.1 ++ s.2.2.1) 0 0)).isNone = true := by decide +kernel
