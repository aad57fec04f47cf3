/-! THE TABLES' CHECK, part 0 -/
set_option maxRecDepth 100000 in
theorem i_t0 : i_c0.all (i_enB i_MT i_m0) = true := by decide +kernel
set_option maxRecDepth 100000 in
theorem i_t1 : i_c1.all (i_enB i_MT i_m1) = true := by decide +kernel
set_option maxRecDepth 100000 in
theorem i_t2 : i_c2.all (i_enB i_MT i_m2) = true := by decide +kernel
set_option maxRecDepth 100000 in
theorem i_t3 : i_c3.all (i_enB i_MT i_m3) = true := by decide +kernel
set_option maxRecDepth 100000 in
theorem i_t4 : i_c4.all (i_enB i_MT i_m4) = true := by decide +kernel
set_option maxRecDepth 100000 in
theorem i_t5 : i_c5.all (i_enB i_MT i_m5) = true := by decide +kernel
set_option maxRecDepth 100000 in
theorem i_t6 : i_c6.all (i_enB i_MT i_m6) = true := by decide +kernel
set_option maxRecDepth 100000 in
theorem i_t7 : i_c7.all (i_enB i_MT i_m7) = true := by decide +kernel
set_option maxRecDepth 100000 in
theorem i_t8 : i_c8.all (i_enB i_MT i_m8) = true := by decide +kernel
set_option maxRecDepth 100000 in
theorem i_t9 : i_c9.all (i_enB i_MT i_m9) = true := by decide +kernel
set_option maxRecDepth 100000 in
theorem i_t10 : i_c10.all (i_enB i_MT i_m10) = true := by decide +kernel
set_option maxRecDepth 100000 in
theorem i_t11 : i_c11.all (i_enB i_MT i_m11) = true := by decide +kernel
set_option maxRecDepth 100000 in
theorem i_t12 : i_c12.all (i_enB i_MT i_m12) = true := by decide +kernel
set_option maxRecDepth 100000 in
theorem i_t13 : i_c13.all (i_enB i_MT i_m13) = true := by decide +kernel
set_option maxRecDepth 100000 in
theorem i_t14 : i_c14.all (i_enB i_MT i_m14) = true := by decide +kernel
set_option maxRecDepth 100000 in
theorem i_t15 : i_c15.all (i_enB i_MT i_m15) = true := by decide +kernel
set_option maxRecDepth 100000 in
theorem i_t16 : i_c16.all (i_enB i_MT i_m16) = true := by decide +kernel
set_option maxRecDepth 100000 in
theorem i_t17 : i_c17.all (i_enB i_MT i_m17) = true := by decide +kernel
set_option maxRecDepth 100000 in
theorem i_t18 : i_c18.all (i_enB i_MT i_m18) = true := by decide +kernel
set_option maxRecDepth 100000 in
theorem i_t19 : i_c19.all (i_enB i_MT i_m19) = true := by decide +kernel
set_option maxRecDepth 100000 in
theorem i_t20 : i_c20.all (i_enB i_MT i_m20) = true := by decide +kernel
set_option maxRecDepth 100000 in
theorem i_t21 : i_c21.all (i_enB i_MT i_m21) = true := by decide +kernel
set_option maxRecDepth 100000 in
theorem i_t22 : i_c22.all (i_enB i_MT i_m22) = true := by decide +kernel
set_option maxRecDepth 100000 in
theorem i_t23 : i_c23.all (i_enB i_MT i_m23) = true := by decide +kernel
set_option maxRecDepth 100000 in
theorem i_t24 : i_c24.all (i_enB i_MT i_m24) = true := by decide +kernel
set_option maxRecDepth 100000 in
theorem i_t25 : i_c25.all (i_enB i_MT i_m25) = true := by decide +kernel
set_option maxRecDepth 100000 in
theorem i_t26 : i_c26.all (i_enB i_MT i_m26) = true := by decide +kernel
set_option maxRecDepth 100000 in
theorem i_t27 : i_c27.all (i_enB i_MT i_m27) = true := by decide +kernel
set_option maxRecDepth 100000 in
theorem i_t28 : i_c28.all (i_enB i_MT i_m28) = true := by decide +kernel
set_option maxRecDepth 100000 in
theorem i_t29 : i_c29.all (i_enB i_MT i_m29) = true := by decide +kernel
set_option maxRecDepth 100000 in
theorem i_t30 : i_c30.all (i_enB i_MT i_m30) = true := by decide +kernel
set_option maxRecDepth 100000 in
theorem i_t31 : i_c31.all (i_enB i_MT i_m31) = true := by decide +kernel
set_option maxRecDepth 100000 in
theorem i_t32 : i_c32.all (i_enB i_MT i_m32) = true := by decide +kernel
set_option maxRecDepth 100000 in
theorem i_t33 : i_c33.all (i_enB i_MT i_m33) = true := by decide +kernel
set_option maxRecDepth 100000 in
theorem i_t34 : i_c34.all (i_enB i_MT i_m34) = true := by decide +kernel
set_option maxRecDepth 100000 in
theorem i_t35 : i_c35.all (i_enB i_MT i_m35) = true := by decide +kernel
set_option maxRecDepth 100000 in
theorem i_t36 : i_c36.all (i_enB i_MT i_m36) = true := by decide +kernel
set_option maxRecDepth 100000 in
theorem i_t37 : i_c37.all (i_enB i_MT i_m37) = true := by decide +kernel
set_option maxRecDepth 100000 in
theorem i_t38 : i_c38.all (i_enB i_MT i_m38) = true := by decide +kernel
set_option maxRecDepth 100000 in
theorem i_t39 : i_c39.all (i_enB i_MT i_m39) = true := by decide +kernel
set_option maxRecDepth 100000 in
theorem i_t40 : i_c40.all (i_enB i_MT i_m40) = true := by decide +kernel
set_option maxRecDepth 100000 in
theorem i_t41 : i_c41.all (i_enB i_MT i_m41) = true := by decide +kernel
set_option maxRecDepth 100000 in
theorem i_t42 : i_c42.all (i_enB i_MT i_m42) = true := by decide +kernel
set_option maxRecDepth 100000 in
theorem i_t43 : i_c43.all (i_enB i_MT i_m43) = true := by decide +kernel
set_option maxRecDepth 100000 in
theorem i_t44 : i_c44.all (i_enB i_MT i_m44) = true := by decide +kernel
set_option maxRecDepth 100000 in
theorem i_t45 : i_c45.all (i_enB i_MT i_m45) = true := by decide +kernel
set_option maxRecDepth 100000 in
theorem i_t46 : i_c46.all (i_enB i_MT i_m46) = true := by decide +kernel
set_option maxRecDepth 100000 in
theorem i_t47 : i_c47.all (i_enB i_MT i_m47) = true := by decide +kernel
set_option maxRecDepth 100000 in
theorem i_t48 : i_c48.all (i_enB i_MT i_m48) = true := by decide +kernel
set_option maxRecDepth 100000 in
theorem i_t49 : i_c49.all (i_enB i_MT i_m49) = true := by decide +kernel
set_option maxRecDepth 100000 in
theorem i_t50 : i_c50.all (i_enB i_MT i_m50) = true := by decide +kernel
set_option maxRecDepth 100000 in
theorem i_t51 : i_c51.all (i_enB i_MT i_m51) = true := by decide +kernel
set_option maxRecDepth 100000 in
theorem i_t52 : i_c52.all (i_enB i_MT i_m52) = true := by decide +kernel
set_option maxRecDepth 100000 in
theorem i_t53 : i_c53.all (i_enB i_MT i_m53) = true := by decide +kernel
set_option maxRecDepth 100000 in
theorem i_t54 : i_c54.all (i_enB i_MT i_m54) = true := by decide +kernel
set_option maxRecDepth 100000 in
theorem i_t55 : i_c55.all (i_enB i_MT i_m55) = true := by decide +kernel
set_option maxRecDepth 100000 in
theorem i_t56 : i_c56.all (i_enB i_MT i_m56) = true := by decide +kernel
set_option maxRecDepth 100000 in
theorem i_t57 : i_c57.all (i_enB i_MT i_m57) = true := by decide +kernel
set_option maxRecDepth 100000 in
theorem i_t58 : i_c58.all (i_enB i_MT i_m58) = true := by decide +kernel
set_option maxRecDepth 100000 in
theorem i_t59 : i_c59.all (i_enB i_MT i_m59) = true := by decide +kernel
set_option maxRecDepth 100000 in
theorem i_t60 : i_c60.all (i_enB i_MT i_m60) = true := by decide +kernel
set_option maxRecDepth 100000 in
theorem i_t61 : i_c61.all (i_enB i_MT i_m61) = true := by decide +kernel
set_option maxRecDepth 100000 in
theorem i_t62 : i_c62.all (i_enB i_MT i_m62) = true := by decide +kernel
set_option maxRecDepth 100000 in
theorem i_t63 : i_c63.all (i_enB i_MT i_m63) = true := by decide +kernel
set_option maxRecDepth 100000 in
theorem i_t64 : i_c64.all (i_enB i_MT i_m64) = true := by decide +kernel
set_option maxRecDepth 100000 in
theorem i_t65 : i_c65.all (i_enB i_MT i_m65) = true := by decide +kernel
set_option maxRecDepth 100000 in
theorem i_t66 : i_c66.all (i_enB i_MT i_m66) = true := by decide +kernel
set_option maxRecDepth 100000 in
theorem i_t67 : i_c67.all (i_enB i_MT i_m67) = true := by decide +kernel
set_option maxRecDepth 100000 in
theorem i_t68 : i_c68.all (i_enB i_MT i_m68) = true := by decide +kernel
set_option maxRecDepth 100000 in
theorem i_t69 : i_c69.all (i_enB i_MT i_m69) = true := by decide +kernel
