set_option maxRecDepth 100000 in
theorem mx_ok1 : ∀ q ∈ mx_t1, ∀ en ∈ q.2, mx_gd 1 en := dl_gt mx_LLok0 mx_KLok0 mx_JLok0 mx_ARok mx_d1 (by decide +kernel)
set_option maxRecDepth 100000 in
theorem mx_ok2 : ∀ q ∈ mx_t2, ∀ en ∈ q.2, mx_gd 2 en := dl_gt mx_LLok0 mx_KLok0 mx_JLok0 mx_ARok mx_d2 (by decide +kernel)
set_option maxRecDepth 100000 in
theorem mx_ok3 : ∀ q ∈ mx_t3, ∀ en ∈ q.2, mx_gd 3 en := dl_gt mx_LLok0 mx_KLok0 mx_JLok0 mx_ARok mx_d3 (by decide +kernel)
set_option maxRecDepth 100000 in
theorem mx_ok4 : ∀ q ∈ mx_t4, ∀ en ∈ q.2, mx_gd 4 en := dl_gt mx_LLok0 mx_KLok0 mx_JLok0 mx_ARok mx_d4 (by decide +kernel)
set_option maxRecDepth 100000 in
theorem mx_ok5 : ∀ q ∈ mx_t5, ∀ en ∈ q.2, mx_gd 5 en := dl_gt mx_LLok0 mx_KLok0 mx_JLok0 mx_ARok mx_d5 (by decide +kernel)
set_option maxRecDepth 100000 in
theorem mx_ok6 : ∀ q ∈ mx_t6, ∀ en ∈ q.2, mx_gd 6 en := dl_gt mx_LLok0 mx_KLok0 mx_JLok0 mx_ARok mx_d6 (by decide +kernel)
set_option maxRecDepth 100000 in
theorem mx_ok7 : ∀ q ∈ mx_t7, ∀ en ∈ q.2, mx_gd 7 en := dl_gt mx_LLok0 mx_KLok0 mx_JLok0 mx_ARok mx_d7 (by decide +kernel)
set_option maxRecDepth 100000 in
theorem mx_ok8 : ∀ q ∈ mx_t8, ∀ en ∈ q.2, mx_gd 8 en := dl_gt mx_LLok0 mx_KLok0 mx_JLok0 mx_ARok mx_d8 (by decide +kernel)
set_option maxRecDepth 100000 in
theorem mx_ok9 : ∀ q ∈ mx_t9, ∀ en ∈ q.2, mx_gd 9 en := dl_gt mx_LLok0 mx_KLok0 mx_JLok0 mx_ARok mx_d9 (by decide +kernel)
set_option maxRecDepth 100000 in
theorem mx_ok10 : ∀ q ∈ mx_t10, ∀ en ∈ q.2, mx_gd 10 en := dl_gt mx_LLok0 mx_KLok0 mx_JLok0 mx_ARok mx_d10 (by decide +kernel)
set_option maxRecDepth 100000 in
theorem mx_ok11 : ∀ q ∈ mx_t11, ∀ en ∈ q.2, mx_gd 11 en := dl_gt mx_LLok1 mx_KLok1 mx_JLok1 mx_ARok mx_d11 (by decide +kernel)
set_option maxRecDepth 100000 in
theorem mx_ok12 : ∀ q ∈ mx_t12, ∀ en ∈ q.2, mx_gd 12 en := dl_gt mx_LLok1 mx_KLok1 mx_JLok1 mx_ARok mx_d12 (by decide +kernel)
set_option maxRecDepth 100000 in
theorem mx_ok13 : ∀ q ∈ mx_t13, ∀ en ∈ q.2, mx_gd 13 en := dl_gt mx_LLok1 mx_KLok1 mx_JLok1 mx_ARok mx_d13 (by decide +kernel)
set_option maxRecDepth 100000 in
theorem mx_ok14 : ∀ q ∈ mx_t14, ∀ en ∈ q.2, mx_gd 14 en := dl_gt mx_LLok1 mx_KLok1 mx_JLok1 mx_ARok mx_d14 (by decide +kernel)
set_option maxRecDepth 100000 in
theorem mx_ok15 : ∀ q ∈ mx_t15, ∀ en ∈ q.2, mx_gd 15 en := dl_gt mx_LLok1 mx_KLok1 mx_JLok1 mx_ARok mx_d15 (by decide +kernel)
set_option maxRecDepth 100000 in
theorem mx_ok16 : ∀ q ∈ mx_t16, ∀ en ∈ q.2, mx_gd 16 en := dl_gt mx_LLok2 mx_KLok2 mx_JLok2 mx_ARok mx_d16 (by decide +kernel)
set_option maxRecDepth 100000 in
theorem mx_ok17 : ∀ q ∈ mx_t17, ∀ en ∈ q.2, mx_gd 17 en := dl_gt mx_LLok2 mx_KLok2 mx_JLok2 mx_ARok mx_d17 (by decide +kernel)
set_option maxRecDepth 100000 in
theorem mx_ok18 : ∀ q ∈ mx_t18, ∀ en ∈ q.2, mx_gd 18 en := dl_gt mx_LLok2 mx_KLok2 mx_JLok2 mx_ARok mx_d18 (by decide +kernel)
set_option maxRecDepth 100000 in
theorem mx_ok19 : ∀ q ∈ mx_t19, ∀ en ∈ q.2, mx_gd 19 en := dl_gt mx_LLok2 mx_KLok2 mx_JLok2 mx_ARok mx_d19 (by decide +kernel)
set_option maxRecDepth 100000 in
theorem mx_ok20 : ∀ q ∈ mx_t20, ∀ en ∈ q.2, mx_gd 20 en := dl_gt mx_LLok2 mx_KLok2 mx_JLok2 mx_ARok mx_d20 (by decide +kernel)
set_option maxRecDepth 100000 in
theorem mx_ok21 : ∀ q ∈ mx_t21, ∀ en ∈ q.2, mx_gd 21 en := dl_gt mx_LLok3 mx_KLok3 mx_JLok3 mx_ARok mx_d21 (by decide +kernel)
set_option maxRecDepth 100000 in
theorem mx_ok22 : ∀ q ∈ mx_t22, ∀ en ∈ q.2, mx_gd 22 en := dl_gt mx_LLok3 mx_KLok3 mx_JLok3 mx_ARok mx_d22 (by decide +kernel)
set_option maxRecDepth 100000 in
theorem mx_ok23 : ∀ q ∈ mx_t23, ∀ en ∈ q.2, mx_gd 23 en := dl_gt mx_LLok3 mx_KLok3 mx_JLok3 mx_ARok mx_d23 (by decide +kernel)
set_option maxRecDepth 100000 in
theorem mx_ok24 : ∀ q ∈ mx_t24, ∀ en ∈ q.2, mx_gd 24 en := dl_gt mx_LLok3 mx_KLok3 mx_JLok3 mx_ARok mx_d24 (by decide +kernel)
set_option maxRecDepth 100000 in
theorem mx_ok25 : ∀ q ∈ mx_t25, ∀ en ∈ q.2, mx_gd 25 en := dl_gt mx_LLok3 mx_KLok3 mx_JLok3 mx_ARok mx_d25 (by decide +kernel)
set_option maxRecDepth 100000 in
theorem mx_ok26 : ∀ q ∈ mx_t26, ∀ en ∈ q.2, mx_gd 26 en := dl_gt mx_LLok3 mx_KLok3 mx_JLok3 mx_ARok mx_d26 (by decide +kernel)
set_option maxRecDepth 100000 in
theorem mx_ok27 : ∀ q ∈ mx_t27, ∀ en ∈ q.2, mx_gd 27 en := dl_gt mx_LLok3 mx_KLok3 mx_JLok3 mx_ARok mx_d27 (by decide +kernel)
set_option maxRecDepth 100000 in
theorem mx_ok28 : ∀ q ∈ mx_t28, ∀ en ∈ q.2, mx_gd 28 en := dl_gt mx_LLok3 mx_KLok3 mx_JLok3 mx_ARok mx_d28 (by decide +kernel)
set_option maxRecDepth 100000 in
theorem mx_ok29 : ∀ q ∈ mx_t29, ∀ en ∈ q.2, mx_gd 29 en := dl_gt mx_LLok3 mx_KLok3 mx_JLok3 mx_ARok mx_d29 (by decide +kernel)
set_option maxRecDepth 100000 in
theorem mx_ok30_0 : ∀ q ∈ mx_t30_0, ∀ en ∈ q.2, mx_gd 30 en := dl_gt mx_LLok3 mx_KLok3 mx_JLok3 mx_ARok (dl_at.left mx_e30_0) (by decide +kernel)
set_option maxRecDepth 100000 in
theorem mx_ok30_1 : ∀ q ∈ mx_t30_1, ∀ en ∈ q.2, mx_gd 30 en := dl_gt mx_LLok3 mx_KLok3 mx_JLok3 mx_ARok (dl_at.left mx_e30_1) (by decide +kernel)
set_option maxRecDepth 100000 in
theorem mx_ok30_2 : ∀ q ∈ mx_t30_2, ∀ en ∈ q.2, mx_gd 30 en := dl_gt mx_LLok3 mx_KLok3 mx_JLok3 mx_ARok mx_e30_2 (by decide +kernel)
theorem mx_ok30 : ∀ q ∈ mx_t30, ∀ en ∈ q.2, mx_gd 30 en := (fun q h => (List.mem_append.mp h).elim (mx_ok30_0 q) ((fun q h => (List.mem_append.mp h).elim (mx_ok30_1 q) (mx_ok30_2 q)) q))
set_option maxRecDepth 100000 in
theorem mx_ok31 : ∀ q ∈ mx_t31, ∀ en ∈ q.2, mx_gd 31 en := dl_gt mx_LLok3 mx_KLok3 mx_JLok3 mx_ARok mx_d31 (by decide +kernel)
set_option maxRecDepth 100000 in
theorem mx_ok32 : ∀ q ∈ mx_t32, ∀ en ∈ q.2, mx_gd 32 en := dl_gt mx_LLok3 mx_KLok3 mx_JLok3 mx_ARok mx_d32 (by decide +kernel)
set_option maxRecDepth 100000 in
theorem mx_ok33 : ∀ q ∈ mx_t33, ∀ en ∈ q.2, mx_gd 33 en := dl_gt mx_LLok3 mx_KLok3 mx_JLok3 mx_ARok mx_d33 (by decide +kernel)
set_option maxRecDepth 100000 in
theorem mx_ok34 : ∀ q ∈ mx_t34, ∀ en ∈ q.2, mx_gd 34 en := dl_gt mx_LLok3 mx_KLok3 mx_JLok3 mx_ARok mx_d34 (by decide +kernel)
set_option maxRecDepth 100000 in
theorem mx_ok35 : ∀ q ∈ mx_t35, ∀ en ∈ q.2, mx_gd 35 en := dl_gt mx_LLok3 mx_KLok3 mx_JLok3 mx_ARok mx_d35 (by decide +kernel)
set_option maxRecDepth 100000 in
theorem mx_ok36 : ∀ q ∈ mx_t36, ∀ en ∈ q.2, mx_gd 36 en := dl_gt mx_LLok4 mx_KLok4 mx_JLok4 mx_ARok mx_d36 (by decide +kernel)
set_option maxRecDepth 100000 in
theorem mx_ok37 : ∀ q ∈ mx_t37, ∀ en ∈ q.2, mx_gd 37 en := dl_gt mx_LLok4 mx_KLok4 mx_JLok4 mx_ARok mx_d37 (by decide +kernel)
set_option maxRecDepth 100000 in
theorem mx_ok38 : ∀ q ∈ mx_t38, ∀ en ∈ q.2, mx_gd 38 en := dl_gt mx_LLok4 mx_KLok4 mx_JLok4 mx_ARok mx_d38 (by decide +kernel)
set_option maxRecDepth 100000 in
theorem mx_ok39 : ∀ q ∈ mx_t39, ∀ en ∈ q.2, mx_gd 39 en := dl_gt mx_LLok4 mx_KLok4 mx_JLok4 mx_ARok mx_d39 (by decide +kernel)
set_option maxRecDepth 100000 in
theorem mx_ok40_0 : ∀ q ∈ mx_t40_0, ∀ en ∈ q.2, mx_gd 40 en := dl_gt mx_LLok4 mx_KLok4 mx_JLok4 mx_ARok (dl_at.left mx_e40_0) (by decide +kernel)
set_option maxRecDepth 100000 in
theorem mx_ok40_1 : ∀ q ∈ mx_t40_1, ∀ en ∈ q.2, mx_gd 40 en := dl_gt mx_LLok4 mx_KLok4 mx_JLok4 mx_ARok (dl_at.left mx_e40_1) (by decide +kernel)
set_option maxRecDepth 100000 in
theorem mx_ok40_2 : ∀ q ∈ mx_t40_2, ∀ en ∈ q.2, mx_gd 40 en := dl_gt mx_LLok4 mx_KLok4 mx_JLok4 mx_ARok (dl_at.left mx_e40_2) (by decide +kernel)
set_option maxRecDepth 100000 in
theorem mx_ok40_3 : ∀ q ∈ mx_t40_3, ∀ en ∈ q.2, mx_gd 40 en := dl_gt mx_LLok4 mx_KLok4 mx_JLok4 mx_ARok mx_e40_3 (by decide +kernel)
theorem mx_ok40 : ∀ q ∈ mx_t40, ∀ en ∈ q.2, mx_gd 40 en := (fun q h => (List.mem_append.mp h).elim (mx_ok40_0 q) ((fun q h => (List.mem_append.mp h).elim (mx_ok40_1 q) ((fun q h => (List.mem_append.mp h).elim (mx_ok40_2 q) (mx_ok40_3 q)) q)) q))
set_option maxRecDepth 100000 in
theorem mx_ok41 : ∀ q ∈ mx_t41, ∀ en ∈ q.2, mx_gd 41 en := dl_gt mx_LLok4 mx_KLok4 mx_JLok4 mx_ARok mx_d41 (by decide +kernel)
set_option maxRecDepth 100000 in
theorem mx_ok42 : ∀ q ∈ mx_t42, ∀ en ∈ q.2, mx_gd 42 en := dl_gt mx_LLok5 mx_KLok5 mx_JLok5 mx_ARok mx_d42 (by decide +kernel)
set_option maxRecDepth 100000 in
theorem mx_ok43 : ∀ q ∈ mx_t43, ∀ en ∈ q.2, mx_gd 43 en := dl_gt mx_LLok5 mx_KLok5 mx_JLok5 mx_ARok mx_d43 (by decide +kernel)
set_option maxRecDepth 100000 in
theorem mx_ok44 : ∀ q ∈ mx_t44, ∀ en ∈ q.2, mx_gd 44 en := dl_gt mx_LLok5 mx_KLok5 mx_JLok5 mx_ARok mx_d44 (by decide +kernel)
set_option maxRecDepth 100000 in
theorem mx_ok45 : ∀ q ∈ mx_t45, ∀ en ∈ q.2, mx_gd 45 en := dl_gt mx_LLok5 mx_KLok5 mx_JLok5 mx_ARok mx_d45 (by decide +kernel)
set_option maxRecDepth 100000 in
theorem mx_ok46 : ∀ q ∈ mx_t46, ∀ en ∈ q.2, mx_gd 46 en := dl_gt mx_LLok5 mx_KLok5 mx_JLok5 mx_ARok mx_d46 (by decide +kernel)
set_option maxRecDepth 100000 in
theorem mx_ok47 : ∀ q ∈ mx_t47, ∀ en ∈ q.2, mx_gd 47 en := dl_gt mx_LLok5 mx_KLok5 mx_JLok5 mx_ARok mx_d47 (by decide +kernel)
set_option maxRecDepth 100000 in
theorem mx_ok48 : ∀ q ∈ mx_t48, ∀ en ∈ q.2, mx_gd 48 en := dl_gt mx_LLok5 mx_KLok5 mx_JLok5 mx_ARok mx_d48 (by decide +kernel)
set_option maxRecDepth 100000 in
theorem mx_ok49 : ∀ q ∈ mx_t49, ∀ en ∈ q.2, mx_gd 49 en := dl_gt mx_LLok5 mx_KLok5 mx_JLok5 mx_ARok mx_d49 (by decide +kernel)
set_option maxRecDepth 100000 in
theorem mx_ok50 : ∀ q ∈ mx_t50, ∀ en ∈ q.2, mx_gd 50 en := dl_gt mx_LLok5 mx_KLok5 mx_JLok5 mx_ARok mx_d50 (by decide +kernel)
set_option maxRecDepth 100000 in
theorem mx_ok51 : ∀ q ∈ mx_t51, ∀ en ∈ q.2, mx_gd 51 en := dl_gt mx_LLok5 mx_KLok5 mx_JLok5 mx_ARok mx_d51 (by decide +kernel)

