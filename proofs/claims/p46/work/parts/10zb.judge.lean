/-! ===== the methods' tables; runs; the judgement ===== -/
noncomputable def mx_tbT : List (List (List (Nat × List mx_En))) := [[mx_t0, mx_t1, mx_t2, mx_t3, mx_t4, mx_t5, mx_t6, mx_t7, mx_t8, mx_t9, mx_t10, mx_t11, mx_t12, mx_t13, mx_t14, mx_t15], [mx_t16, mx_t17, mx_t18, mx_t19, mx_t20, mx_t21, mx_t22, mx_t23, mx_t24, mx_t25, mx_t26, mx_t27, mx_t28, mx_t29, mx_t30, mx_t31], [mx_t32, mx_t33, mx_t34, mx_t35, mx_t36, mx_t37, mx_t38, mx_t39, mx_t40, mx_t41, mx_t42, mx_t43, mx_t44, mx_t45, mx_t46, mx_t47], [mx_t48, mx_t49, mx_t50, mx_t51, mx_t52, mx_t53, mx_t54, mx_t55, mx_t56, mx_t57, mx_t58, mx_t59, mx_t60, mx_t61, mx_t62, mx_t63], [mx_t64, mx_t65, mx_t66, mx_t67, mx_t68, mx_t69, mx_t70, mx_t71, mx_t72, mx_t73, mx_t74, mx_t75, mx_t76, mx_t77, mx_t78, mx_t79], [mx_t80, mx_t81, mx_t82, mx_t83, mx_t84, mx_t85, mx_t86, mx_t87, mx_t88, mx_t89, mx_t90, mx_t91, mx_t92, mx_t93, mx_t94, mx_t95], [mx_t96, mx_t97, mx_t98, mx_t99, mx_t100, mx_t101, mx_t102, mx_t103, mx_t104, mx_t105, mx_t106, mx_t107, mx_t108, mx_t109, mx_t110, mx_t111], [mx_t112, mx_t113, mx_t114, mx_t115, mx_t116, mx_t117, mx_t118, mx_t119, mx_t120, mx_t121, mx_t122, mx_t123, mx_t124, mx_t125, mx_t126, mx_t127], [mx_t128, mx_t129, mx_t130, mx_t131, mx_t132, mx_t133, mx_t134, mx_t135, mx_t136, mx_t137, mx_t138, mx_t139, mx_t140, mx_t141, mx_t142, mx_t143], [mx_t144, mx_t145, mx_t146, mx_t147, mx_t148, mx_t149, mx_t150, mx_t151, mx_t152, mx_t153, mx_t154, mx_t155, mx_t156, mx_t157, mx_t158, mx_t159], [mx_t160, mx_t161, mx_t162, mx_t163, mx_t164, mx_t165, mx_t166, mx_t167, mx_t168, mx_t169, mx_t170, mx_t171, mx_t172, mx_t173, mx_t174, mx_t175], [mx_t176, mx_t177, mx_t178, mx_t179, mx_t180, mx_t181, mx_t182, mx_t183, mx_t184, mx_t185, mx_t186, mx_t187, mx_t188, mx_t189, mx_t190, mx_t191], [mx_t192, mx_t193, mx_t194, mx_t195, mx_t196, mx_t197, mx_t198, mx_t199, mx_t200, mx_t201, mx_t202, mx_t203, mx_t204, mx_t205, mx_t206, mx_t207], [mx_t208, mx_t209, mx_t210, mx_t211, mx_t212, mx_t213, mx_t214, mx_t215, mx_t216, mx_t217, mx_t218, mx_t219, mx_t220, mx_t221, mx_t222, mx_t223], [mx_t224, mx_t225, mx_t226, mx_t227, mx_t228, mx_t229, mx_t230, mx_t231, mx_t232, mx_t233, mx_t234, mx_t235, mx_t236, mx_t237, mx_t238, mx_t239], [mx_t240, mx_t241, mx_t242, mx_t243, mx_t244, mx_t245, mx_t246, mx_t247, mx_t248, mx_t249, mx_t250, mx_t251, mx_t252, mx_t253, mx_t254, mx_t255], [mx_t256, mx_t257, mx_t258, mx_t259, mx_t260, mx_t261, mx_t262, mx_t263, mx_t264, mx_t265, mx_t266, mx_t267, mx_t268, mx_t269, mx_t270, mx_t271], [mx_t272, mx_t273, mx_t274, mx_t275, mx_t276, mx_t277, mx_t278, mx_t279, mx_t280, mx_t281, mx_t282, mx_t283, mx_t284, mx_t285, mx_t286, mx_t287], [mx_t288, mx_t289, mx_t290, mx_t291, mx_t292, mx_t293, mx_t294, mx_t295, mx_t296, mx_t297, mx_t298, mx_t299, mx_t300, mx_t301, mx_t302, mx_t303], [mx_t304, mx_t305, mx_t306, mx_t307, mx_t308, mx_t309, [], [], [], [], [], [], mx_t316, mx_t317, mx_t318]]
noncomputable def mx_tb (i : Nat) : List (Nat × List mx_En) := (mx_tbT.getD (i / 16) []).getD (i % 16) []
theorem mx_tbe0 : mx_tb 0 = mx_t0 := by simp only [mx_tb, mx_tbT, List.getD_cons_succ, List.getD_cons_zero, Nat.reduceDiv, Nat.reduceMod]
theorem mx_tbe1 : mx_tb 1 = mx_t1 := by simp only [mx_tb, mx_tbT, List.getD_cons_succ, List.getD_cons_zero, Nat.reduceDiv, Nat.reduceMod]
theorem mx_tbe2 : mx_tb 2 = mx_t2 := by simp only [mx_tb, mx_tbT, List.getD_cons_succ, List.getD_cons_zero, Nat.reduceDiv, Nat.reduceMod]
theorem mx_tbe3 : mx_tb 3 = mx_t3 := by simp only [mx_tb, mx_tbT, List.getD_cons_succ, List.getD_cons_zero, Nat.reduceDiv, Nat.reduceMod]
theorem mx_tbe4 : mx_tb 4 = mx_t4 := by simp only [mx_tb, mx_tbT, List.getD_cons_succ, List.getD_cons_zero, Nat.reduceDiv, Nat.reduceMod]
theorem mx_tbe5 : mx_tb 5 = mx_t5 := by simp only [mx_tb, mx_tbT, List.getD_cons_succ, List.getD_cons_zero, Nat.reduceDiv, Nat.reduceMod]
theorem mx_tbe6 : mx_tb 6 = mx_t6 := by simp only [mx_tb, mx_tbT, List.getD_cons_succ, List.getD_cons_zero, Nat.reduceDiv, Nat.reduceMod]
theorem mx_tbe7 : mx_tb 7 = mx_t7 := by simp only [mx_tb, mx_tbT, List.getD_cons_succ, List.getD_cons_zero, Nat.reduceDiv, Nat.reduceMod]
theorem mx_tbe8 : mx_tb 8 = mx_t8 := by simp only [mx_tb, mx_tbT, List.getD_cons_succ, List.getD_cons_zero, Nat.reduceDiv, Nat.reduceMod]
theorem mx_tbe9 : mx_tb 9 = mx_t9 := by simp only [mx_tb, mx_tbT, List.getD_cons_succ, List.getD_cons_zero, Nat.reduceDiv, Nat.reduceMod]
theorem mx_tbe10 : mx_tb 10 = mx_t10 := by simp only [mx_tb, mx_tbT, List.getD_cons_succ, List.getD_cons_zero, Nat.reduceDiv, Nat.reduceMod]
theorem mx_tbe11 : mx_tb 11 = mx_t11 := by simp only [mx_tb, mx_tbT, List.getD_cons_succ, List.getD_cons_zero, Nat.reduceDiv, Nat.reduceMod]
theorem mx_tbe12 : mx_tb 12 = mx_t12 := by simp only [mx_tb, mx_tbT, List.getD_cons_succ, List.getD_cons_zero, Nat.reduceDiv, Nat.reduceMod]
theorem mx_tbe13 : mx_tb 13 = mx_t13 := by simp only [mx_tb, mx_tbT, List.getD_cons_succ, List.getD_cons_zero, Nat.reduceDiv, Nat.reduceMod]
theorem mx_tbe14 : mx_tb 14 = mx_t14 := by simp only [mx_tb, mx_tbT, List.getD_cons_succ, List.getD_cons_zero, Nat.reduceDiv, Nat.reduceMod]
theorem mx_tbe15 : mx_tb 15 = mx_t15 := by simp only [mx_tb, mx_tbT, List.getD_cons_succ, List.getD_cons_zero, Nat.reduceDiv, Nat.reduceMod]
theorem mx_tbe16 : mx_tb 16 = mx_t16 := by simp only [mx_tb, mx_tbT, List.getD_cons_succ, List.getD_cons_zero, Nat.reduceDiv, Nat.reduceMod]
theorem mx_tbe17 : mx_tb 17 = mx_t17 := by simp only [mx_tb, mx_tbT, List.getD_cons_succ, List.getD_cons_zero, Nat.reduceDiv, Nat.reduceMod]
theorem mx_tbe18 : mx_tb 18 = mx_t18 := by simp only [mx_tb, mx_tbT, List.getD_cons_succ, List.getD_cons_zero, Nat.reduceDiv, Nat.reduceMod]
theorem mx_tbe19 : mx_tb 19 = mx_t19 := by simp only [mx_tb, mx_tbT, List.getD_cons_succ, List.getD_cons_zero, Nat.reduceDiv, Nat.reduceMod]
theorem mx_tbe20 : mx_tb 20 = mx_t20 := by simp only [mx_tb, mx_tbT, List.getD_cons_succ, List.getD_cons_zero, Nat.reduceDiv, Nat.reduceMod]
theorem mx_tbe21 : mx_tb 21 = mx_t21 := by simp only [mx_tb, mx_tbT, List.getD_cons_succ, List.getD_cons_zero, Nat.reduceDiv, Nat.reduceMod]
theorem mx_tbe22 : mx_tb 22 = mx_t22 := by simp only [mx_tb, mx_tbT, List.getD_cons_succ, List.getD_cons_zero, Nat.reduceDiv, Nat.reduceMod]
theorem mx_tbe23 : mx_tb 23 = mx_t23 := by simp only [mx_tb, mx_tbT, List.getD_cons_succ, List.getD_cons_zero, Nat.reduceDiv, Nat.reduceMod]
theorem mx_tbe24 : mx_tb 24 = mx_t24 := by simp only [mx_tb, mx_tbT, List.getD_cons_succ, List.getD_cons_zero, Nat.reduceDiv, Nat.reduceMod]
theorem mx_tbe25 : mx_tb 25 = mx_t25 := by simp only [mx_tb, mx_tbT, List.getD_cons_succ, List.getD_cons_zero, Nat.reduceDiv, Nat.reduceMod]
theorem mx_tbe26 : mx_tb 26 = mx_t26 := by simp only [mx_tb, mx_tbT, List.getD_cons_succ, List.getD_cons_zero, Nat.reduceDiv, Nat.reduceMod]
theorem mx_tbe27 : mx_tb 27 = mx_t27 := by simp only [mx_tb, mx_tbT, List.getD_cons_succ, List.getD_cons_zero, Nat.reduceDiv, Nat.reduceMod]
theorem mx_tbe28 : mx_tb 28 = mx_t28 := by simp only [mx_tb, mx_tbT, List.getD_cons_succ, List.getD_cons_zero, Nat.reduceDiv, Nat.reduceMod]
theorem mx_tbe29 : mx_tb 29 = mx_t29 := by simp only [mx_tb, mx_tbT, List.getD_cons_succ, List.getD_cons_zero, Nat.reduceDiv, Nat.reduceMod]
theorem mx_tbe30 : mx_tb 30 = mx_t30 := by simp only [mx_tb, mx_tbT, List.getD_cons_succ, List.getD_cons_zero, Nat.reduceDiv, Nat.reduceMod]
theorem mx_tbe31 : mx_tb 31 = mx_t31 := by simp only [mx_tb, mx_tbT, List.getD_cons_succ, List.getD_cons_zero, Nat.reduceDiv, Nat.reduceMod]
theorem mx_tbe32 : mx_tb 32 = mx_t32 := by simp only [mx_tb, mx_tbT, List.getD_cons_succ, List.getD_cons_zero, Nat.reduceDiv, Nat.reduceMod]
theorem mx_tbe33 : mx_tb 33 = mx_t33 := by simp only [mx_tb, mx_tbT, List.getD_cons_succ, List.getD_cons_zero, Nat.reduceDiv, Nat.reduceMod]
theorem mx_tbe34 : mx_tb 34 = mx_t34 := by simp only [mx_tb, mx_tbT, List.getD_cons_succ, List.getD_cons_zero, Nat.reduceDiv, Nat.reduceMod]
theorem mx_tbe35 : mx_tb 35 = mx_t35 := by simp only [mx_tb, mx_tbT, List.getD_cons_succ, List.getD_cons_zero, Nat.reduceDiv, Nat.reduceMod]
theorem mx_tbe36 : mx_tb 36 = mx_t36 := by simp only [mx_tb, mx_tbT, List.getD_cons_succ, List.getD_cons_zero, Nat.reduceDiv, Nat.reduceMod]
theorem mx_tbe37 : mx_tb 37 = mx_t37 := by simp only [mx_tb, mx_tbT, List.getD_cons_succ, List.getD_cons_zero, Nat.reduceDiv, Nat.reduceMod]
theorem mx_tbe38 : mx_tb 38 = mx_t38 := by simp only [mx_tb, mx_tbT, List.getD_cons_succ, List.getD_cons_zero, Nat.reduceDiv, Nat.reduceMod]
theorem mx_tbe39 : mx_tb 39 = mx_t39 := by simp only [mx_tb, mx_tbT, List.getD_cons_succ, List.getD_cons_zero, Nat.reduceDiv, Nat.reduceMod]
theorem mx_tbe40 : mx_tb 40 = mx_t40 := by simp only [mx_tb, mx_tbT, List.getD_cons_succ, List.getD_cons_zero, Nat.reduceDiv, Nat.reduceMod]
theorem mx_tbe41 : mx_tb 41 = mx_t41 := by simp only [mx_tb, mx_tbT, List.getD_cons_succ, List.getD_cons_zero, Nat.reduceDiv, Nat.reduceMod]
theorem mx_tbe42 : mx_tb 42 = mx_t42 := by simp only [mx_tb, mx_tbT, List.getD_cons_succ, List.getD_cons_zero, Nat.reduceDiv, Nat.reduceMod]
theorem mx_tbe43 : mx_tb 43 = mx_t43 := by simp only [mx_tb, mx_tbT, List.getD_cons_succ, List.getD_cons_zero, Nat.reduceDiv, Nat.reduceMod]
theorem mx_tbe44 : mx_tb 44 = mx_t44 := by simp only [mx_tb, mx_tbT, List.getD_cons_succ, List.getD_cons_zero, Nat.reduceDiv, Nat.reduceMod]
theorem mx_tbe45 : mx_tb 45 = mx_t45 := by simp only [mx_tb, mx_tbT, List.getD_cons_succ, List.getD_cons_zero, Nat.reduceDiv, Nat.reduceMod]
theorem mx_tbe46 : mx_tb 46 = mx_t46 := by simp only [mx_tb, mx_tbT, List.getD_cons_succ, List.getD_cons_zero, Nat.reduceDiv, Nat.reduceMod]
theorem mx_tbe47 : mx_tb 47 = mx_t47 := by simp only [mx_tb, mx_tbT, List.getD_cons_succ, List.getD_cons_zero, Nat.reduceDiv, Nat.reduceMod]
theorem mx_tbe48 : mx_tb 48 = mx_t48 := by simp only [mx_tb, mx_tbT, List.getD_cons_succ, List.getD_cons_zero, Nat.reduceDiv, Nat.reduceMod]
theorem mx_tbe49 : mx_tb 49 = mx_t49 := by simp only [mx_tb, mx_tbT, List.getD_cons_succ, List.getD_cons_zero, Nat.reduceDiv, Nat.reduceMod]
theorem mx_tbe50 : mx_tb 50 = mx_t50 := by simp only [mx_tb, mx_tbT, List.getD_cons_succ, List.getD_cons_zero, Nat.reduceDiv, Nat.reduceMod]
theorem mx_tbe51 : mx_tb 51 = mx_t51 := by simp only [mx_tb, mx_tbT, List.getD_cons_succ, List.getD_cons_zero, Nat.reduceDiv, Nat.reduceMod]
theorem mx_tbe52 : mx_tb 52 = mx_t52 := by simp only [mx_tb, mx_tbT, List.getD_cons_succ, List.getD_cons_zero, Nat.reduceDiv, Nat.reduceMod]
theorem mx_tbe53 : mx_tb 53 = mx_t53 := by simp only [mx_tb, mx_tbT, List.getD_cons_succ, List.getD_cons_zero, Nat.reduceDiv, Nat.reduceMod]
theorem mx_tbe54 : mx_tb 54 = mx_t54 := by simp only [mx_tb, mx_tbT, List.getD_cons_succ, List.getD_cons_zero, Nat.reduceDiv, Nat.reduceMod]
theorem mx_tbe55 : mx_tb 55 = mx_t55 := by simp only [mx_tb, mx_tbT, List.getD_cons_succ, List.getD_cons_zero, Nat.reduceDiv, Nat.reduceMod]
theorem mx_tbe56 : mx_tb 56 = mx_t56 := by simp only [mx_tb, mx_tbT, List.getD_cons_succ, List.getD_cons_zero, Nat.reduceDiv, Nat.reduceMod]
theorem mx_tbe57 : mx_tb 57 = mx_t57 := by simp only [mx_tb, mx_tbT, List.getD_cons_succ, List.getD_cons_zero, Nat.reduceDiv, Nat.reduceMod]
theorem mx_tbe58 : mx_tb 58 = mx_t58 := by simp only [mx_tb, mx_tbT, List.getD_cons_succ, List.getD_cons_zero, Nat.reduceDiv, Nat.reduceMod]
theorem mx_tbe59 : mx_tb 59 = mx_t59 := by simp only [mx_tb, mx_tbT, List.getD_cons_succ, List.getD_cons_zero, Nat.reduceDiv, Nat.reduceMod]
theorem mx_tbe60 : mx_tb 60 = mx_t60 := by simp only [mx_tb, mx_tbT, List.getD_cons_succ, List.getD_cons_zero, Nat.reduceDiv, Nat.reduceMod]
theorem mx_tbe61 : mx_tb 61 = mx_t61 := by simp only [mx_tb, mx_tbT, List.getD_cons_succ, List.getD_cons_zero, Nat.reduceDiv, Nat.reduceMod]
theorem mx_tbe62 : mx_tb 62 = mx_t62 := by simp only [mx_tb, mx_tbT, List.getD_cons_succ, List.getD_cons_zero, Nat.reduceDiv, Nat.reduceMod]
theorem mx_tbe63 : mx_tb 63 = mx_t63 := by simp only [mx_tb, mx_tbT, List.getD_cons_succ, List.getD_cons_zero, Nat.reduceDiv, Nat.reduceMod]
theorem mx_tbe64 : mx_tb 64 = mx_t64 := by simp only [mx_tb, mx_tbT, List.getD_cons_succ, List.getD_cons_zero, Nat.reduceDiv, Nat.reduceMod]
theorem mx_tbe65 : mx_tb 65 = mx_t65 := by simp only [mx_tb, mx_tbT, List.getD_cons_succ, List.getD_cons_zero, Nat.reduceDiv, Nat.reduceMod]
theorem mx_tbe66 : mx_tb 66 = mx_t66 := by simp only [mx_tb, mx_tbT, List.getD_cons_succ, List.getD_cons_zero, Nat.reduceDiv, Nat.reduceMod]
theorem mx_tbe67 : mx_tb 67 = mx_t67 := by simp only [mx_tb, mx_tbT, List.getD_cons_succ, List.getD_cons_zero, Nat.reduceDiv, Nat.reduceMod]
theorem mx_tbe68 : mx_tb 68 = mx_t68 := by simp only [mx_tb, mx_tbT, List.getD_cons_succ, List.getD_cons_zero, Nat.reduceDiv, Nat.reduceMod]
theorem mx_tbe69 : mx_tb 69 = mx_t69 := by simp only [mx_tb, mx_tbT, List.getD_cons_succ, List.getD_cons_zero, Nat.reduceDiv, Nat.reduceMod]
theorem mx_tbe70 : mx_tb 70 = mx_t70 := by simp only [mx_tb, mx_tbT, List.getD_cons_succ, List.getD_cons_zero, Nat.reduceDiv, Nat.reduceMod]
theorem mx_tbe71 : mx_tb 71 = mx_t71 := by simp only [mx_tb, mx_tbT, List.getD_cons_succ, List.getD_cons_zero, Nat.reduceDiv, Nat.reduceMod]
theorem mx_tbe72 : mx_tb 72 = mx_t72 := by simp only [mx_tb, mx_tbT, List.getD_cons_succ, List.getD_cons_zero, Nat.reduceDiv, Nat.reduceMod]
theorem mx_tbe73 : mx_tb 73 = mx_t73 := by simp only [mx_tb, mx_tbT, List.getD_cons_succ, List.getD_cons_zero, Nat.reduceDiv, Nat.reduceMod]
theorem mx_tbe74 : mx_tb 74 = mx_t74 := by simp only [mx_tb, mx_tbT, List.getD_cons_succ, List.getD_cons_zero, Nat.reduceDiv, Nat.reduceMod]
theorem mx_tbe75 : mx_tb 75 = mx_t75 := by simp only [mx_tb, mx_tbT, List.getD_cons_succ, List.getD_cons_zero, Nat.reduceDiv, Nat.reduceMod]
theorem mx_tbe76 : mx_tb 76 = mx_t76 := by simp only [mx_tb, mx_tbT, List.getD_cons_succ, List.getD_cons_zero, Nat.reduceDiv, Nat.reduceMod]
theorem mx_tbe77 : mx_tb 77 = mx_t77 := by simp only [mx_tb, mx_tbT, List.getD_cons_succ, List.getD_cons_zero, Nat.reduceDiv, Nat.reduceMod]
theorem mx_tbe78 : mx_tb 78 = mx_t78 := by simp only [mx_tb, mx_tbT, List.getD_cons_succ, List.getD_cons_zero, Nat.reduceDiv, Nat.reduceMod]
theorem mx_tbe79 : mx_tb 79 = mx_t79 := by simp only [mx_tb, mx_tbT, List.getD_cons_succ, List.getD_cons_zero, Nat.reduceDiv, Nat.reduceMod]
theorem mx_tbe80 : mx_tb 80 = mx_t80 := by simp only [mx_tb, mx_tbT, List.getD_cons_succ, List.getD_cons_zero, Nat.reduceDiv, Nat.reduceMod]
theorem mx_tbe81 : mx_tb 81 = mx_t81 := by simp only [mx_tb, mx_tbT, List.getD_cons_succ, List.getD_cons_zero, Nat.reduceDiv, Nat.reduceMod]
theorem mx_tbe82 : mx_tb 82 = mx_t82 := by simp only [mx_tb, mx_tbT, List.getD_cons_succ, List.getD_cons_zero, Nat.reduceDiv, Nat.reduceMod]
theorem mx_tbe83 : mx_tb 83 = mx_t83 := by simp only [mx_tb, mx_tbT, List.getD_cons_succ, List.getD_cons_zero, Nat.reduceDiv, Nat.reduceMod]
theorem mx_tbe84 : mx_tb 84 = mx_t84 := by simp only [mx_tb, mx_tbT, List.getD_cons_succ, List.getD_cons_zero, Nat.reduceDiv, Nat.reduceMod]
theorem mx_tbe85 : mx_tb 85 = mx_t85 := by simp only [mx_tb, mx_tbT, List.getD_cons_succ, List.getD_cons_zero, Nat.reduceDiv, Nat.reduceMod]
theorem mx_tbe86 : mx_tb 86 = mx_t86 := by simp only [mx_tb, mx_tbT, List.getD_cons_succ, List.getD_cons_zero, Nat.reduceDiv, Nat.reduceMod]
theorem mx_tbe87 : mx_tb 87 = mx_t87 := by simp only [mx_tb, mx_tbT, List.getD_cons_succ, List.getD_cons_zero, Nat.reduceDiv, Nat.reduceMod]
theorem mx_tbe88 : mx_tb 88 = mx_t88 := by simp only [mx_tb, mx_tbT, List.getD_cons_succ, List.getD_cons_zero, Nat.reduceDiv, Nat.reduceMod]
theorem mx_tbe89 : mx_tb 89 = mx_t89 := by simp only [mx_tb, mx_tbT, List.getD_cons_succ, List.getD_cons_zero, Nat.reduceDiv, Nat.reduceMod]
theorem mx_tbe90 : mx_tb 90 = mx_t90 := by simp only [mx_tb, mx_tbT, List.getD_cons_succ, List.getD_cons_zero, Nat.reduceDiv, Nat.reduceMod]
theorem mx_tbe91 : mx_tb 91 = mx_t91 := by simp only [mx_tb, mx_tbT, List.getD_cons_succ, List.getD_cons_zero, Nat.reduceDiv, Nat.reduceMod]
theorem mx_tbe92 : mx_tb 92 = mx_t92 := by simp only [mx_tb, mx_tbT, List.getD_cons_succ, List.getD_cons_zero, Nat.reduceDiv, Nat.reduceMod]
theorem mx_tbe93 : mx_tb 93 = mx_t93 := by simp only [mx_tb, mx_tbT, List.getD_cons_succ, List.getD_cons_zero, Nat.reduceDiv, Nat.reduceMod]
theorem mx_tbe94 : mx_tb 94 = mx_t94 := by simp only [mx_tb, mx_tbT, List.getD_cons_succ, List.getD_cons_zero, Nat.reduceDiv, Nat.reduceMod]
theorem mx_tbe95 : mx_tb 95 = mx_t95 := by simp only [mx_tb, mx_tbT, List.getD_cons_succ, List.getD_cons_zero, Nat.reduceDiv, Nat.reduceMod]
theorem mx_tbe96 : mx_tb 96 = mx_t96 := by simp only [mx_tb, mx_tbT, List.getD_cons_succ, List.getD_cons_zero, Nat.reduceDiv, Nat.reduceMod]
theorem mx_tbe97 : mx_tb 97 = mx_t97 := by simp only [mx_tb, mx_tbT, List.getD_cons_succ, List.getD_cons_zero, Nat.reduceDiv, Nat.reduceMod]
theorem mx_tbe98 : mx_tb 98 = mx_t98 := by simp only [mx_tb, mx_tbT, List.getD_cons_succ, List.getD_cons_zero, Nat.reduceDiv, Nat.reduceMod]
theorem mx_tbe99 : mx_tb 99 = mx_t99 := by simp only [mx_tb, mx_tbT, List.getD_cons_succ, List.getD_cons_zero, Nat.reduceDiv, Nat.reduceMod]
theorem mx_tbe100 : mx_tb 100 = mx_t100 := by simp only [mx_tb, mx_tbT, List.getD_cons_succ, List.getD_cons_zero, Nat.reduceDiv, Nat.reduceMod]
theorem mx_tbe101 : mx_tb 101 = mx_t101 := by simp only [mx_tb, mx_tbT, List.getD_cons_succ, List.getD_cons_zero, Nat.reduceDiv, Nat.reduceMod]
theorem mx_tbe102 : mx_tb 102 = mx_t102 := by simp only [mx_tb, mx_tbT, List.getD_cons_succ, List.getD_cons_zero, Nat.reduceDiv, Nat.reduceMod]
theorem mx_tbe103 : mx_tb 103 = mx_t103 := by simp only [mx_tb, mx_tbT, List.getD_cons_succ, List.getD_cons_zero, Nat.reduceDiv, Nat.reduceMod]
theorem mx_tbe104 : mx_tb 104 = mx_t104 := by simp only [mx_tb, mx_tbT, List.getD_cons_succ, List.getD_cons_zero, Nat.reduceDiv, Nat.reduceMod]
theorem mx_tbe105 : mx_tb 105 = mx_t105 := by simp only [mx_tb, mx_tbT, List.getD_cons_succ, List.getD_cons_zero, Nat.reduceDiv, Nat.reduceMod]
theorem mx_tbe106 : mx_tb 106 = mx_t106 := by simp only [mx_tb, mx_tbT, List.getD_cons_succ, List.getD_cons_zero, Nat.reduceDiv, Nat.reduceMod]
theorem mx_tbe107 : mx_tb 107 = mx_t107 := by simp only [mx_tb, mx_tbT, List.getD_cons_succ, List.getD_cons_zero, Nat.reduceDiv, Nat.reduceMod]
theorem mx_tbe108 : mx_tb 108 = mx_t108 := by simp only [mx_tb, mx_tbT, List.getD_cons_succ, List.getD_cons_zero, Nat.reduceDiv, Nat.reduceMod]
theorem mx_tbe109 : mx_tb 109 = mx_t109 := by simp only [mx_tb, mx_tbT, List.getD_cons_succ, List.getD_cons_zero, Nat.reduceDiv, Nat.reduceMod]
theorem mx_tbe110 : mx_tb 110 = mx_t110 := by simp only [mx_tb, mx_tbT, List.getD_cons_succ, List.getD_cons_zero, Nat.reduceDiv, Nat.reduceMod]
theorem mx_tbe111 : mx_tb 111 = mx_t111 := by simp only [mx_tb, mx_tbT, List.getD_cons_succ, List.getD_cons_zero, Nat.reduceDiv, Nat.reduceMod]
theorem mx_tbe112 : mx_tb 112 = mx_t112 := by simp only [mx_tb, mx_tbT, List.getD_cons_succ, List.getD_cons_zero, Nat.reduceDiv, Nat.reduceMod]
theorem mx_tbe113 : mx_tb 113 = mx_t113 := by simp only [mx_tb, mx_tbT, List.getD_cons_succ, List.getD_cons_zero, Nat.reduceDiv, Nat.reduceMod]
theorem mx_tbe114 : mx_tb 114 = mx_t114 := by simp only [mx_tb, mx_tbT, List.getD_cons_succ, List.getD_cons_zero, Nat.reduceDiv, Nat.reduceMod]
theorem mx_tbe115 : mx_tb 115 = mx_t115 := by simp only [mx_tb, mx_tbT, List.getD_cons_succ, List.getD_cons_zero, Nat.reduceDiv, Nat.reduceMod]
theorem mx_tbe116 : mx_tb 116 = mx_t116 := by simp only [mx_tb, mx_tbT, List.getD_cons_succ, List.getD_cons_zero, Nat.reduceDiv, Nat.reduceMod]
theorem mx_tbe117 : mx_tb 117 = mx_t117 := by simp only [mx_tb, mx_tbT, List.getD_cons_succ, List.getD_cons_zero, Nat.reduceDiv, Nat.reduceMod]
theorem mx_tbe118 : mx_tb 118 = mx_t118 := by simp only [mx_tb, mx_tbT, List.getD_cons_succ, List.getD_cons_zero, Nat.reduceDiv, Nat.reduceMod]
theorem mx_tbe119 : mx_tb 119 = mx_t119 := by simp only [mx_tb, mx_tbT, List.getD_cons_succ, List.getD_cons_zero, Nat.reduceDiv, Nat.reduceMod]
theorem mx_tbe120 : mx_tb 120 = mx_t120 := by simp only [mx_tb, mx_tbT, List.getD_cons_succ, List.getD_cons_zero, Nat.reduceDiv, Nat.reduceMod]
theorem mx_tbe121 : mx_tb 121 = mx_t121 := by simp only [mx_tb, mx_tbT, List.getD_cons_succ, List.getD_cons_zero, Nat.reduceDiv, Nat.reduceMod]
theorem mx_tbe122 : mx_tb 122 = mx_t122 := by simp only [mx_tb, mx_tbT, List.getD_cons_succ, List.getD_cons_zero, Nat.reduceDiv, Nat.reduceMod]
theorem mx_tbe123 : mx_tb 123 = mx_t123 := by simp only [mx_tb, mx_tbT, List.getD_cons_succ, List.getD_cons_zero, Nat.reduceDiv, Nat.reduceMod]
theorem mx_tbe124 : mx_tb 124 = mx_t124 := by simp only [mx_tb, mx_tbT, List.getD_cons_succ, List.getD_cons_zero, Nat.reduceDiv, Nat.reduceMod]
theorem mx_tbe125 : mx_tb 125 = mx_t125 := by simp only [mx_tb, mx_tbT, List.getD_cons_succ, List.getD_cons_zero, Nat.reduceDiv, Nat.reduceMod]
theorem mx_tbe126 : mx_tb 126 = mx_t126 := by simp only [mx_tb, mx_tbT, List.getD_cons_succ, List.getD_cons_zero, Nat.reduceDiv, Nat.reduceMod]
theorem mx_tbe127 : mx_tb 127 = mx_t127 := by simp only [mx_tb, mx_tbT, List.getD_cons_succ, List.getD_cons_zero, Nat.reduceDiv, Nat.reduceMod]
theorem mx_tbe128 : mx_tb 128 = mx_t128 := by simp only [mx_tb, mx_tbT, List.getD_cons_succ, List.getD_cons_zero, Nat.reduceDiv, Nat.reduceMod]
theorem mx_tbe129 : mx_tb 129 = mx_t129 := by simp only [mx_tb, mx_tbT, List.getD_cons_succ, List.getD_cons_zero, Nat.reduceDiv, Nat.reduceMod]
theorem mx_tbe130 : mx_tb 130 = mx_t130 := by simp only [mx_tb, mx_tbT, List.getD_cons_succ, List.getD_cons_zero, Nat.reduceDiv, Nat.reduceMod]
theorem mx_tbe131 : mx_tb 131 = mx_t131 := by simp only [mx_tb, mx_tbT, List.getD_cons_succ, List.getD_cons_zero, Nat.reduceDiv, Nat.reduceMod]
theorem mx_tbe132 : mx_tb 132 = mx_t132 := by simp only [mx_tb, mx_tbT, List.getD_cons_succ, List.getD_cons_zero, Nat.reduceDiv, Nat.reduceMod]
theorem mx_tbe133 : mx_tb 133 = mx_t133 := by simp only [mx_tb, mx_tbT, List.getD_cons_succ, List.getD_cons_zero, Nat.reduceDiv, Nat.reduceMod]
theorem mx_tbe134 : mx_tb 134 = mx_t134 := by simp only [mx_tb, mx_tbT, List.getD_cons_succ, List.getD_cons_zero, Nat.reduceDiv, Nat.reduceMod]
theorem mx_tbe135 : mx_tb 135 = mx_t135 := by simp only [mx_tb, mx_tbT, List.getD_cons_succ, List.getD_cons_zero, Nat.reduceDiv, Nat.reduceMod]
theorem mx_tbe136 : mx_tb 136 = mx_t136 := by simp only [mx_tb, mx_tbT, List.getD_cons_succ, List.getD_cons_zero, Nat.reduceDiv, Nat.reduceMod]
theorem mx_tbe137 : mx_tb 137 = mx_t137 := by simp only [mx_tb, mx_tbT, List.getD_cons_succ, List.getD_cons_zero, Nat.reduceDiv, Nat.reduceMod]
theorem mx_tbe138 : mx_tb 138 = mx_t138 := by simp only [mx_tb, mx_tbT, List.getD_cons_succ, List.getD_cons_zero, Nat.reduceDiv, Nat.reduceMod]
theorem mx_tbe139 : mx_tb 139 = mx_t139 := by simp only [mx_tb, mx_tbT, List.getD_cons_succ, List.getD_cons_zero, Nat.reduceDiv, Nat.reduceMod]
theorem mx_tbe140 : mx_tb 140 = mx_t140 := by simp only [mx_tb, mx_tbT, List.getD_cons_succ, List.getD_cons_zero, Nat.reduceDiv, Nat.reduceMod]
theorem mx_tbe141 : mx_tb 141 = mx_t141 := by simp only [mx_tb, mx_tbT, List.getD_cons_succ, List.getD_cons_zero, Nat.reduceDiv, Nat.reduceMod]
theorem mx_tbe142 : mx_tb 142 = mx_t142 := by simp only [mx_tb, mx_tbT, List.getD_cons_succ, List.getD_cons_zero, Nat.reduceDiv, Nat.reduceMod]
theorem mx_tbe143 : mx_tb 143 = mx_t143 := by simp only [mx_tb, mx_tbT, List.getD_cons_succ, List.getD_cons_zero, Nat.reduceDiv, Nat.reduceMod]
theorem mx_tbe144 : mx_tb 144 = mx_t144 := by simp only [mx_tb, mx_tbT, List.getD_cons_succ, List.getD_cons_zero, Nat.reduceDiv, Nat.reduceMod]
theorem mx_tbe145 : mx_tb 145 = mx_t145 := by simp only [mx_tb, mx_tbT, List.getD_cons_succ, List.getD_cons_zero, Nat.reduceDiv, Nat.reduceMod]
theorem mx_tbe146 : mx_tb 146 = mx_t146 := by simp only [mx_tb, mx_tbT, List.getD_cons_succ, List.getD_cons_zero, Nat.reduceDiv, Nat.reduceMod]
theorem mx_tbe147 : mx_tb 147 = mx_t147 := by simp only [mx_tb, mx_tbT, List.getD_cons_succ, List.getD_cons_zero, Nat.reduceDiv, Nat.reduceMod]
theorem mx_tbe148 : mx_tb 148 = mx_t148 := by simp only [mx_tb, mx_tbT, List.getD_cons_succ, List.getD_cons_zero, Nat.reduceDiv, Nat.reduceMod]
theorem mx_tbe149 : mx_tb 149 = mx_t149 := by simp only [mx_tb, mx_tbT, List.getD_cons_succ, List.getD_cons_zero, Nat.reduceDiv, Nat.reduceMod]
theorem mx_tbe150 : mx_tb 150 = mx_t150 := by simp only [mx_tb, mx_tbT, List.getD_cons_succ, List.getD_cons_zero, Nat.reduceDiv, Nat.reduceMod]
theorem mx_tbe151 : mx_tb 151 = mx_t151 := by simp only [mx_tb, mx_tbT, List.getD_cons_succ, List.getD_cons_zero, Nat.reduceDiv, Nat.reduceMod]
theorem mx_tbe152 : mx_tb 152 = mx_t152 := by simp only [mx_tb, mx_tbT, List.getD_cons_succ, List.getD_cons_zero, Nat.reduceDiv, Nat.reduceMod]
theorem mx_tbe153 : mx_tb 153 = mx_t153 := by simp only [mx_tb, mx_tbT, List.getD_cons_succ, List.getD_cons_zero, Nat.reduceDiv, Nat.reduceMod]
theorem mx_tbe154 : mx_tb 154 = mx_t154 := by simp only [mx_tb, mx_tbT, List.getD_cons_succ, List.getD_cons_zero, Nat.reduceDiv, Nat.reduceMod]
theorem mx_tbe155 : mx_tb 155 = mx_t155 := by simp only [mx_tb, mx_tbT, List.getD_cons_succ, List.getD_cons_zero, Nat.reduceDiv, Nat.reduceMod]
theorem mx_tbe156 : mx_tb 156 = mx_t156 := by simp only [mx_tb, mx_tbT, List.getD_cons_succ, List.getD_cons_zero, Nat.reduceDiv, Nat.reduceMod]
theorem mx_tbe157 : mx_tb 157 = mx_t157 := by simp only [mx_tb, mx_tbT, List.getD_cons_succ, List.getD_cons_zero, Nat.reduceDiv, Nat.reduceMod]
theorem mx_tbe158 : mx_tb 158 = mx_t158 := by simp only [mx_tb, mx_tbT, List.getD_cons_succ, List.getD_cons_zero, Nat.reduceDiv, Nat.reduceMod]
theorem mx_tbe159 : mx_tb 159 = mx_t159 := by simp only [mx_tb, mx_tbT, List.getD_cons_succ, List.getD_cons_zero, Nat.reduceDiv, Nat.reduceMod]
theorem mx_tbe160 : mx_tb 160 = mx_t160 := by simp only [mx_tb, mx_tbT, List.getD_cons_succ, List.getD_cons_zero, Nat.reduceDiv, Nat.reduceMod]
theorem mx_tbe161 : mx_tb 161 = mx_t161 := by simp only [mx_tb, mx_tbT, List.getD_cons_succ, List.getD_cons_zero, Nat.reduceDiv, Nat.reduceMod]
theorem mx_tbe162 : mx_tb 162 = mx_t162 := by simp only [mx_tb, mx_tbT, List.getD_cons_succ, List.getD_cons_zero, Nat.reduceDiv, Nat.reduceMod]
theorem mx_tbe163 : mx_tb 163 = mx_t163 := by simp only [mx_tb, mx_tbT, List.getD_cons_succ, List.getD_cons_zero, Nat.reduceDiv, Nat.reduceMod]
theorem mx_tbe164 : mx_tb 164 = mx_t164 := by simp only [mx_tb, mx_tbT, List.getD_cons_succ, List.getD_cons_zero, Nat.reduceDiv, Nat.reduceMod]
theorem mx_tbe165 : mx_tb 165 = mx_t165 := by simp only [mx_tb, mx_tbT, List.getD_cons_succ, List.getD_cons_zero, Nat.reduceDiv, Nat.reduceMod]
theorem mx_tbe166 : mx_tb 166 = mx_t166 := by simp only [mx_tb, mx_tbT, List.getD_cons_succ, List.getD_cons_zero, Nat.reduceDiv, Nat.reduceMod]
theorem mx_tbe167 : mx_tb 167 = mx_t167 := by simp only [mx_tb, mx_tbT, List.getD_cons_succ, List.getD_cons_zero, Nat.reduceDiv, Nat.reduceMod]
theorem mx_tbe168 : mx_tb 168 = mx_t168 := by simp only [mx_tb, mx_tbT, List.getD_cons_succ, List.getD_cons_zero, Nat.reduceDiv, Nat.reduceMod]
theorem mx_tbe169 : mx_tb 169 = mx_t169 := by simp only [mx_tb, mx_tbT, List.getD_cons_succ, List.getD_cons_zero, Nat.reduceDiv, Nat.reduceMod]
theorem mx_tbe170 : mx_tb 170 = mx_t170 := by simp only [mx_tb, mx_tbT, List.getD_cons_succ, List.getD_cons_zero, Nat.reduceDiv, Nat.reduceMod]
theorem mx_tbe171 : mx_tb 171 = mx_t171 := by simp only [mx_tb, mx_tbT, List.getD_cons_succ, List.getD_cons_zero, Nat.reduceDiv, Nat.reduceMod]
theorem mx_tbe172 : mx_tb 172 = mx_t172 := by simp only [mx_tb, mx_tbT, List.getD_cons_succ, List.getD_cons_zero, Nat.reduceDiv, Nat.reduceMod]
theorem mx_tbe173 : mx_tb 173 = mx_t173 := by simp only [mx_tb, mx_tbT, List.getD_cons_succ, List.getD_cons_zero, Nat.reduceDiv, Nat.reduceMod]
theorem mx_tbe174 : mx_tb 174 = mx_t174 := by simp only [mx_tb, mx_tbT, List.getD_cons_succ, List.getD_cons_zero, Nat.reduceDiv, Nat.reduceMod]
theorem mx_tbe175 : mx_tb 175 = mx_t175 := by simp only [mx_tb, mx_tbT, List.getD_cons_succ, List.getD_cons_zero, Nat.reduceDiv, Nat.reduceMod]
theorem mx_tbe176 : mx_tb 176 = mx_t176 := by simp only [mx_tb, mx_tbT, List.getD_cons_succ, List.getD_cons_zero, Nat.reduceDiv, Nat.reduceMod]
theorem mx_tbe177 : mx_tb 177 = mx_t177 := by simp only [mx_tb, mx_tbT, List.getD_cons_succ, List.getD_cons_zero, Nat.reduceDiv, Nat.reduceMod]
theorem mx_tbe178 : mx_tb 178 = mx_t178 := by simp only [mx_tb, mx_tbT, List.getD_cons_succ, List.getD_cons_zero, Nat.reduceDiv, Nat.reduceMod]
theorem mx_tbe179 : mx_tb 179 = mx_t179 := by simp only [mx_tb, mx_tbT, List.getD_cons_succ, List.getD_cons_zero, Nat.reduceDiv, Nat.reduceMod]
theorem mx_tbe180 : mx_tb 180 = mx_t180 := by simp only [mx_tb, mx_tbT, List.getD_cons_succ, List.getD_cons_zero, Nat.reduceDiv, Nat.reduceMod]
theorem mx_tbe181 : mx_tb 181 = mx_t181 := by simp only [mx_tb, mx_tbT, List.getD_cons_succ, List.getD_cons_zero, Nat.reduceDiv, Nat.reduceMod]
theorem mx_tbe182 : mx_tb 182 = mx_t182 := by simp only [mx_tb, mx_tbT, List.getD_cons_succ, List.getD_cons_zero, Nat.reduceDiv, Nat.reduceMod]
theorem mx_tbe183 : mx_tb 183 = mx_t183 := by simp only [mx_tb, mx_tbT, List.getD_cons_succ, List.getD_cons_zero, Nat.reduceDiv, Nat.reduceMod]
theorem mx_tbe184 : mx_tb 184 = mx_t184 := by simp only [mx_tb, mx_tbT, List.getD_cons_succ, List.getD_cons_zero, Nat.reduceDiv, Nat.reduceMod]
theorem mx_tbe185 : mx_tb 185 = mx_t185 := by simp only [mx_tb, mx_tbT, List.getD_cons_succ, List.getD_cons_zero, Nat.reduceDiv, Nat.reduceMod]
theorem mx_tbe186 : mx_tb 186 = mx_t186 := by simp only [mx_tb, mx_tbT, List.getD_cons_succ, List.getD_cons_zero, Nat.reduceDiv, Nat.reduceMod]
theorem mx_tbe187 : mx_tb 187 = mx_t187 := by simp only [mx_tb, mx_tbT, List.getD_cons_succ, List.getD_cons_zero, Nat.reduceDiv, Nat.reduceMod]
theorem mx_tbe188 : mx_tb 188 = mx_t188 := by simp only [mx_tb, mx_tbT, List.getD_cons_succ, List.getD_cons_zero, Nat.reduceDiv, Nat.reduceMod]
theorem mx_tbe189 : mx_tb 189 = mx_t189 := by simp only [mx_tb, mx_tbT, List.getD_cons_succ, List.getD_cons_zero, Nat.reduceDiv, Nat.reduceMod]
theorem mx_tbe190 : mx_tb 190 = mx_t190 := by simp only [mx_tb, mx_tbT, List.getD_cons_succ, List.getD_cons_zero, Nat.reduceDiv, Nat.reduceMod]
theorem mx_tbe191 : mx_tb 191 = mx_t191 := by simp only [mx_tb, mx_tbT, List.getD_cons_succ, List.getD_cons_zero, Nat.reduceDiv, Nat.reduceMod]
theorem mx_tbe192 : mx_tb 192 = mx_t192 := by simp only [mx_tb, mx_tbT, List.getD_cons_succ, List.getD_cons_zero, Nat.reduceDiv, Nat.reduceMod]
theorem mx_tbe193 : mx_tb 193 = mx_t193 := by simp only [mx_tb, mx_tbT, List.getD_cons_succ, List.getD_cons_zero, Nat.reduceDiv, Nat.reduceMod]
theorem mx_tbe194 : mx_tb 194 = mx_t194 := by simp only [mx_tb, mx_tbT, List.getD_cons_succ, List.getD_cons_zero, Nat.reduceDiv, Nat.reduceMod]
theorem mx_tbe195 : mx_tb 195 = mx_t195 := by simp only [mx_tb, mx_tbT, List.getD_cons_succ, List.getD_cons_zero, Nat.reduceDiv, Nat.reduceMod]
theorem mx_tbe196 : mx_tb 196 = mx_t196 := by simp only [mx_tb, mx_tbT, List.getD_cons_succ, List.getD_cons_zero, Nat.reduceDiv, Nat.reduceMod]
theorem mx_tbe197 : mx_tb 197 = mx_t197 := by simp only [mx_tb, mx_tbT, List.getD_cons_succ, List.getD_cons_zero, Nat.reduceDiv, Nat.reduceMod]
theorem mx_tbe198 : mx_tb 198 = mx_t198 := by simp only [mx_tb, mx_tbT, List.getD_cons_succ, List.getD_cons_zero, Nat.reduceDiv, Nat.reduceMod]
theorem mx_tbe199 : mx_tb 199 = mx_t199 := by simp only [mx_tb, mx_tbT, List.getD_cons_succ, List.getD_cons_zero, Nat.reduceDiv, Nat.reduceMod]
theorem mx_tbe200 : mx_tb 200 = mx_t200 := by simp only [mx_tb, mx_tbT, List.getD_cons_succ, List.getD_cons_zero, Nat.reduceDiv, Nat.reduceMod]
theorem mx_tbe201 : mx_tb 201 = mx_t201 := by simp only [mx_tb, mx_tbT, List.getD_cons_succ, List.getD_cons_zero, Nat.reduceDiv, Nat.reduceMod]
theorem mx_tbe202 : mx_tb 202 = mx_t202 := by simp only [mx_tb, mx_tbT, List.getD_cons_succ, List.getD_cons_zero, Nat.reduceDiv, Nat.reduceMod]
theorem mx_tbe203 : mx_tb 203 = mx_t203 := by simp only [mx_tb, mx_tbT, List.getD_cons_succ, List.getD_cons_zero, Nat.reduceDiv, Nat.reduceMod]
theorem mx_tbe204 : mx_tb 204 = mx_t204 := by simp only [mx_tb, mx_tbT, List.getD_cons_succ, List.getD_cons_zero, Nat.reduceDiv, Nat.reduceMod]
theorem mx_tbe205 : mx_tb 205 = mx_t205 := by simp only [mx_tb, mx_tbT, List.getD_cons_succ, List.getD_cons_zero, Nat.reduceDiv, Nat.reduceMod]
theorem mx_tbe206 : mx_tb 206 = mx_t206 := by simp only [mx_tb, mx_tbT, List.getD_cons_succ, List.getD_cons_zero, Nat.reduceDiv, Nat.reduceMod]
theorem mx_tbe207 : mx_tb 207 = mx_t207 := by simp only [mx_tb, mx_tbT, List.getD_cons_succ, List.getD_cons_zero, Nat.reduceDiv, Nat.reduceMod]
theorem mx_tbe208 : mx_tb 208 = mx_t208 := by simp only [mx_tb, mx_tbT, List.getD_cons_succ, List.getD_cons_zero, Nat.reduceDiv, Nat.reduceMod]
theorem mx_tbe209 : mx_tb 209 = mx_t209 := by simp only [mx_tb, mx_tbT, List.getD_cons_succ, List.getD_cons_zero, Nat.reduceDiv, Nat.reduceMod]
theorem mx_tbe210 : mx_tb 210 = mx_t210 := by simp only [mx_tb, mx_tbT, List.getD_cons_succ, List.getD_cons_zero, Nat.reduceDiv, Nat.reduceMod]
theorem mx_tbe211 : mx_tb 211 = mx_t211 := by simp only [mx_tb, mx_tbT, List.getD_cons_succ, List.getD_cons_zero, Nat.reduceDiv, Nat.reduceMod]
theorem mx_tbe212 : mx_tb 212 = mx_t212 := by simp only [mx_tb, mx_tbT, List.getD_cons_succ, List.getD_cons_zero, Nat.reduceDiv, Nat.reduceMod]
theorem mx_tbe213 : mx_tb 213 = mx_t213 := by simp only [mx_tb, mx_tbT, List.getD_cons_succ, List.getD_cons_zero, Nat.reduceDiv, Nat.reduceMod]
theorem mx_tbe214 : mx_tb 214 = mx_t214 := by simp only [mx_tb, mx_tbT, List.getD_cons_succ, List.getD_cons_zero, Nat.reduceDiv, Nat.reduceMod]
theorem mx_tbe215 : mx_tb 215 = mx_t215 := by simp only [mx_tb, mx_tbT, List.getD_cons_succ, List.getD_cons_zero, Nat.reduceDiv, Nat.reduceMod]
theorem mx_tbe216 : mx_tb 216 = mx_t216 := by simp only [mx_tb, mx_tbT, List.getD_cons_succ, List.getD_cons_zero, Nat.reduceDiv, Nat.reduceMod]
theorem mx_tbe217 : mx_tb 217 = mx_t217 := by simp only [mx_tb, mx_tbT, List.getD_cons_succ, List.getD_cons_zero, Nat.reduceDiv, Nat.reduceMod]
theorem mx_tbe218 : mx_tb 218 = mx_t218 := by simp only [mx_tb, mx_tbT, List.getD_cons_succ, List.getD_cons_zero, Nat.reduceDiv, Nat.reduceMod]
theorem mx_tbe219 : mx_tb 219 = mx_t219 := by simp only [mx_tb, mx_tbT, List.getD_cons_succ, List.getD_cons_zero, Nat.reduceDiv, Nat.reduceMod]
theorem mx_tbe220 : mx_tb 220 = mx_t220 := by simp only [mx_tb, mx_tbT, List.getD_cons_succ, List.getD_cons_zero, Nat.reduceDiv, Nat.reduceMod]
theorem mx_tbe221 : mx_tb 221 = mx_t221 := by simp only [mx_tb, mx_tbT, List.getD_cons_succ, List.getD_cons_zero, Nat.reduceDiv, Nat.reduceMod]
theorem mx_tbe222 : mx_tb 222 = mx_t222 := by simp only [mx_tb, mx_tbT, List.getD_cons_succ, List.getD_cons_zero, Nat.reduceDiv, Nat.reduceMod]
theorem mx_tbe223 : mx_tb 223 = mx_t223 := by simp only [mx_tb, mx_tbT, List.getD_cons_succ, List.getD_cons_zero, Nat.reduceDiv, Nat.reduceMod]
theorem mx_tbe224 : mx_tb 224 = mx_t224 := by simp only [mx_tb, mx_tbT, List.getD_cons_succ, List.getD_cons_zero, Nat.reduceDiv, Nat.reduceMod]
theorem mx_tbe225 : mx_tb 225 = mx_t225 := by simp only [mx_tb, mx_tbT, List.getD_cons_succ, List.getD_cons_zero, Nat.reduceDiv, Nat.reduceMod]
theorem mx_tbe226 : mx_tb 226 = mx_t226 := by simp only [mx_tb, mx_tbT, List.getD_cons_succ, List.getD_cons_zero, Nat.reduceDiv, Nat.reduceMod]
theorem mx_tbe227 : mx_tb 227 = mx_t227 := by simp only [mx_tb, mx_tbT, List.getD_cons_succ, List.getD_cons_zero, Nat.reduceDiv, Nat.reduceMod]
theorem mx_tbe228 : mx_tb 228 = mx_t228 := by simp only [mx_tb, mx_tbT, List.getD_cons_succ, List.getD_cons_zero, Nat.reduceDiv, Nat.reduceMod]
theorem mx_tbe229 : mx_tb 229 = mx_t229 := by simp only [mx_tb, mx_tbT, List.getD_cons_succ, List.getD_cons_zero, Nat.reduceDiv, Nat.reduceMod]
theorem mx_tbe230 : mx_tb 230 = mx_t230 := by simp only [mx_tb, mx_tbT, List.getD_cons_succ, List.getD_cons_zero, Nat.reduceDiv, Nat.reduceMod]
theorem mx_tbe231 : mx_tb 231 = mx_t231 := by simp only [mx_tb, mx_tbT, List.getD_cons_succ, List.getD_cons_zero, Nat.reduceDiv, Nat.reduceMod]
theorem mx_tbe232 : mx_tb 232 = mx_t232 := by simp only [mx_tb, mx_tbT, List.getD_cons_succ, List.getD_cons_zero, Nat.reduceDiv, Nat.reduceMod]
theorem mx_tbe233 : mx_tb 233 = mx_t233 := by simp only [mx_tb, mx_tbT, List.getD_cons_succ, List.getD_cons_zero, Nat.reduceDiv, Nat.reduceMod]
theorem mx_tbe234 : mx_tb 234 = mx_t234 := by simp only [mx_tb, mx_tbT, List.getD_cons_succ, List.getD_cons_zero, Nat.reduceDiv, Nat.reduceMod]
theorem mx_tbe235 : mx_tb 235 = mx_t235 := by simp only [mx_tb, mx_tbT, List.getD_cons_succ, List.getD_cons_zero, Nat.reduceDiv, Nat.reduceMod]
theorem mx_tbe236 : mx_tb 236 = mx_t236 := by simp only [mx_tb, mx_tbT, List.getD_cons_succ, List.getD_cons_zero, Nat.reduceDiv, Nat.reduceMod]
theorem mx_tbe237 : mx_tb 237 = mx_t237 := by simp only [mx_tb, mx_tbT, List.getD_cons_succ, List.getD_cons_zero, Nat.reduceDiv, Nat.reduceMod]
theorem mx_tbe238 : mx_tb 238 = mx_t238 := by simp only [mx_tb, mx_tbT, List.getD_cons_succ, List.getD_cons_zero, Nat.reduceDiv, Nat.reduceMod]
theorem mx_tbe239 : mx_tb 239 = mx_t239 := by simp only [mx_tb, mx_tbT, List.getD_cons_succ, List.getD_cons_zero, Nat.reduceDiv, Nat.reduceMod]
theorem mx_tbe240 : mx_tb 240 = mx_t240 := by simp only [mx_tb, mx_tbT, List.getD_cons_succ, List.getD_cons_zero, Nat.reduceDiv, Nat.reduceMod]
theorem mx_tbe241 : mx_tb 241 = mx_t241 := by simp only [mx_tb, mx_tbT, List.getD_cons_succ, List.getD_cons_zero, Nat.reduceDiv, Nat.reduceMod]
theorem mx_tbe242 : mx_tb 242 = mx_t242 := by simp only [mx_tb, mx_tbT, List.getD_cons_succ, List.getD_cons_zero, Nat.reduceDiv, Nat.reduceMod]
theorem mx_tbe243 : mx_tb 243 = mx_t243 := by simp only [mx_tb, mx_tbT, List.getD_cons_succ, List.getD_cons_zero, Nat.reduceDiv, Nat.reduceMod]
theorem mx_tbe244 : mx_tb 244 = mx_t244 := by simp only [mx_tb, mx_tbT, List.getD_cons_succ, List.getD_cons_zero, Nat.reduceDiv, Nat.reduceMod]
theorem mx_tbe245 : mx_tb 245 = mx_t245 := by simp only [mx_tb, mx_tbT, List.getD_cons_succ, List.getD_cons_zero, Nat.reduceDiv, Nat.reduceMod]
theorem mx_tbe246 : mx_tb 246 = mx_t246 := by simp only [mx_tb, mx_tbT, List.getD_cons_succ, List.getD_cons_zero, Nat.reduceDiv, Nat.reduceMod]
theorem mx_tbe247 : mx_tb 247 = mx_t247 := by simp only [mx_tb, mx_tbT, List.getD_cons_succ, List.getD_cons_zero, Nat.reduceDiv, Nat.reduceMod]
theorem mx_tbe248 : mx_tb 248 = mx_t248 := by simp only [mx_tb, mx_tbT, List.getD_cons_succ, List.getD_cons_zero, Nat.reduceDiv, Nat.reduceMod]
theorem mx_tbe249 : mx_tb 249 = mx_t249 := by simp only [mx_tb, mx_tbT, List.getD_cons_succ, List.getD_cons_zero, Nat.reduceDiv, Nat.reduceMod]
theorem mx_tbe250 : mx_tb 250 = mx_t250 := by simp only [mx_tb, mx_tbT, List.getD_cons_succ, List.getD_cons_zero, Nat.reduceDiv, Nat.reduceMod]
theorem mx_tbe251 : mx_tb 251 = mx_t251 := by simp only [mx_tb, mx_tbT, List.getD_cons_succ, List.getD_cons_zero, Nat.reduceDiv, Nat.reduceMod]
theorem mx_tbe252 : mx_tb 252 = mx_t252 := by simp only [mx_tb, mx_tbT, List.getD_cons_succ, List.getD_cons_zero, Nat.reduceDiv, Nat.reduceMod]
theorem mx_tbe253 : mx_tb 253 = mx_t253 := by simp only [mx_tb, mx_tbT, List.getD_cons_succ, List.getD_cons_zero, Nat.reduceDiv, Nat.reduceMod]
theorem mx_tbe254 : mx_tb 254 = mx_t254 := by simp only [mx_tb, mx_tbT, List.getD_cons_succ, List.getD_cons_zero, Nat.reduceDiv, Nat.reduceMod]
theorem mx_tbe255 : mx_tb 255 = mx_t255 := by simp only [mx_tb, mx_tbT, List.getD_cons_succ, List.getD_cons_zero, Nat.reduceDiv, Nat.reduceMod]
theorem mx_tbe256 : mx_tb 256 = mx_t256 := by simp only [mx_tb, mx_tbT, List.getD_cons_succ, List.getD_cons_zero, Nat.reduceDiv, Nat.reduceMod]
theorem mx_tbe257 : mx_tb 257 = mx_t257 := by simp only [mx_tb, mx_tbT, List.getD_cons_succ, List.getD_cons_zero, Nat.reduceDiv, Nat.reduceMod]
theorem mx_tbe258 : mx_tb 258 = mx_t258 := by simp only [mx_tb, mx_tbT, List.getD_cons_succ, List.getD_cons_zero, Nat.reduceDiv, Nat.reduceMod]
theorem mx_tbe259 : mx_tb 259 = mx_t259 := by simp only [mx_tb, mx_tbT, List.getD_cons_succ, List.getD_cons_zero, Nat.reduceDiv, Nat.reduceMod]
theorem mx_tbe260 : mx_tb 260 = mx_t260 := by simp only [mx_tb, mx_tbT, List.getD_cons_succ, List.getD_cons_zero, Nat.reduceDiv, Nat.reduceMod]
theorem mx_tbe261 : mx_tb 261 = mx_t261 := by simp only [mx_tb, mx_tbT, List.getD_cons_succ, List.getD_cons_zero, Nat.reduceDiv, Nat.reduceMod]
theorem mx_tbe262 : mx_tb 262 = mx_t262 := by simp only [mx_tb, mx_tbT, List.getD_cons_succ, List.getD_cons_zero, Nat.reduceDiv, Nat.reduceMod]
theorem mx_tbe263 : mx_tb 263 = mx_t263 := by simp only [mx_tb, mx_tbT, List.getD_cons_succ, List.getD_cons_zero, Nat.reduceDiv, Nat.reduceMod]
theorem mx_tbe264 : mx_tb 264 = mx_t264 := by simp only [mx_tb, mx_tbT, List.getD_cons_succ, List.getD_cons_zero, Nat.reduceDiv, Nat.reduceMod]
theorem mx_tbe265 : mx_tb 265 = mx_t265 := by simp only [mx_tb, mx_tbT, List.getD_cons_succ, List.getD_cons_zero, Nat.reduceDiv, Nat.reduceMod]
theorem mx_tbe266 : mx_tb 266 = mx_t266 := by simp only [mx_tb, mx_tbT, List.getD_cons_succ, List.getD_cons_zero, Nat.reduceDiv, Nat.reduceMod]
theorem mx_tbe267 : mx_tb 267 = mx_t267 := by simp only [mx_tb, mx_tbT, List.getD_cons_succ, List.getD_cons_zero, Nat.reduceDiv, Nat.reduceMod]
theorem mx_tbe268 : mx_tb 268 = mx_t268 := by simp only [mx_tb, mx_tbT, List.getD_cons_succ, List.getD_cons_zero, Nat.reduceDiv, Nat.reduceMod]
theorem mx_tbe269 : mx_tb 269 = mx_t269 := by simp only [mx_tb, mx_tbT, List.getD_cons_succ, List.getD_cons_zero, Nat.reduceDiv, Nat.reduceMod]
theorem mx_tbe270 : mx_tb 270 = mx_t270 := by simp only [mx_tb, mx_tbT, List.getD_cons_succ, List.getD_cons_zero, Nat.reduceDiv, Nat.reduceMod]
theorem mx_tbe271 : mx_tb 271 = mx_t271 := by simp only [mx_tb, mx_tbT, List.getD_cons_succ, List.getD_cons_zero, Nat.reduceDiv, Nat.reduceMod]
theorem mx_tbe272 : mx_tb 272 = mx_t272 := by simp only [mx_tb, mx_tbT, List.getD_cons_succ, List.getD_cons_zero, Nat.reduceDiv, Nat.reduceMod]
theorem mx_tbe273 : mx_tb 273 = mx_t273 := by simp only [mx_tb, mx_tbT, List.getD_cons_succ, List.getD_cons_zero, Nat.reduceDiv, Nat.reduceMod]
theorem mx_tbe274 : mx_tb 274 = mx_t274 := by simp only [mx_tb, mx_tbT, List.getD_cons_succ, List.getD_cons_zero, Nat.reduceDiv, Nat.reduceMod]
theorem mx_tbe275 : mx_tb 275 = mx_t275 := by simp only [mx_tb, mx_tbT, List.getD_cons_succ, List.getD_cons_zero, Nat.reduceDiv, Nat.reduceMod]
theorem mx_tbe276 : mx_tb 276 = mx_t276 := by simp only [mx_tb, mx_tbT, List.getD_cons_succ, List.getD_cons_zero, Nat.reduceDiv, Nat.reduceMod]
theorem mx_tbe277 : mx_tb 277 = mx_t277 := by simp only [mx_tb, mx_tbT, List.getD_cons_succ, List.getD_cons_zero, Nat.reduceDiv, Nat.reduceMod]
theorem mx_tbe278 : mx_tb 278 = mx_t278 := by simp only [mx_tb, mx_tbT, List.getD_cons_succ, List.getD_cons_zero, Nat.reduceDiv, Nat.reduceMod]
theorem mx_tbe279 : mx_tb 279 = mx_t279 := by simp only [mx_tb, mx_tbT, List.getD_cons_succ, List.getD_cons_zero, Nat.reduceDiv, Nat.reduceMod]
theorem mx_tbe280 : mx_tb 280 = mx_t280 := by simp only [mx_tb, mx_tbT, List.getD_cons_succ, List.getD_cons_zero, Nat.reduceDiv, Nat.reduceMod]
theorem mx_tbe281 : mx_tb 281 = mx_t281 := by simp only [mx_tb, mx_tbT, List.getD_cons_succ, List.getD_cons_zero, Nat.reduceDiv, Nat.reduceMod]
theorem mx_tbe282 : mx_tb 282 = mx_t282 := by simp only [mx_tb, mx_tbT, List.getD_cons_succ, List.getD_cons_zero, Nat.reduceDiv, Nat.reduceMod]
theorem mx_tbe283 : mx_tb 283 = mx_t283 := by simp only [mx_tb, mx_tbT, List.getD_cons_succ, List.getD_cons_zero, Nat.reduceDiv, Nat.reduceMod]
theorem mx_tbe284 : mx_tb 284 = mx_t284 := by simp only [mx_tb, mx_tbT, List.getD_cons_succ, List.getD_cons_zero, Nat.reduceDiv, Nat.reduceMod]
theorem mx_tbe285 : mx_tb 285 = mx_t285 := by simp only [mx_tb, mx_tbT, List.getD_cons_succ, List.getD_cons_zero, Nat.reduceDiv, Nat.reduceMod]
theorem mx_tbe286 : mx_tb 286 = mx_t286 := by simp only [mx_tb, mx_tbT, List.getD_cons_succ, List.getD_cons_zero, Nat.reduceDiv, Nat.reduceMod]
theorem mx_tbe287 : mx_tb 287 = mx_t287 := by simp only [mx_tb, mx_tbT, List.getD_cons_succ, List.getD_cons_zero, Nat.reduceDiv, Nat.reduceMod]
theorem mx_tbe288 : mx_tb 288 = mx_t288 := by simp only [mx_tb, mx_tbT, List.getD_cons_succ, List.getD_cons_zero, Nat.reduceDiv, Nat.reduceMod]
theorem mx_tbe289 : mx_tb 289 = mx_t289 := by simp only [mx_tb, mx_tbT, List.getD_cons_succ, List.getD_cons_zero, Nat.reduceDiv, Nat.reduceMod]
theorem mx_tbe290 : mx_tb 290 = mx_t290 := by simp only [mx_tb, mx_tbT, List.getD_cons_succ, List.getD_cons_zero, Nat.reduceDiv, Nat.reduceMod]
theorem mx_tbe291 : mx_tb 291 = mx_t291 := by simp only [mx_tb, mx_tbT, List.getD_cons_succ, List.getD_cons_zero, Nat.reduceDiv, Nat.reduceMod]
theorem mx_tbe292 : mx_tb 292 = mx_t292 := by simp only [mx_tb, mx_tbT, List.getD_cons_succ, List.getD_cons_zero, Nat.reduceDiv, Nat.reduceMod]
theorem mx_tbe293 : mx_tb 293 = mx_t293 := by simp only [mx_tb, mx_tbT, List.getD_cons_succ, List.getD_cons_zero, Nat.reduceDiv, Nat.reduceMod]
theorem mx_tbe294 : mx_tb 294 = mx_t294 := by simp only [mx_tb, mx_tbT, List.getD_cons_succ, List.getD_cons_zero, Nat.reduceDiv, Nat.reduceMod]
theorem mx_tbe295 : mx_tb 295 = mx_t295 := by simp only [mx_tb, mx_tbT, List.getD_cons_succ, List.getD_cons_zero, Nat.reduceDiv, Nat.reduceMod]
theorem mx_tbe296 : mx_tb 296 = mx_t296 := by simp only [mx_tb, mx_tbT, List.getD_cons_succ, List.getD_cons_zero, Nat.reduceDiv, Nat.reduceMod]
theorem mx_tbe297 : mx_tb 297 = mx_t297 := by simp only [mx_tb, mx_tbT, List.getD_cons_succ, List.getD_cons_zero, Nat.reduceDiv, Nat.reduceMod]
theorem mx_tbe298 : mx_tb 298 = mx_t298 := by simp only [mx_tb, mx_tbT, List.getD_cons_succ, List.getD_cons_zero, Nat.reduceDiv, Nat.reduceMod]
theorem mx_tbe299 : mx_tb 299 = mx_t299 := by simp only [mx_tb, mx_tbT, List.getD_cons_succ, List.getD_cons_zero, Nat.reduceDiv, Nat.reduceMod]
theorem mx_tbe300 : mx_tb 300 = mx_t300 := by simp only [mx_tb, mx_tbT, List.getD_cons_succ, List.getD_cons_zero, Nat.reduceDiv, Nat.reduceMod]
theorem mx_tbe301 : mx_tb 301 = mx_t301 := by simp only [mx_tb, mx_tbT, List.getD_cons_succ, List.getD_cons_zero, Nat.reduceDiv, Nat.reduceMod]
theorem mx_tbe302 : mx_tb 302 = mx_t302 := by simp only [mx_tb, mx_tbT, List.getD_cons_succ, List.getD_cons_zero, Nat.reduceDiv, Nat.reduceMod]
theorem mx_tbe303 : mx_tb 303 = mx_t303 := by simp only [mx_tb, mx_tbT, List.getD_cons_succ, List.getD_cons_zero, Nat.reduceDiv, Nat.reduceMod]
theorem mx_tbe304 : mx_tb 304 = mx_t304 := by simp only [mx_tb, mx_tbT, List.getD_cons_succ, List.getD_cons_zero, Nat.reduceDiv, Nat.reduceMod]
theorem mx_tbe305 : mx_tb 305 = mx_t305 := by simp only [mx_tb, mx_tbT, List.getD_cons_succ, List.getD_cons_zero, Nat.reduceDiv, Nat.reduceMod]
theorem mx_tbe306 : mx_tb 306 = mx_t306 := by simp only [mx_tb, mx_tbT, List.getD_cons_succ, List.getD_cons_zero, Nat.reduceDiv, Nat.reduceMod]
theorem mx_tbe307 : mx_tb 307 = mx_t307 := by simp only [mx_tb, mx_tbT, List.getD_cons_succ, List.getD_cons_zero, Nat.reduceDiv, Nat.reduceMod]
theorem mx_tbe308 : mx_tb 308 = mx_t308 := by simp only [mx_tb, mx_tbT, List.getD_cons_succ, List.getD_cons_zero, Nat.reduceDiv, Nat.reduceMod]
theorem mx_tbe309 : mx_tb 309 = mx_t309 := by simp only [mx_tb, mx_tbT, List.getD_cons_succ, List.getD_cons_zero, Nat.reduceDiv, Nat.reduceMod]
theorem mx_tbe316 : mx_tb 316 = mx_t316 := by simp only [mx_tb, mx_tbT, List.getD_cons_succ, List.getD_cons_zero, Nat.reduceDiv, Nat.reduceMod]
theorem mx_tbe317 : mx_tb 317 = mx_t317 := by simp only [mx_tb, mx_tbT, List.getD_cons_succ, List.getD_cons_zero, Nat.reduceDiv, Nat.reduceMod]
theorem mx_tbe318 : mx_tb 318 = mx_t318 := by simp only [mx_tb, mx_tbT, List.getD_cons_succ, List.getD_cons_zero, Nat.reduceDiv, Nat.reduceMod]
def mx_cph (h : mx_H) (a b : mx_A) (sp dp n : Nat) : mx_H := (h.1, h.2.1, fun c j => if c = b then va_cpy (h.2.2.1 a) (h.2.2.1 b) sp dp n j else h.2.2.1 c j, h.2.2.2)
def mx_sr (E : mx_Ev) (mid pc : Nat) (f : mx_F) (st : List mx_V) (h : mx_H) (o : mx_O) : Prop :=
  (∃ en, mx_ft (mx_tb mid) pc = some en ∧ ml_s1 E mid pc en.2.1 en.2.2.2.1 en.2.2.2.2.1 en.2.2.2.2.2.1 en.2.2.2.2.2.2.1 en.2.2.2.2.2.2.2 f st h o) ∨
  (mx_ft (mx_tb mid) pc = none ∧ mid = 154 ∧ pc = 129 ∧ ∃ n dp sp : Int32, ∃ a b : mx_A, ∃ r : List mx_V, st = .inl (.int n) :: .inl (.int dp) :: .inr b :: .inl (.int sp) :: .inr a :: r ∧ o = .inl (132, f, r, mx_cph h a b sp.toNatClampNeg dp.toNatClampNeg n.toNatClampNeg))
def mx_cl (av : List mx_V) : mx_F := mx_get (mx_ent 0 av)
theorem ml_cat (v : mx_V) : 1 ≤ mx_cat v := by
  rcases v with v | a
  · cases v <;> first | exact Nat.le_refl 1 | exact Nat.le_succ 1
  · exact Nat.le_refl 1
theorem ml_ent : ∀ (av : List mx_V) (i : Nat) (q : Nat × mx_V), q ∈ mx_ent i av → i ≤ q.1
  | [], _, _, h => absurd h List.not_mem_nil
  | v :: r, i, q, h => by
    have h' : q ∈ (i, v) :: mx_ent (i + mx_cat v) r := h
    rcases List.mem_cons.mp h' with e | hq
    · rw [e]
      exact Nat.le_refl i
    · exact Nat.le_trans (Nat.le_add_right _ _) (ml_ent r _ q hq)
theorem ml_entg : ∀ (av : List mx_V) (i : Nat) (q : Nat × mx_V), q ∈ mx_ent i av → mx_get (mx_ent i av) q.1 = some q.2
  | [], _, _, h => absurd h List.not_mem_nil
  | v :: r, i, q, h => by
    have h' : q ∈ (i, v) :: mx_ent (i + mx_cat v) r := h
    show mx_get ((i, v) :: mx_ent (i + mx_cat v) r) q.1 = some q.2
    unfold mx_get
    rcases List.mem_cons.mp h' with e | hq
    · rw [e]
      rw [List.find?_cons_of_pos (by simp)]
      rfl
    · have l1 := ml_ent r _ q hq
      have l2 := ml_cat v
      rw [List.find?_cons_of_neg (by
        intro e
        have e' : i = q.1 := by simpa using e
        omega)]
      exact ml_entg r _ q hq
theorem ml_cl (av : List mx_V) : mx_co (mx_ent 0 av) (mx_cl av) := fun q hq => ml_entg av 0 q hq
abbrev mx_e1 (rec : Nat → Nat → mx_F → List mx_V → mx_H → Option mx_V → mx_H → Prop) (mid : Nat) (f : mx_F) (h : mx_H) (v : Option mx_V) (h' : mx_H) : mx_O → Prop
  | .inl (pc', f', st', h1) => rec mid pc' f' st' h1 v h'
  | .inr (.inl w) => v = w ∧ h' = h
  | .inr (.inr (a, av, rest, pc')) => ∃ w h1, rec a 0 (mx_cl av) [] h w h1 ∧ mx_wt (mx_rt a) w ∧ rec mid pc' f (w.toList ++ rest) h1 v h'
/-- a run of at most n steps deep ends with v and h' -/
def mx_ev (E : mx_Ev) : Nat → Nat → Nat → mx_F → List mx_V → mx_H → Option mx_V → mx_H → Prop
  | 0 => fun _ _ _ _ _ _ _ => False
  | n + 1 => fun mid pc f st h v h' => ∃ o, mx_sr E mid pc f st h o ∧ mx_e1 (mx_ev E n) mid f h v h' o
theorem ml_evs {E : mx_Ev} {n mid pc : Nat} {f : mx_F} {st : List mx_V} {h h' : mx_H} {v : Option mx_V} {o : mx_O} (s : mx_sr E mid pc f st h o) (e : mx_e1 (mx_ev E n) mid f h v h' o) : mx_ev E (n + 1) mid pc f st h v h' := Exists.intro o ⟨s, e⟩
theorem ml_evo {E : mx_Ev} {n mid pc : Nat} {f : mx_F} {st : List mx_V} {h h' : mx_H} {v : Option mx_V} (e : mx_ev E (n + 1) mid pc f st h v h') : ∃ o, mx_sr E mid pc f st h o ∧ mx_e1 (mx_ev E n) mid f h v h' o := e
theorem ml_up {E : mx_Ev} : ∀ (n m : Nat), n ≤ m → ∀ (mid pc : Nat) (f : mx_F) (st : List mx_V) (h : mx_H) (v : Option mx_V) (h' : mx_H), mx_ev E n mid pc f st h v h' → mx_ev E m mid pc f st h v h'
  | 0, _, _, _, _, _, _, _, _, _, e => False.elim e
  | n + 1, 0, hn, _, _, _, _, _, _, _, _ => absurd hn (Nat.not_succ_le_zero n)
  | n + 1, m + 1, hn, mid, pc, f, st, h, v, h', e => by
    have hn' := Nat.le_of_succ_le_succ hn
    obtain ⟨o, s, e⟩ := ml_evo e
    refine ml_evs s ?_
    rcases o with ⟨pc', f', st', h1⟩ | w | ⟨a, av, rest, pc'⟩
    · exact ml_up n m hn' _ _ _ _ _ _ _ e
    · exact e
    · obtain ⟨w, h1, e1, e2, e3⟩ := e
      exact ⟨w, h1, ml_up n m hn' _ _ _ _ _ _ _ e1, e2, ml_up n m hn' _ _ _ _ _ _ _ e3⟩
def mx_T2 (E : mx_Ev) (fin : mx_A → Nat → Option mx_A) (d bc bs mid pc : Nat) (lv : mx_Lv) (st : List mx_V) (h : mx_H) (Q : Option mx_V → mx_H → Prop) : Prop :=
  (∀ f, mx_co lv f → ∀ P : Option mx_V → mx_H → Prop, (∀ n v h', mx_ev E n mid pc f st h v h' → P v h') → mx_T0 E fin d bc bs mid pc lv st h (fun v h' => Q v h' ∧ P v h')) ∧
  (∀ f, mx_co lv f → ∀ n v h', mx_ev E n mid pc f st h v h' → Q v h')
/-- the judgement: so that its end is named once -/
def mx_T (E : mx_Ev) (fin : mx_A → Nat → Option mx_A) (d bc bs mid pc : Nat) (lv : mx_Lv) (st : List mx_V) (h : mx_H) (Q : Option mx_V → mx_H → Prop) : Prop :=
  ∃ R : Option mx_V → mx_H → Prop, mx_T2 E fin d bc bs mid pc lv st h R ∧ ∀ v h', R v h' → Q v h'
theorem mx_T.mk {E : mx_Ev} {fin : mx_A → Nat → Option mx_A} {d bc bs mid pc : Nat} {lv : mx_Lv} {st : List mx_V} {h : mx_H} {Q : Option mx_V → mx_H → Prop} (hT : mx_T2 E fin d bc bs mid pc lv st h Q) : mx_T E fin d bc bs mid pc lv st h Q := ⟨Q, hT, fun _ _ q => q⟩
theorem mx_T.up {E : mx_Ev} {fin : mx_A → Nat → Option mx_A} {d bc bs mid pc : Nat} {lv : mx_Lv} {st : List mx_V} {h : mx_H} {Q : Option mx_V → mx_H → Prop} (hT : mx_T E fin d bc bs mid pc lv st h Q) : mx_T2 E fin d bc bs mid pc lv st h Q := by
  obtain ⟨R, h1, k⟩ := hT
  exact ⟨fun f hf P hP => (h1.1 f hf P hP).mono (fun v h' q => ⟨k v h' q.1, q.2⟩), fun f hf n v h' e => k v h' (h1.2 f hf n v h' e)⟩
def mx_C (E : mx_Ev) (fin : mx_A → Nat → Option mx_A) (d mid : Nat) (av : List mx_V) (h : mx_H) (Q : Option mx_V → mx_H → Prop) : Prop :=
  mx_T E fin d (mx_bu mid).1 (mx_bu mid).2 mid 0 (mx_ent 0 av) [] h Q
/-- what holds of every run of at most n steps -/
def mx_L (E : mx_Ev) (n mid pc : Nat) (lv : mx_Lv) (st : List mx_V) (h : mx_H) (Q : Option mx_V → mx_H → Prop) : Prop := ∀ f, mx_co lv f → ∀ v h', mx_ev E n mid pc f st h v h' → Q v h'
def mx_M (E : mx_Ev) (n mid : Nat) (av : List mx_V) (h : mx_H) (Q : Option mx_V → mx_H → Prop) : Prop := mx_L E n mid 0 (mx_ent 0 av) [] h Q
section MLT
variable {E : mx_Ev} {fin : mx_A → Nat → Option mx_A} {d bc bs mid pc n m : Nat} {lv lv' : mx_Lv} {st : List mx_V} {h : mx_H} {Q Q' P : Option mx_V → mx_H → Prop} {av : List mx_V}
theorem mx_T.mono (hT : mx_T E fin d bc bs mid pc lv st h Q) (hQ : ∀ v h', Q v h' → Q' v h') : mx_T E fin d bc bs mid pc lv st h Q' := by
  obtain ⟨R, h1, k⟩ := hT
  exact ⟨R, h1, fun v h' q => hQ v h' (k v h' q)⟩
theorem mx_T.sub (hl : ∀ q ∈ lv', q ∈ lv) (hT : mx_T E fin d bc bs mid pc lv' st h Q) : mx_T E fin d bc bs mid pc lv st h Q :=
  mx_T.mk ⟨fun f hf P hP => (hT.up.1 f (fun q hq => hf q (hl q hq)) P hP).sub hl, fun f hf n v h' e => hT.up.2 f (fun q hq => hf q (hl q hq)) n v h' e⟩
theorem mx_T.and (hT : mx_T E fin d bc bs mid pc lv st h Q) (hL : ∀ n, mx_L E n mid pc lv st h P) : mx_T E fin d bc bs mid pc lv st h (fun v h' => Q v h' ∧ P v h') :=
  mx_T.mk ⟨fun f hf P2 h2 => (hT.up.1 f hf (fun v h' => P v h' ∧ P2 v h') (fun n v h' e => ⟨hL n f hf v h' e, h2 n v h' e⟩)).mono (fun _ _ q => ⟨⟨q.1, q.2.1⟩, q.2.2⟩), fun f hf n v h' e => ⟨hT.up.2 f hf n v h' e, hL n f hf v h' e⟩⟩
theorem mx_T.L (hT : mx_T E fin d bc bs mid pc lv st h Q) (n : Nat) : mx_L E n mid pc lv st h Q := fun f hf v h' e => hT.up.2 f hf n v h' e
theorem mx_C.mono (hT : mx_C E fin d mid av h Q) (hQ : ∀ v h', Q v h' → Q' v h') : mx_C E fin d mid av h Q' := mx_T.mono hT hQ
theorem mx_C.and (hT : mx_C E fin d mid av h Q) (hL : ∀ n, mx_M E n mid av h P) : mx_C E fin d mid av h (fun v h' => Q v h' ∧ P v h') := mx_T.and hT hL
theorem mx_C.M (hT : mx_C E fin d mid av h Q) (n : Nat) : mx_M E n mid av h Q := mx_T.L hT n
theorem mx_T.weak {f : mx_F} (hf : mx_co lv f) (hT : mx_T E fin d bc bs mid pc lv st h Q) : mx_T0 E fin d bc bs mid pc lv st h Q := (hT.up.1 f hf (fun _ _ => True) (fun _ _ _ _ => True.intro)).mono (fun _ _ q => q.1)
theorem mx_L.mono (hT : mx_L E n mid pc lv st h Q) (hQ : ∀ v h', Q v h' → Q' v h') : mx_L E n mid pc lv st h Q' := fun f hf v h' e => hQ v h' (hT f hf v h' e)
theorem mx_L.and (hT : mx_L E n mid pc lv st h Q) (hP : mx_L E n mid pc lv st h P) : mx_L E n mid pc lv st h (fun v h' => Q v h' ∧ P v h') := fun f hf v h' e => ⟨hT f hf v h' e, hP f hf v h' e⟩
theorem mx_L.down (hn : m ≤ n) (hT : mx_L E n mid pc lv st h Q) : mx_L E m mid pc lv st h Q := fun f hf v h' e => hT f hf v h' (ml_up m n hn _ _ _ _ _ _ _ e)
theorem mx_L.zero : mx_L E 0 mid pc lv st h Q := fun _ _ _ _ e => False.elim e
theorem mx_M.mono (hT : mx_M E n mid av h Q) (hQ : ∀ v h', Q v h' → Q' v h') : mx_M E n mid av h Q' := mx_L.mono hT hQ
theorem mx_M.and (hT : mx_M E n mid av h Q) (hP : mx_M E n mid av h P) : mx_M E n mid av h (fun v h' => Q v h' ∧ P v h') := mx_L.and hT hP
theorem mx_M.down (hn : m ≤ n) (hT : mx_M E n mid av h Q) : mx_M E m mid av h Q := mx_L.down hn hT
end MLT
/-- what a stretch of code asks, up to the places of 'cuts' -/
def mx_wp (E : mx_Ev) (d mid : Nat) (tb : List (Nat × List mx_En)) (cuts : List (Nat × List Nat)) (Q : Option mx_V → mx_H → Prop) : Nat → Nat → Nat → Nat → mx_Lv → List mx_V → mx_H → Prop
  | 0, bc, bs, pc, lv, st, h => mx_T E (mx_fn true) d bc bs mid pc lv st h Q
  | k + 1, bc, bs, pc, lv, st, h => match mx_ft tb pc with
    | none => False
    | some (_, ins, _, a, b, z, c, l) => mx_one E true d bc bs mid pc ins a b z c l lv st h Q (mx_C E (mx_fn true))
        (fun bc bs pc lv st h => match mx_cut cuts pc with | some live => mx_T E (mx_fn true) d bc bs mid pc (mx_nrm live lv) st h Q | none => mx_wp E d mid tb cuts Q k bc bs pc lv st h) (fun bc bs pc lv st h => mx_T E (mx_fn true) d bc bs mid pc lv st h Q)
theorem mx_wp_sound {E : mx_Ev} {d mid : Nat} {tb : List (Nat × List mx_En)} {cuts : List (Nat × List Nat)} {Q : Option mx_V → mx_H → Prop} (hok : ∀ q ∈ tb, ∀ en ∈ q.2, mx_gd mid en) :
    ∀ (k : Nat) {bc bs pc : Nat} {lv : mx_Lv} {st : List mx_V} {h : mx_H}, mx_wp E d mid tb cuts Q k bc bs pc lv st h → mx_tb mid = tb → mx_T E (mx_fn true) d bc bs mid pc lv st h Q
  | 0, _, _, _, _, _, _, h, _ => h
  | k + 1, bc, bs, pc, lv, st, h, hk, htb => by
    unfold mx_wp at hk
    split at hk
    · exact hk.elim
    · next pc2 ins len a b z c l hft =>
      obtain ⟨e0, q, hq, he⟩ := mx_ft_mem hft
      have e0 : pc2 = pc := e0
      subst e0
      obtain ⟨g1, g2⟩ := hok q hq _ he
      have hm : (true || ml_nor ins a b) = true := rfl
      refine mx_T.mk ⟨fun f hf P hP => ?_, fun f hf n v h' ev => ?_⟩
      · have step : ∀ o, ml_s1 E mid pc2 ins a b z c l f st h o → mx_sr E mid pc2 f st h o := fun o s => Or.inl ⟨(pc2, ins, len, a, b, z, c, l), by rw [htb]; exact hft, s⟩
        refine mx_one_sound (CC := mx_C0 E (mx_fn true)) (κ := fun bc bs pc lv st h => mx_T0 E (mx_fn true) d bc bs mid pc lv st h (fun v h' => Q v h' ∧ P v h')) (TT := fun bc bs pc lv st h => mx_T0 E (mx_fn true) d bc bs mid pc lv st h (fun v h' => Q v h' ∧ P v h')) g1 g2 (fun _ _ _ _ _ _ q => q) (fun _ _ _ _ _ _ q => q) (fun _ _ _ _ _ q => q) ?_
        refine ml_A hm hf ?_ ?_ ?_ ?_ hk
        · intro bc bs pc' lv' f' st' h' hf' s q
          have hL : ∀ n v h'', mx_ev E n mid pc' f' st' h' v h'' → P v h'' := fun n v h'' e => hP (n + 1) v h'' (ml_evs (step _ s) e)
          split at q
          · exact (q.up.1 f' (fun x hx => hf' x (mx_nrm_mem x hx)) P hL).sub mx_nrm_mem
          · exact (mx_wp_sound hok k q htb).up.1 f' hf' P hL
        · intro bc bs pc' lv' f' st' h' hf' s q
          exact q.up.1 f' hf' P (fun n v h'' e => hP (n + 1) v h'' (ml_evs (step _ s) e))
        · intro v s q
          exact ⟨q, hP 1 v h (ml_evs (step _ s) ⟨rfl, rfl⟩)⟩
        · intro e bc bs a' av rest pc' s q
          have r := (mx_T.up q).1 (mx_cl av) (ml_cl av) (fun w h1 => ∃ n, mx_ev E n a' 0 (mx_cl av) [] h w h1) (fun n v h' e => ⟨n, e⟩)
          refine mx_T0.mono r (fun w h1 r => ?_)
          obtain ⟨r1, n1, r2⟩ := r
          refine ml_rc_m r1 (fun hw qq => ?_)
          have hL : ∀ n v h'', mx_ev E n mid pc' f (w.toList ++ rest) h1 v h'' → P v h'' := fun n v h'' e => hP (max n n1 + 1) v h'' (ml_evs (step _ s) ⟨w, h1, ml_up n1 _ (Nat.le_max_right _ _) _ _ _ _ _ _ _ r2, hw, ml_up n _ (Nat.le_max_left _ _) _ _ _ _ _ _ _ e⟩)
          split at qq
          · exact (qq.up.1 f (fun x hx => hf x (mx_nrm_mem x hx)) P hL).sub mx_nrm_mem
          · exact (mx_wp_sound hok k qq htb).up.1 f hf P hL
      · cases n with
        | zero => exact False.elim ev
        | succ n =>
          obtain ⟨o, s, e⟩ := ml_evo ev
          rcases s with ⟨en, h1, s⟩ | ⟨h1, -⟩
          · rw [htb, hft] at h1
            cases h1
            have K := ml_C hm hf s hk
            rcases o with ⟨pc', f', st', h1⟩ | w | ⟨a', av, rest, pc'⟩
            · obtain ⟨bc', bs', lv', hf', K⟩ := K
              rcases K with K | K
              · split at K
                · exact K.up.2 f' (fun x hx => hf' x (mx_nrm_mem x hx)) n v h' e
                · exact (mx_wp_sound hok k K htb).up.2 f' hf' n v h' e
              · exact K.up.2 f' hf' n v h' e
            · obtain ⟨e1, e2⟩ := e
              subst e1
              subst e2
              exact K
            · obtain ⟨e', bc', bs', K⟩ := K
              obtain ⟨w, h1, e1, e2, e3⟩ := e
              have K := ml_rc_2 ((mx_T.up K).2 (mx_cl av) (ml_cl av) n w h1 e1) e2
              dsimp only at K
              split at K
              · exact K.up.2 f (fun x hx => hf x (mx_nrm_mem x hx)) n v h' e3
              · exact (mx_wp_sound hok k K htb).up.2 f hf n v h' e3
          · rw [htb, hft] at h1
            cases h1
/-- what a stretch of code asks, up to the places of 'cuts' -/
def mx_wpf (E : mx_Ev) (md : Bool) (d mid : Nat) (tb : List (Nat × List mx_En)) (cuts : List (Nat × List Nat)) (Q : Option mx_V → mx_H → Prop) : Nat → Nat → Nat → Nat → mx_Lv → List mx_V → mx_H → Prop
  | 0, bc, bs, pc, lv, st, h => mx_T E (mx_fn md) d bc bs mid pc lv st h Q
  | k + 1, bc, bs, pc, lv, st, h => match mx_ft tb pc with
    | none => False
    | some (_, ins, _, a, b, z, c, l) => mx_if (md || ml_nor ins a b) (mx_one E md d bc bs mid pc ins a b z c l lv st h Q (mx_C E (mx_fn md))
        (fun bc bs pc lv st h => match mx_cut cuts pc with | some live => mx_T E (mx_fn md) d bc bs mid pc (mx_nrm live lv) st h Q | none => mx_wpf E md d mid tb cuts Q k bc bs pc lv st h) (fun bc bs pc lv st h => mx_T E (mx_fn md) d bc bs mid pc lv st h Q))
theorem mx_wpf_sound {E : mx_Ev} {md : Bool} {d mid : Nat} {tb : List (Nat × List mx_En)} {cuts : List (Nat × List Nat)} {Q : Option mx_V → mx_H → Prop} (hok : ∀ q ∈ tb, ∀ en ∈ q.2, mx_gd mid en) :
    ∀ (k : Nat) {bc bs pc : Nat} {lv : mx_Lv} {st : List mx_V} {h : mx_H}, mx_wpf E md d mid tb cuts Q k bc bs pc lv st h → mx_tb mid = tb → mx_T E (mx_fn md) d bc bs mid pc lv st h Q
  | 0, _, _, _, _, _, _, h, _ => h
  | k + 1, bc, bs, pc, lv, st, h, hk, htb => by
    unfold mx_wpf at hk
    split at hk
    · exact hk.elim
    · next pc2 ins len a b z c l hft =>
      obtain ⟨e0, q, hq, he⟩ := mx_ft_mem hft
      have e0 : pc2 = pc := e0
      subst e0
      obtain ⟨g1, g2⟩ := hok q hq _ he
      obtain ⟨hm, hk⟩ := mx_if_t hk
      refine mx_T.mk ⟨fun f hf P hP => ?_, fun f hf n v h' ev => ?_⟩
      · have step : ∀ o, ml_s1 E mid pc2 ins a b z c l f st h o → mx_sr E mid pc2 f st h o := fun o s => Or.inl ⟨(pc2, ins, len, a, b, z, c, l), by rw [htb]; exact hft, s⟩
        refine mx_one_sound (CC := mx_C0 E (mx_fn md)) (κ := fun bc bs pc lv st h => mx_T0 E (mx_fn md) d bc bs mid pc lv st h (fun v h' => Q v h' ∧ P v h')) (TT := fun bc bs pc lv st h => mx_T0 E (mx_fn md) d bc bs mid pc lv st h (fun v h' => Q v h' ∧ P v h')) g1 g2 (fun _ _ _ _ _ _ q => q) (fun _ _ _ _ _ _ q => q) (fun _ _ _ _ _ q => q) ?_
        refine ml_A hm hf ?_ ?_ ?_ ?_ hk
        · intro bc bs pc' lv' f' st' h' hf' s q
          have hL : ∀ n v h'', mx_ev E n mid pc' f' st' h' v h'' → P v h'' := fun n v h'' e => hP (n + 1) v h'' (ml_evs (step _ s) e)
          split at q
          · exact (q.up.1 f' (fun x hx => hf' x (mx_nrm_mem x hx)) P hL).sub mx_nrm_mem
          · exact (mx_wpf_sound hok k q htb).up.1 f' hf' P hL
        · intro bc bs pc' lv' f' st' h' hf' s q
          exact q.up.1 f' hf' P (fun n v h'' e => hP (n + 1) v h'' (ml_evs (step _ s) e))
        · intro v s q
          exact ⟨q, hP 1 v h (ml_evs (step _ s) ⟨rfl, rfl⟩)⟩
        · intro e bc bs a' av rest pc' s q
          have r := (mx_T.up q).1 (mx_cl av) (ml_cl av) (fun w h1 => ∃ n, mx_ev E n a' 0 (mx_cl av) [] h w h1) (fun n v h' e => ⟨n, e⟩)
          refine mx_T0.mono r (fun w h1 r => ?_)
          obtain ⟨r1, n1, r2⟩ := r
          refine ml_rc_m r1 (fun hw qq => ?_)
          have hL : ∀ n v h'', mx_ev E n mid pc' f (w.toList ++ rest) h1 v h'' → P v h'' := fun n v h'' e => hP (max n n1 + 1) v h'' (ml_evs (step _ s) ⟨w, h1, ml_up n1 _ (Nat.le_max_right _ _) _ _ _ _ _ _ _ r2, hw, ml_up n _ (Nat.le_max_left _ _) _ _ _ _ _ _ _ e⟩)
          split at qq
          · exact (qq.up.1 f (fun x hx => hf x (mx_nrm_mem x hx)) P hL).sub mx_nrm_mem
          · exact (mx_wpf_sound hok k qq htb).up.1 f hf P hL
      · cases n with
        | zero => exact False.elim ev
        | succ n =>
          obtain ⟨o, s, e⟩ := ml_evo ev
          rcases s with ⟨en, h1, s⟩ | ⟨h1, -⟩
          · rw [htb, hft] at h1
            cases h1
            have K := ml_C hm hf s hk
            rcases o with ⟨pc', f', st', h1⟩ | w | ⟨a', av, rest, pc'⟩
            · obtain ⟨bc', bs', lv', hf', K⟩ := K
              rcases K with K | K
              · split at K
                · exact K.up.2 f' (fun x hx => hf' x (mx_nrm_mem x hx)) n v h' e
                · exact (mx_wpf_sound hok k K htb).up.2 f' hf' n v h' e
              · exact K.up.2 f' hf' n v h' e
            · obtain ⟨e1, e2⟩ := e
              subst e1
              subst e2
              exact K
            · obtain ⟨e', bc', bs', K⟩ := K
              obtain ⟨w, h1, e1, e2, e3⟩ := e
              have K := ml_rc_2 ((mx_T.up K).2 (mx_cl av) (ml_cl av) n w h1 e1) e2
              dsimp only at K
              split at K
              · exact K.up.2 f (fun x hx => hf x (mx_nrm_mem x hx)) n v h' e3
              · exact (mx_wpf_sound hok k K htb).up.2 f hf n v h' e3
          · rw [htb, hft] at h1
            cases h1
/-- the same for what holds of every run -/
def mx_wl (E : mx_Ev) (n mid : Nat) (tb : List (Nat × List mx_En)) (cuts : List (Nat × List Nat)) (Q : Option mx_V → mx_H → Prop) : Nat → Nat → mx_Lv → List mx_V → mx_H → Prop
  | 0, _, _, _, _ => False
  | k + 1, pc, lv, st, h => match mx_ft tb pc with
    | none => False
    | some (_, ins, _, a, b, z, c, l) => ml_l1 E mid pc ins a b z c l lv st h Q (mx_M E n)
        (fun pc lv st h => match mx_cut cuts pc with | some live => mx_L E n mid pc (mx_nrm live lv) st h Q | none => mx_wl E n mid tb cuts Q k pc lv st h) (fun pc lv st h => mx_L E n mid pc lv st h Q)
theorem ml_wl {E : mx_Ev} {n mid : Nat} {tb : List (Nat × List mx_En)} {cuts : List (Nat × List Nat)} {Q : Option mx_V → mx_H → Prop} (htb : mx_tb mid = tb) :
    ∀ (k : Nat) {pc : Nat} {lv : mx_Lv} {st : List mx_V} {h : mx_H}, mx_wl E n mid tb cuts Q k pc lv st h → ∀ N, N ≤ n + 1 → ∀ f, mx_co lv f → ∀ v h', mx_ev E N mid pc f st h v h' → Q v h'
  | 0, _, _, _, _, hk, _, _, _, _, _, _, _ => False.elim hk
  | k + 1, pc, lv, st, h, hk, N, hN, f, hf, v, h', ev => by
    unfold mx_wl at hk
    split at hk
    · exact hk.elim
    · next pc2 ins len a b z c l hft =>
      obtain ⟨e0, -⟩ := mx_ft_mem hft
      have e0 : pc2 = pc := e0
      subst e0
      cases N with
      | zero => exact False.elim ev
      | succ N =>
        have hN' : N ≤ n := Nat.le_of_succ_le_succ hN
        obtain ⟨o, s, e⟩ := ml_evo ev
        rcases s with ⟨en, h1, s⟩ | ⟨h1, -⟩
        · rw [htb, hft] at h1
          cases h1
          have K := ml_B hf s hk
          rcases o with ⟨pc', f', st', h1⟩ | w | ⟨a', av, rest, pc'⟩
          · obtain ⟨lv', hf', K⟩ := K
            rcases K with K | K
            · split at K
              · exact K f' (fun x hx => hf' x (mx_nrm_mem x hx)) v h' (ml_up N n hN' _ _ _ _ _ _ _ e)
              · exact ml_wl htb k K N (Nat.le_succ_of_le hN') f' hf' v h' e
            · exact K f' hf' v h' (ml_up N n hN' _ _ _ _ _ _ _ e)
          · obtain ⟨e1, e2⟩ := e
            subst e1
            subst e2
            exact K
          · obtain ⟨w, h1, e1, e2, e3⟩ := e
            have K := ml_rc_s (K (mx_cl av) (ml_cl av) w h1 (ml_up N n hN' _ _ _ _ _ _ _ e1)) e2
            dsimp only at K
            split at K
            · exact K f (fun x hx => hf x (mx_nrm_mem x hx)) v h' (ml_up N n hN' _ _ _ _ _ _ _ e3)
            · exact ml_wl htb k K N (Nat.le_succ_of_le hN') f hf v h' e3
        · rw [htb, hft] at h1
          cases h1
theorem mx_wl_sound {E : mx_Ev} {n mid : Nat} {tb : List (Nat × List mx_En)} {cuts : List (Nat × List Nat)} {Q : Option mx_V → mx_H → Prop} (htb : mx_tb mid = tb) (k : Nat) {pc : Nat} {lv : mx_Lv} {st : List mx_V} {h : mx_H} (hk : mx_wl E n mid tb cuts Q k pc lv st h) : mx_L E (n + 1) mid pc lv st h Q :=
  fun f hf v h' e => ml_wl htb k hk (n + 1) (Nat.le_refl _) f hf v h' e
