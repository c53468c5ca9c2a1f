set_option maxRecDepth 100000 in
theorem mx_d1 : dl_at 1 0 mx_b1 := ⟨[], by decide +kernel⟩
set_option maxRecDepth 100000 in
theorem mx_d2 : dl_at 2 0 mx_b2 := ⟨[], by decide +kernel⟩
set_option maxRecDepth 100000 in
theorem mx_d3 : dl_at 3 0 mx_b3 := ⟨[], by decide +kernel⟩
set_option maxRecDepth 100000 in
theorem mx_d4 : dl_at 4 0 mx_b4 := ⟨[], by decide +kernel⟩
set_option maxRecDepth 100000 in
theorem mx_d5 : dl_at 5 0 mx_b5 := ⟨[], by decide +kernel⟩
set_option maxRecDepth 100000 in
theorem mx_d6 : dl_at 6 0 mx_b6 := ⟨[], by decide +kernel⟩
set_option maxRecDepth 100000 in
theorem mx_d7 : dl_at 7 0 mx_b7 := ⟨[], by decide +kernel⟩
set_option maxRecDepth 100000 in
theorem mx_d8 : dl_at 8 0 mx_b8 := ⟨[], by decide +kernel⟩
set_option maxRecDepth 100000 in
theorem mx_d9 : dl_at 9 0 mx_b9 := ⟨[], by decide +kernel⟩
set_option maxRecDepth 100000 in
theorem mx_d10 : dl_at 10 0 mx_b10 := ⟨[], by decide +kernel⟩
set_option maxRecDepth 100000 in
theorem mx_d11 : dl_at 11 0 mx_b11 := ⟨[], by decide +kernel⟩
set_option maxRecDepth 100000 in
theorem mx_d12 : dl_at 12 0 mx_b12 := ⟨[], by decide +kernel⟩
set_option maxRecDepth 100000 in
theorem mx_d13 : dl_at 13 0 mx_b13 := ⟨[], by decide +kernel⟩
set_option maxRecDepth 100000 in
theorem mx_d14 : dl_at 14 0 mx_b14 := ⟨[], by decide +kernel⟩
set_option maxRecDepth 100000 in
theorem mx_d15 : dl_at 15 0 mx_b15 := ⟨[], by decide +kernel⟩
set_option maxRecDepth 100000 in
theorem mx_d16 : dl_at 16 0 mx_b16 := ⟨[], by decide +kernel⟩
set_option maxRecDepth 100000 in
theorem mx_d17 : dl_at 17 0 mx_b17 := ⟨[], by decide +kernel⟩
set_option maxRecDepth 100000 in
theorem mx_d18 : dl_at 18 0 mx_b18 := ⟨[], by decide +kernel⟩
set_option maxRecDepth 100000 in
theorem mx_d19 : dl_at 19 0 mx_b19 := ⟨[], by decide +kernel⟩
set_option maxRecDepth 100000 in
theorem mx_d20 : dl_at 20 0 mx_b20 := ⟨[], by decide +kernel⟩
set_option maxRecDepth 100000 in
theorem mx_d21 : dl_at 21 0 mx_b21 := ⟨[], by decide +kernel⟩
set_option maxRecDepth 100000 in
theorem mx_d22 : dl_at 22 0 mx_b22 := ⟨[], by decide +kernel⟩
set_option maxRecDepth 100000 in
theorem mx_d23 : dl_at 23 0 mx_b23 := ⟨[], by decide +kernel⟩
set_option maxRecDepth 100000 in
theorem mx_d24 : dl_at 24 0 mx_b24 := ⟨[], by decide +kernel⟩
set_option maxRecDepth 100000 in
theorem mx_d25 : dl_at 25 0 mx_b25 := ⟨[], by decide +kernel⟩
set_option maxRecDepth 100000 in
theorem mx_d26 : dl_at 26 0 mx_b26 := ⟨[], by decide +kernel⟩
set_option maxRecDepth 100000 in
theorem mx_d27 : dl_at 27 0 mx_b27 := ⟨[], by decide +kernel⟩
set_option maxRecDepth 100000 in
theorem mx_d28 : dl_at 28 0 mx_b28 := ⟨[], by decide +kernel⟩
set_option maxRecDepth 100000 in
theorem mx_d29 : dl_at 29 0 mx_b29 := ⟨[], by decide +kernel⟩
set_option maxRecDepth 100000 in
theorem mx_e30_0 : dl_at 30 0 (mx_b30_0 ++ (mx_b30_1 ++ (mx_b30_2))) := ⟨[], by decide +kernel⟩
theorem mx_e30_1 : dl_at 30 73 (mx_b30_1 ++ (mx_b30_2)) := dl_at.right mx_e30_0 (by decide +kernel)
theorem mx_e30_2 : dl_at 30 163 (mx_b30_2) := dl_at.right mx_e30_1 (by decide +kernel)
set_option maxRecDepth 100000 in
theorem mx_d31 : dl_at 31 0 mx_b31 := ⟨[], by decide +kernel⟩
set_option maxRecDepth 100000 in
theorem mx_d32 : dl_at 32 0 mx_b32 := ⟨[], by decide +kernel⟩
set_option maxRecDepth 100000 in
theorem mx_d33 : dl_at 33 0 mx_b33 := ⟨[], by decide +kernel⟩
set_option maxRecDepth 100000 in
theorem mx_d34 : dl_at 34 0 mx_b34 := ⟨[], by decide +kernel⟩
set_option maxRecDepth 100000 in
theorem mx_d35 : dl_at 35 0 mx_b35 := ⟨[], by decide +kernel⟩
set_option maxRecDepth 100000 in
theorem mx_d36 : dl_at 36 0 mx_b36 := ⟨[], by decide +kernel⟩
set_option maxRecDepth 100000 in
theorem mx_d37 : dl_at 37 0 mx_b37 := ⟨[], by decide +kernel⟩
set_option maxRecDepth 100000 in
theorem mx_d38 : dl_at 38 0 mx_b38 := ⟨[], by decide +kernel⟩
set_option maxRecDepth 100000 in
theorem mx_d39 : dl_at 39 0 mx_b39 := ⟨[], by decide +kernel⟩
set_option maxRecDepth 100000 in
theorem mx_e40_0 : dl_at 40 0 (mx_b40_0 ++ (mx_b40_1 ++ (mx_b40_2 ++ (mx_b40_3)))) := ⟨[], by decide +kernel⟩
theorem mx_e40_1 : dl_at 40 92 (mx_b40_1 ++ (mx_b40_2 ++ (mx_b40_3))) := dl_at.right mx_e40_0 (by decide +kernel)
theorem mx_e40_2 : dl_at 40 271 (mx_b40_2 ++ (mx_b40_3)) := dl_at.right mx_e40_1 (by decide +kernel)
theorem mx_e40_3 : dl_at 40 348 (mx_b40_3) := dl_at.right mx_e40_2 (by decide +kernel)
set_option maxRecDepth 100000 in
theorem mx_d41 : dl_at 41 0 mx_b41 := ⟨[], by decide +kernel⟩
set_option maxRecDepth 100000 in
theorem mx_d42 : dl_at 42 0 mx_b42 := ⟨[], by decide +kernel⟩
set_option maxRecDepth 100000 in
theorem mx_d43 : dl_at 43 0 mx_b43 := ⟨[], by decide +kernel⟩
set_option maxRecDepth 100000 in
theorem mx_d44 : dl_at 44 0 mx_b44 := ⟨[], by decide +kernel⟩
set_option maxRecDepth 100000 in
theorem mx_d45 : dl_at 45 0 mx_b45 := ⟨[], by decide +kernel⟩
set_option maxRecDepth 100000 in
theorem mx_d46 : dl_at 46 0 mx_b46 := ⟨[], by decide +kernel⟩
set_option maxRecDepth 100000 in
theorem mx_d47 : dl_at 47 0 mx_b47 := ⟨[], by decide +kernel⟩
set_option maxRecDepth 100000 in
theorem mx_d48 : dl_at 48 0 mx_b48 := ⟨[], by decide +kernel⟩
set_option maxRecDepth 100000 in
theorem mx_d49 : dl_at 49 0 mx_b49 := ⟨[], by decide +kernel⟩
set_option maxRecDepth 100000 in
theorem mx_d50 : dl_at 50 0 mx_b50 := ⟨[], by decide +kernel⟩
set_option maxRecDepth 100000 in
theorem mx_d51 : dl_at 51 0 mx_b51 := ⟨[], by decide +kernel⟩
