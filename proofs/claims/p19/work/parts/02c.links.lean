/-! ===== links and methods, held against the tables by program ===== -/
def mx_pMT : List (List (Nat × Nat)) := [[(0, 0), (2062, 1008), (4209, 1008), (4184, 1008), (4189, 1008), (4193, 1008), (4198, 1008), (4221, 1008), (4225, 1008), (4233, 1008), (4238, 1008), (2033, 1007), (4131, 1007), (4139, 1007), (4147, 1007), (4156, 1007)], [(2127, 1010), (3137, 1010), (3141, 1010), (5131, 1010), (5140, 1010), (1141, 1004), (3162, 1004), (3166, 1004), (3170, 1004), (3176, 1004), (3180, 1004), (4031, 1004), (3192, 1004), (3188, 1004), (3196, 1004), (3184, 1004)], [(3200, 1004), (3217, 1004), (4047, 1004), (4051, 1004), (2158, 1011), (3093, 1011), (6004, 1011), (5183, 1011), (5171, 1011), (5179, 1011), (1221, 1006), (4059, 1006), (4063, 1006), (4075, 1006), (4079, 1006), (4098, 1006)], [(4087, 1006), (4103, 1006), (4109, 1006), (4113, 1006), (2106, 1009), (5073, 1009), (5085, 1009), (5081, 1009), (5090, 1009), (5100, 1009), (1049, 1003), (3031, 1003), (3106, 1003), (3063, 1003), (4001, 1003), (3073, 1003)], [(5113, 1003), (3129, 1003), (3126, 1003), (3133, 1003), (5148, 1003), (2185, 1012), (5196, 1012), (5204, 1012), (5215, 1012), (5009, 1012), (5014, 1012), (5234, 1012), (5219, 1012), (5222, 1012), (5021, 1012), (5018, 1012)], [(5042, 1012), (5038, 1012), (5045, 1012), (5062, 1012), (1030, 1002), (3019, 1002), (3027, 1002), (3038, 1002), (3051, 1002), (3055, 1002), (3077, 1002), (3081, 1002), (3042, 1002), (3046, 1002), (3059, 1002), (1191, 1005)], [(4010, 1005), (4016, 1005), (4023, 1005), (4027, 1005), (4020, 1005), (1022, 1001), (3012, 1001), (3023, 1001), (3097, 1001), (3110, 1001), (3118, 1001), (3145, 1001), (3150, 1001), (3155, 1001), (3204, 1001), (3210, 1001)], [(3222, 1001), (3226, 1001), (3231, 1001), (3236, 1001), (4006, 1001), (4035, 1001), (4039, 1001), (4043, 1001), (4055, 1001), (4067, 1001), (4083, 1001), (4094, 1001), (4123, 1001), (4127, 1001), (4135, 1001), (4152, 1001)], [(4162, 1001), (4166, 1001), (4170, 1001), (4177, 1001), (4205, 1001), (4213, 1001), (4217, 1001), (4229, 1001), (5002, 1001), (5034, 1001), (5058, 1001), (5069, 1001), (5077, 1001), (5104, 1001), (5108, 1001), (5119, 1001)], [(5127, 1001), (5136, 1001), (5144, 1001), (5152, 1001), (5159, 1001), (5188, 1001), (5192, 1001), (5200, 1001), (5211, 1001), (5226, 1001), (5230, 1001), (6001, 1001), (6008, 1001), (3015, 1001), (3158, 1001), (4180, 1001)], [(4173, 1001), (5005, 1001), (5155, 1001), (5163, 1001), (3113, 1001), (3213, 1001), (3101, 1001), (4071, 1001), (3085, 1001), (3089, 1001), (3122, 1001), (5123, 1001), (6013, 1013), (7065, 1013), (7172, 1013), (7187, 1013)], [(8104, 1013), (7132, 1013), (7109, 1013), (7116, 1013), (7113, 1013), (7120, 1013), (7077, 1013), (7137, 1013), (7062, 1013), (7081, 1013), (7085, 1013), (7089, 1013), (7093, 1013), (7105, 1013), (7101, 1013), (7097, 1013)], [(7073, 1013), (7124, 1013), (7069, 1013), (7141, 1013), (7128, 1013), (7145, 1013), (7153, 1013), (7161, 1013), (7157, 1013), (7149, 1013), (7165, 1013), (7169, 1013), (7176, 1013), (7180, 1013), (7184, 1013), (7201, 1013)], [(7198, 1013), (7213, 1013), (7220, 1013), (7216, 1013), (7209, 1013), (7205, 1013), (7224, 1013), (7194, 1013), (7191, 1013), (7228, 1013), (8001, 1013), (8005, 1013), (7237, 1013), (7233, 1013), (8009, 1013), (8013, 1013)], [(8017, 1013), (8025, 1013), (8021, 1013), (8041, 1013), (8045, 1013), (8037, 1013), (8033, 1013), (8029, 1013), (8049, 1013), (8057, 1013), (8053, 1013), (8073, 1013), (8069, 1013), (8065, 1013), (8061, 1013), (8077, 1013)], [(8081, 1013), (8089, 1013), (8085, 1013), (8101, 1013), (8108, 1013), (8097, 1013), (8093, 1013), (8112, 1013), (8116, 1013), (8120, 1013), (8132, 1013), (8128, 1013), (8124, 1013), (8136, 1013), (8140, 1013), (8147, 1013)], [(8144, 1013), (8155, 1013), (8159, 1013), (8151, 1013), (8163, 1013), (8167, 1013), (8171, 1013), (8175, 1013), (8186, 1013), (8189, 1013), (8179, 1013), (8206, 1013), (8210, 1013), (8202, 1013), (8198, 1013), (8194, 1013)], [(8217, 1013), (8221, 1013), (8225, 1013), (8233, 1013), (8237, 1013), (8229, 1013), (9009, 1013), (9005, 1013), (9001, 1013), (9017, 1013), (9013, 1013), (9029, 1013), (9036, 1013), (9021, 1013), (9040, 1013), (9048, 1013)], [(9044, 1013), (9033, 1013), (9056, 1013), (9052, 1013), (9064, 1013), (9060, 1013), (9076, 1013), (9072, 1013), (9068, 1013), (9025, 1013), (9080, 1013), (9084, 1013), (8182, 1013), (9088, 1013), (9092, 1013), (9100, 1013)], [(9096, 1013), (9104, 1013), (9108, 1013), (9112, 1013), (5048, 1016), (5093, 1016), (0, 0), (0, 0), (0, 0), (0, 0), (0, 0), (0, 0), (5207, 1014), (3034, 1014), (5167, 1011)]]
def mx_pM (i : Nat) : Nat × Nat := (mx_pMT.getD (i / 16) []).getD (i % 16) (0, 0)
/-- the methods whose own words stand in the tables -/
def mx_iM (i : Nat) : Bool := Nat.blt 0 i && (Nat.blt i 310 || (Nat.blt 315 i && Nat.blt i 319))
/-- words picked off a list, each so many behind the last -/
def mx_pik {α : Type} : List Nat → List α → List α
  | [], _ => []
  | g :: gs, L => match L.drop g with
    | [] => []
    | w :: L' => w :: mx_pik gs L'
theorem mx_pik_m {α : Type} : ∀ (gs : List Nat) (L : List α) (w : α), w ∈ mx_pik gs L → w ∈ L
  | [], _, w, h => absurd h List.not_mem_nil
  | g :: gs, L, w, h => by
    have h' : w ∈ (match L.drop g with | [] => [] | v :: L' => v :: mx_pik gs L') := h
    cases e : L.drop g with
    | nil =>
      rw [e] at h'
      exact absurd h' List.not_mem_nil
    | cons v L' =>
      rw [e] at h'
      have m : w ∈ L.drop g := by
        rw [e]
        rcases List.mem_cons.mp h' with q | q
        · rw [q]
          exact List.mem_cons_self
        · exact List.mem_cons_of_mem _ (mx_pik_m gs L' w q)
      exact List.mem_of_mem_drop m
def mx_all : List Cond → Prop
  | [] => True
  | w :: ws => w ∈ tables_1 ∧ mx_all ws
theorem mx_all_s : ∀ (ws : List Cond), (∀ w, w ∈ ws → w ∈ tables_1) → mx_all ws
  | [], _ => trivial
  | w :: ws, h => ⟨h w List.mem_cons_self, mx_all_s ws (fun v hv => h v (List.mem_cons_of_mem _ hv))⟩
theorem mx_pa {k : Nat} {gs : List Nat} {ws : List Cond} (e : mx_pik gs (mx_sub k) = ws) : mx_all ws := mx_all_s ws (fun w h => mx_sub_t k (mx_pik_m gs _ w (by rw [e]; exact h)))
theorem mx_CDj {mid : Nat} (h : Cond.code (mx_y mid) (mx_by mid) (mx_nL mid) (mx_rt mid) ∈ tables_1) : mx_CD mid := List.mem_filter.mpr ⟨List.mem_append_right _ h, rfl⟩
set_option maxRecDepth 100000 in
theorem mx_pa1_0 : mx_all [Cond.code (mx_y 101) (mx_by 101) (mx_nL 101) (mx_rt 101), Cond.code (mx_y 84) (mx_by 84) (mx_nL 84) (mx_rt 84), Cond.code (mx_y 58) (mx_by 58) (mx_nL 58) (mx_rt 58), Cond.code (mx_y 21) (mx_by 21) (mx_nL 21) (mx_rt 21), Cond.code (mx_y 95) (mx_by 95) (mx_nL 95) (mx_rt 95), Cond.code (mx_y 42) (mx_by 42) (mx_nL 42) (mx_rt 42)] := mx_pa (k := 1) (gs := [22, 7, 18, 91, 49, 29]) rfl
theorem mx_cd101 : mx_CD 101 := mx_CDj mx_pa1_0.1
theorem mx_cd84 : mx_CD 84 := mx_CDj mx_pa1_0.2.1
theorem mx_cd58 : mx_CD 58 := mx_CDj mx_pa1_0.2.2.1
theorem mx_cd21 : mx_CD 21 := mx_CDj mx_pa1_0.2.2.2.1
theorem mx_cd95 : mx_CD 95 := mx_CDj mx_pa1_0.2.2.2.2.1
theorem mx_cd42 : mx_CD 42 := mx_CDj mx_pa1_0.2.2.2.2.2.1
set_option maxRecDepth 100000 in
theorem mx_pa2_0 : mx_all [Cond.code (mx_y 11) (mx_by 11) (mx_nL 11) (mx_rt 11), Cond.code (mx_y 1) (mx_by 1) (mx_nL 1) (mx_rt 1), Cond.code (mx_y 52) (mx_by 52) (mx_nL 52) (mx_rt 52), Cond.code (mx_y 16) (mx_by 16) (mx_nL 16) (mx_rt 16), Cond.code (mx_y 36) (mx_by 36) (mx_nL 36) (mx_rt 36), Cond.code (mx_y 69) (mx_by 69) (mx_nL 69) (mx_rt 69)] := mx_pa (k := 2) (gs := [33, 28, 43, 20, 30, 26]) rfl
theorem mx_cd11 : mx_CD 11 := mx_CDj mx_pa2_0.1
theorem mx_cd1 : mx_CD 1 := mx_CDj mx_pa2_0.2.1
theorem mx_cd52 : mx_CD 52 := mx_CDj mx_pa2_0.2.2.1
theorem mx_cd16 : mx_CD 16 := mx_CDj mx_pa2_0.2.2.2.1
theorem mx_cd36 : mx_CD 36 := mx_CDj mx_pa2_0.2.2.2.2.1
theorem mx_cd69 : mx_CD 69 := mx_CDj mx_pa2_0.2.2.2.2.2.1
set_option maxRecDepth 100000 in
theorem mx_pa3_0 : mx_all [Cond.code (mx_y 102) (mx_by 102) (mx_nL 102) (mx_rt 102), Cond.code (mx_y 157) (mx_by 157) (mx_nL 157) (mx_rt 157), Cond.code (mx_y 85) (mx_by 85) (mx_nL 85) (mx_rt 85), Cond.code (mx_y 103) (mx_by 103) (mx_nL 103) (mx_rt 103), Cond.code (mx_y 86) (mx_by 86) (mx_nL 86) (mx_rt 86), Cond.code (mx_y 59) (mx_by 59) (mx_nL 59) (mx_rt 59), Cond.code (mx_y 317) (mx_by 317) (mx_nL 317) (mx_rt 317), Cond.code (mx_y 87) (mx_by 87) (mx_nL 87) (mx_rt 87), Cond.code (mx_y 92) (mx_by 92) (mx_nL 92) (mx_rt 92), Cond.code (mx_y 93) (mx_by 93) (mx_nL 93) (mx_rt 93), Cond.code (mx_y 88) (mx_by 88) (mx_nL 88) (mx_rt 88), Cond.code (mx_y 89) (mx_by 89) (mx_nL 89) (mx_rt 89), Cond.code (mx_y 94) (mx_by 94) (mx_nL 94) (mx_rt 94), Cond.code (mx_y 61) (mx_by 61) (mx_nL 61) (mx_rt 61), Cond.code (mx_y 63) (mx_by 63) (mx_nL 63) (mx_rt 63), Cond.code (mx_y 90) (mx_by 90) (mx_nL 90) (mx_rt 90)] := mx_pa (k := 3) (gs := [12, 2, 3, 3, 3, 3, 2, 3, 3, 3, 4, 3, 3, 3, 9, 3]) rfl
theorem mx_cd102 : mx_CD 102 := mx_CDj mx_pa3_0.1
theorem mx_cd157 : mx_CD 157 := mx_CDj mx_pa3_0.2.1
theorem mx_cd85 : mx_CD 85 := mx_CDj mx_pa3_0.2.2.1
theorem mx_cd103 : mx_CD 103 := mx_CDj mx_pa3_0.2.2.2.1
theorem mx_cd86 : mx_CD 86 := mx_CDj mx_pa3_0.2.2.2.2.1
theorem mx_cd59 : mx_CD 59 := mx_CDj mx_pa3_0.2.2.2.2.2.1
theorem mx_cd317 : mx_CD 317 := mx_CDj mx_pa3_0.2.2.2.2.2.2.1
theorem mx_cd87 : mx_CD 87 := mx_CDj mx_pa3_0.2.2.2.2.2.2.2.1
theorem mx_cd92 : mx_CD 92 := mx_CDj mx_pa3_0.2.2.2.2.2.2.2.2.1
theorem mx_cd93 : mx_CD 93 := mx_CDj mx_pa3_0.2.2.2.2.2.2.2.2.2.1
theorem mx_cd88 : mx_CD 88 := mx_CDj mx_pa3_0.2.2.2.2.2.2.2.2.2.2.1
theorem mx_cd89 : mx_CD 89 := mx_CDj mx_pa3_0.2.2.2.2.2.2.2.2.2.2.2.1
theorem mx_cd94 : mx_CD 94 := mx_CDj mx_pa3_0.2.2.2.2.2.2.2.2.2.2.2.2.1
theorem mx_cd61 : mx_CD 61 := mx_CDj mx_pa3_0.2.2.2.2.2.2.2.2.2.2.2.2.2.1
theorem mx_cd63 : mx_CD 63 := mx_CDj mx_pa3_0.2.2.2.2.2.2.2.2.2.2.2.2.2.2.1
theorem mx_cd90 : mx_CD 90 := mx_CDj mx_pa3_0.2.2.2.2.2.2.2.2.2.2.2.2.2.2.2.1
set_option maxRecDepth 100000 in
theorem mx_pa3_1 : mx_all [Cond.code (mx_y 91) (mx_by 91) (mx_nL 91) (mx_rt 91), Cond.code (mx_y 168) (mx_by 168) (mx_nL 168) (mx_rt 168), Cond.code (mx_y 169) (mx_by 169) (mx_nL 169) (mx_rt 169), Cond.code (mx_y 37) (mx_by 37) (mx_nL 37) (mx_rt 37), Cond.code (mx_y 104) (mx_by 104) (mx_nL 104) (mx_rt 104), Cond.code (mx_y 166) (mx_by 166) (mx_nL 166) (mx_rt 166), Cond.code (mx_y 60) (mx_by 60) (mx_nL 60) (mx_rt 60), Cond.code (mx_y 105) (mx_by 105) (mx_nL 105) (mx_rt 105), Cond.code (mx_y 164) (mx_by 164) (mx_nL 164) (mx_rt 164), Cond.code (mx_y 106) (mx_by 106) (mx_nL 106) (mx_rt 106), Cond.code (mx_y 170) (mx_by 170) (mx_nL 170) (mx_rt 170), Cond.code (mx_y 66) (mx_by 66) (mx_nL 66) (mx_rt 66), Cond.code (mx_y 65) (mx_by 65) (mx_nL 65) (mx_rt 65), Cond.code (mx_y 67) (mx_by 67) (mx_nL 67) (mx_rt 67), Cond.code (mx_y 17) (mx_by 17) (mx_nL 17) (mx_rt 17), Cond.code (mx_y 18) (mx_by 18) (mx_nL 18) (mx_rt 18)] := mx_pa (k := 3) (gs := [81, 3, 3, 3, 3, 3, 4, 3, 2, 4, 3, 3, 2, 3, 3, 3]) rfl
theorem mx_cd91 : mx_CD 91 := mx_CDj mx_pa3_1.1
theorem mx_cd168 : mx_CD 168 := mx_CDj mx_pa3_1.2.1
theorem mx_cd169 : mx_CD 169 := mx_CDj mx_pa3_1.2.2.1
theorem mx_cd37 : mx_CD 37 := mx_CDj mx_pa3_1.2.2.2.1
theorem mx_cd104 : mx_CD 104 := mx_CDj mx_pa3_1.2.2.2.2.1
theorem mx_cd166 : mx_CD 166 := mx_CDj mx_pa3_1.2.2.2.2.2.1
theorem mx_cd60 : mx_CD 60 := mx_CDj mx_pa3_1.2.2.2.2.2.2.1
theorem mx_cd105 : mx_CD 105 := mx_CDj mx_pa3_1.2.2.2.2.2.2.2.1
theorem mx_cd164 : mx_CD 164 := mx_CDj mx_pa3_1.2.2.2.2.2.2.2.2.1
theorem mx_cd106 : mx_CD 106 := mx_CDj mx_pa3_1.2.2.2.2.2.2.2.2.2.1
theorem mx_cd170 : mx_CD 170 := mx_CDj mx_pa3_1.2.2.2.2.2.2.2.2.2.2.1
theorem mx_cd66 : mx_CD 66 := mx_CDj mx_pa3_1.2.2.2.2.2.2.2.2.2.2.2.1
theorem mx_cd65 : mx_CD 65 := mx_CDj mx_pa3_1.2.2.2.2.2.2.2.2.2.2.2.2.1
theorem mx_cd67 : mx_CD 67 := mx_CDj mx_pa3_1.2.2.2.2.2.2.2.2.2.2.2.2.2.1
theorem mx_cd17 : mx_CD 17 := mx_CDj mx_pa3_1.2.2.2.2.2.2.2.2.2.2.2.2.2.2.1
theorem mx_cd18 : mx_CD 18 := mx_CDj mx_pa3_1.2.2.2.2.2.2.2.2.2.2.2.2.2.2.2.1
set_option maxRecDepth 100000 in
theorem mx_pa3_2 : mx_all [Cond.code (mx_y 107) (mx_by 107) (mx_nL 107) (mx_rt 107), Cond.code (mx_y 108) (mx_by 108) (mx_nL 108) (mx_rt 108), Cond.code (mx_y 109) (mx_by 109) (mx_nL 109) (mx_rt 109), Cond.code (mx_y 158) (mx_by 158) (mx_nL 158) (mx_rt 158), Cond.code (mx_y 22) (mx_by 22) (mx_nL 22) (mx_rt 22), Cond.code (mx_y 23) (mx_by 23) (mx_nL 23) (mx_rt 23), Cond.code (mx_y 24) (mx_by 24) (mx_nL 24) (mx_rt 24), Cond.code (mx_y 25) (mx_by 25) (mx_nL 25) (mx_rt 25), Cond.code (mx_y 26) (mx_by 26) (mx_nL 26) (mx_rt 26), Cond.code (mx_y 31) (mx_by 31) (mx_nL 31) (mx_rt 31), Cond.code (mx_y 29) (mx_by 29) (mx_nL 29) (mx_rt 29), Cond.code (mx_y 28) (mx_by 28) (mx_nL 28) (mx_rt 28), Cond.code (mx_y 30) (mx_by 30) (mx_nL 30) (mx_rt 30), Cond.code (mx_y 32) (mx_by 32) (mx_nL 32) (mx_rt 32), Cond.code (mx_y 110) (mx_by 110) (mx_nL 110) (mx_rt 110), Cond.code (mx_y 111) (mx_by 111) (mx_nL 111) (mx_rt 111)] := mx_pa (k := 3) (gs := [145, 4, 4, 2, 3, 3, 3, 5, 3, 3, 3, 3, 3, 3, 3, 5]) rfl
theorem mx_cd107 : mx_CD 107 := mx_CDj mx_pa3_2.1
theorem mx_cd108 : mx_CD 108 := mx_CDj mx_pa3_2.2.1
theorem mx_cd109 : mx_CD 109 := mx_CDj mx_pa3_2.2.2.1
theorem mx_cd158 : mx_CD 158 := mx_CDj mx_pa3_2.2.2.2.1
theorem mx_cd22 : mx_CD 22 := mx_CDj mx_pa3_2.2.2.2.2.1
theorem mx_cd23 : mx_CD 23 := mx_CDj mx_pa3_2.2.2.2.2.2.1
theorem mx_cd24 : mx_CD 24 := mx_CDj mx_pa3_2.2.2.2.2.2.2.1
theorem mx_cd25 : mx_CD 25 := mx_CDj mx_pa3_2.2.2.2.2.2.2.2.1
theorem mx_cd26 : mx_CD 26 := mx_CDj mx_pa3_2.2.2.2.2.2.2.2.2.1
theorem mx_cd31 : mx_CD 31 := mx_CDj mx_pa3_2.2.2.2.2.2.2.2.2.2.1
theorem mx_cd29 : mx_CD 29 := mx_CDj mx_pa3_2.2.2.2.2.2.2.2.2.2.2.1
theorem mx_cd28 : mx_CD 28 := mx_CDj mx_pa3_2.2.2.2.2.2.2.2.2.2.2.2.1
theorem mx_cd30 : mx_CD 30 := mx_CDj mx_pa3_2.2.2.2.2.2.2.2.2.2.2.2.2.1
theorem mx_cd32 : mx_CD 32 := mx_CDj mx_pa3_2.2.2.2.2.2.2.2.2.2.2.2.2.2.1
theorem mx_cd110 : mx_CD 110 := mx_CDj mx_pa3_2.2.2.2.2.2.2.2.2.2.2.2.2.2.2.1
theorem mx_cd111 : mx_CD 111 := mx_CDj mx_pa3_2.2.2.2.2.2.2.2.2.2.2.2.2.2.2.2.1
set_option maxRecDepth 100000 in
theorem mx_pa3_3 : mx_all [Cond.code (mx_y 165) (mx_by 165) (mx_nL 165) (mx_rt 165), Cond.code (mx_y 33) (mx_by 33) (mx_nL 33) (mx_rt 33), Cond.code (mx_y 112) (mx_by 112) (mx_nL 112) (mx_rt 112), Cond.code (mx_y 113) (mx_by 113) (mx_nL 113) (mx_rt 113), Cond.code (mx_y 114) (mx_by 114) (mx_nL 114) (mx_rt 114), Cond.code (mx_y 115) (mx_by 115) (mx_nL 115) (mx_rt 115)] := mx_pa (k := 3) (gs := [213, 3, 4, 3, 4, 4]) rfl
theorem mx_cd165 : mx_CD 165 := mx_CDj mx_pa3_3.1
theorem mx_cd33 : mx_CD 33 := mx_CDj mx_pa3_3.2.1
theorem mx_cd112 : mx_CD 112 := mx_CDj mx_pa3_3.2.2.1
theorem mx_cd113 : mx_CD 113 := mx_CDj mx_pa3_3.2.2.2.1
theorem mx_cd114 : mx_CD 114 := mx_CDj mx_pa3_3.2.2.2.2.1
theorem mx_cd115 : mx_CD 115 := mx_CDj mx_pa3_3.2.2.2.2.2.1
set_option maxRecDepth 100000 in
theorem mx_pa4_0 : mx_all [Cond.code (mx_y 62) (mx_by 62) (mx_nL 62) (mx_rt 62), Cond.code (mx_y 116) (mx_by 116) (mx_nL 116) (mx_rt 116), Cond.code (mx_y 96) (mx_by 96) (mx_nL 96) (mx_rt 96), Cond.code (mx_y 97) (mx_by 97) (mx_nL 97) (mx_rt 97), Cond.code (mx_y 100) (mx_by 100) (mx_nL 100) (mx_rt 100), Cond.code (mx_y 98) (mx_by 98) (mx_nL 98) (mx_rt 98), Cond.code (mx_y 99) (mx_by 99) (mx_nL 99) (mx_rt 99), Cond.code (mx_y 27) (mx_by 27) (mx_nL 27) (mx_rt 27), Cond.code (mx_y 117) (mx_by 117) (mx_nL 117) (mx_rt 117), Cond.code (mx_y 118) (mx_by 118) (mx_nL 118) (mx_rt 118), Cond.code (mx_y 119) (mx_by 119) (mx_nL 119) (mx_rt 119), Cond.code (mx_y 34) (mx_by 34) (mx_nL 34) (mx_rt 34), Cond.code (mx_y 35) (mx_by 35) (mx_nL 35) (mx_rt 35), Cond.code (mx_y 120) (mx_by 120) (mx_nL 120) (mx_rt 120), Cond.code (mx_y 43) (mx_by 43) (mx_nL 43) (mx_rt 43), Cond.code (mx_y 44) (mx_by 44) (mx_nL 44) (mx_rt 44)] := mx_pa (k := 4) (gs := [1, 4, 3, 5, 3, 2, 3, 3, 3, 3, 3, 3, 3, 3, 3, 3]) rfl
theorem mx_cd62 : mx_CD 62 := mx_CDj mx_pa4_0.1
theorem mx_cd116 : mx_CD 116 := mx_CDj mx_pa4_0.2.1
theorem mx_cd96 : mx_CD 96 := mx_CDj mx_pa4_0.2.2.1
theorem mx_cd97 : mx_CD 97 := mx_CDj mx_pa4_0.2.2.2.1
theorem mx_cd100 : mx_CD 100 := mx_CDj mx_pa4_0.2.2.2.2.1
theorem mx_cd98 : mx_CD 98 := mx_CDj mx_pa4_0.2.2.2.2.2.1
theorem mx_cd99 : mx_CD 99 := mx_CDj mx_pa4_0.2.2.2.2.2.2.1
theorem mx_cd27 : mx_CD 27 := mx_CDj mx_pa4_0.2.2.2.2.2.2.2.1
theorem mx_cd117 : mx_CD 117 := mx_CDj mx_pa4_0.2.2.2.2.2.2.2.2.1
theorem mx_cd118 : mx_CD 118 := mx_CDj mx_pa4_0.2.2.2.2.2.2.2.2.2.1
theorem mx_cd119 : mx_CD 119 := mx_CDj mx_pa4_0.2.2.2.2.2.2.2.2.2.2.1
theorem mx_cd34 : mx_CD 34 := mx_CDj mx_pa4_0.2.2.2.2.2.2.2.2.2.2.2.1
theorem mx_cd35 : mx_CD 35 := mx_CDj mx_pa4_0.2.2.2.2.2.2.2.2.2.2.2.2.1
theorem mx_cd120 : mx_CD 120 := mx_CDj mx_pa4_0.2.2.2.2.2.2.2.2.2.2.2.2.2.1
theorem mx_cd43 : mx_CD 43 := mx_CDj mx_pa4_0.2.2.2.2.2.2.2.2.2.2.2.2.2.2.1
theorem mx_cd44 : mx_CD 44 := mx_CDj mx_pa4_0.2.2.2.2.2.2.2.2.2.2.2.2.2.2.2.1
set_option maxRecDepth 100000 in
theorem mx_pa4_1 : mx_all [Cond.code (mx_y 121) (mx_by 121) (mx_nL 121) (mx_rt 121), Cond.code (mx_y 167) (mx_by 167) (mx_nL 167) (mx_rt 167), Cond.code (mx_y 45) (mx_by 45) (mx_nL 45) (mx_rt 45), Cond.code (mx_y 46) (mx_by 46) (mx_nL 46) (mx_rt 46), Cond.code (mx_y 122) (mx_by 122) (mx_nL 122) (mx_rt 122), Cond.code (mx_y 48) (mx_by 48) (mx_nL 48) (mx_rt 48), Cond.code (mx_y 123) (mx_by 123) (mx_nL 123) (mx_rt 123), Cond.code (mx_y 47) (mx_by 47) (mx_nL 47) (mx_rt 47), Cond.code (mx_y 49) (mx_by 49) (mx_nL 49) (mx_rt 49), Cond.code (mx_y 50) (mx_by 50) (mx_nL 50) (mx_rt 50), Cond.code (mx_y 51) (mx_by 51) (mx_nL 51) (mx_rt 51), Cond.code (mx_y 124) (mx_by 124) (mx_nL 124) (mx_rt 124), Cond.code (mx_y 125) (mx_by 125) (mx_nL 125) (mx_rt 125), Cond.code (mx_y 12) (mx_by 12) (mx_nL 12) (mx_rt 12), Cond.code (mx_y 126) (mx_by 126) (mx_nL 126) (mx_rt 126), Cond.code (mx_y 13) (mx_by 13) (mx_nL 13) (mx_rt 13)] := mx_pa (k := 4) (gs := [67, 3, 3, 3, 3, 3, 6, 3, 4, 5, 3, 9, 3, 3, 3, 3]) rfl
theorem mx_cd121 : mx_CD 121 := mx_CDj mx_pa4_1.1
theorem mx_cd167 : mx_CD 167 := mx_CDj mx_pa4_1.2.1
theorem mx_cd45 : mx_CD 45 := mx_CDj mx_pa4_1.2.2.1
theorem mx_cd46 : mx_CD 46 := mx_CDj mx_pa4_1.2.2.2.1
theorem mx_cd122 : mx_CD 122 := mx_CDj mx_pa4_1.2.2.2.2.1
theorem mx_cd48 : mx_CD 48 := mx_CDj mx_pa4_1.2.2.2.2.2.1
theorem mx_cd123 : mx_CD 123 := mx_CDj mx_pa4_1.2.2.2.2.2.2.1
theorem mx_cd47 : mx_CD 47 := mx_CDj mx_pa4_1.2.2.2.2.2.2.2.1
theorem mx_cd49 : mx_CD 49 := mx_CDj mx_pa4_1.2.2.2.2.2.2.2.2.1
theorem mx_cd50 : mx_CD 50 := mx_CDj mx_pa4_1.2.2.2.2.2.2.2.2.2.1
theorem mx_cd51 : mx_CD 51 := mx_CDj mx_pa4_1.2.2.2.2.2.2.2.2.2.2.1
theorem mx_cd124 : mx_CD 124 := mx_CDj mx_pa4_1.2.2.2.2.2.2.2.2.2.2.2.1
theorem mx_cd125 : mx_CD 125 := mx_CDj mx_pa4_1.2.2.2.2.2.2.2.2.2.2.2.2.1
theorem mx_cd12 : mx_CD 12 := mx_CDj mx_pa4_1.2.2.2.2.2.2.2.2.2.2.2.2.2.1
theorem mx_cd126 : mx_CD 126 := mx_CDj mx_pa4_1.2.2.2.2.2.2.2.2.2.2.2.2.2.2.1
theorem mx_cd13 : mx_CD 13 := mx_CDj mx_pa4_1.2.2.2.2.2.2.2.2.2.2.2.2.2.2.2.1
set_option maxRecDepth 100000 in
theorem mx_pa4_2 : mx_all [Cond.code (mx_y 14) (mx_by 14) (mx_nL 14) (mx_rt 14), Cond.code (mx_y 127) (mx_by 127) (mx_nL 127) (mx_rt 127), Cond.code (mx_y 15) (mx_by 15) (mx_nL 15) (mx_rt 15), Cond.code (mx_y 128) (mx_by 128) (mx_nL 128) (mx_rt 128), Cond.code (mx_y 129) (mx_by 129) (mx_nL 129) (mx_rt 129), Cond.code (mx_y 130) (mx_by 130) (mx_nL 130) (mx_rt 130), Cond.code (mx_y 160) (mx_by 160) (mx_nL 160) (mx_rt 160), Cond.code (mx_y 131) (mx_by 131) (mx_nL 131) (mx_rt 131), Cond.code (mx_y 159) (mx_by 159) (mx_nL 159) (mx_rt 159), Cond.code (mx_y 3) (mx_by 3) (mx_nL 3) (mx_rt 3), Cond.code (mx_y 4) (mx_by 4) (mx_nL 4) (mx_rt 4), Cond.code (mx_y 5) (mx_by 5) (mx_nL 5) (mx_rt 5), Cond.code (mx_y 6) (mx_by 6) (mx_nL 6) (mx_rt 6), Cond.code (mx_y 132) (mx_by 132) (mx_nL 132) (mx_rt 132), Cond.code (mx_y 2) (mx_by 2) (mx_nL 2) (mx_rt 2), Cond.code (mx_y 133) (mx_by 133) (mx_nL 133) (mx_rt 133)] := mx_pa (k := 4) (gs := [147, 4, 3, 5, 3, 3, 2, 3, 2, 3, 4, 3, 4, 6, 3, 3]) rfl
theorem mx_cd14 : mx_CD 14 := mx_CDj mx_pa4_2.1
theorem mx_cd127 : mx_CD 127 := mx_CDj mx_pa4_2.2.1
theorem mx_cd15 : mx_CD 15 := mx_CDj mx_pa4_2.2.2.1
theorem mx_cd128 : mx_CD 128 := mx_CDj mx_pa4_2.2.2.2.1
theorem mx_cd129 : mx_CD 129 := mx_CDj mx_pa4_2.2.2.2.2.1
theorem mx_cd130 : mx_CD 130 := mx_CDj mx_pa4_2.2.2.2.2.2.1
theorem mx_cd160 : mx_CD 160 := mx_CDj mx_pa4_2.2.2.2.2.2.2.1
theorem mx_cd131 : mx_CD 131 := mx_CDj mx_pa4_2.2.2.2.2.2.2.2.1
theorem mx_cd159 : mx_CD 159 := mx_CDj mx_pa4_2.2.2.2.2.2.2.2.2.1
theorem mx_cd3 : mx_CD 3 := mx_CDj mx_pa4_2.2.2.2.2.2.2.2.2.2.1
theorem mx_cd4 : mx_CD 4 := mx_CDj mx_pa4_2.2.2.2.2.2.2.2.2.2.2.1
theorem mx_cd5 : mx_CD 5 := mx_CDj mx_pa4_2.2.2.2.2.2.2.2.2.2.2.2.1
theorem mx_cd6 : mx_CD 6 := mx_CDj mx_pa4_2.2.2.2.2.2.2.2.2.2.2.2.2.1
theorem mx_cd132 : mx_CD 132 := mx_CDj mx_pa4_2.2.2.2.2.2.2.2.2.2.2.2.2.2.1
theorem mx_cd2 : mx_CD 2 := mx_CDj mx_pa4_2.2.2.2.2.2.2.2.2.2.2.2.2.2.2.1
theorem mx_cd133 : mx_CD 133 := mx_CDj mx_pa4_2.2.2.2.2.2.2.2.2.2.2.2.2.2.2.2.1
set_option maxRecDepth 100000 in
theorem mx_pa4_3 : mx_all [Cond.code (mx_y 134) (mx_by 134) (mx_nL 134) (mx_rt 134), Cond.code (mx_y 7) (mx_by 7) (mx_nL 7) (mx_rt 7), Cond.code (mx_y 8) (mx_by 8) (mx_nL 8) (mx_rt 8), Cond.code (mx_y 135) (mx_by 135) (mx_nL 135) (mx_rt 135), Cond.code (mx_y 9) (mx_by 9) (mx_nL 9) (mx_rt 9), Cond.code (mx_y 10) (mx_by 10) (mx_nL 10) (mx_rt 10)] := mx_pa (k := 4) (gs := [217, 3, 3, 3, 3, 4]) rfl
theorem mx_cd134 : mx_CD 134 := mx_CDj mx_pa4_3.1
theorem mx_cd7 : mx_CD 7 := mx_CDj mx_pa4_3.2.1
theorem mx_cd8 : mx_CD 8 := mx_CDj mx_pa4_3.2.2.1
theorem mx_cd135 : mx_CD 135 := mx_CDj mx_pa4_3.2.2.2.1
theorem mx_cd9 : mx_CD 9 := mx_CDj mx_pa4_3.2.2.2.2.1
theorem mx_cd10 : mx_CD 10 := mx_CDj mx_pa4_3.2.2.2.2.2.1
set_option maxRecDepth 100000 in
theorem mx_pa5_0 : mx_all [Cond.code (mx_y 136) (mx_by 136) (mx_nL 136) (mx_rt 136), Cond.code (mx_y 161) (mx_by 161) (mx_nL 161) (mx_rt 161), Cond.code (mx_y 73) (mx_by 73) (mx_nL 73) (mx_rt 73), Cond.code (mx_y 74) (mx_by 74) (mx_nL 74) (mx_rt 74), Cond.code (mx_y 79) (mx_by 79) (mx_nL 79) (mx_rt 79), Cond.code (mx_y 78) (mx_by 78) (mx_nL 78) (mx_rt 78), Cond.code (mx_y 137) (mx_by 137) (mx_nL 137) (mx_rt 137), Cond.code (mx_y 81) (mx_by 81) (mx_nL 81) (mx_rt 81), Cond.code (mx_y 80) (mx_by 80) (mx_nL 80) (mx_rt 80), Cond.code (mx_y 82) (mx_by 82) (mx_nL 82) (mx_rt 82), Cond.code (mx_y 308) (mx_by 308) (mx_nL 308) (mx_rt 308), Cond.code (mx_y 138) (mx_by 138) (mx_nL 138) (mx_rt 138), Cond.code (mx_y 83) (mx_by 83) (mx_nL 83) (mx_rt 83), Cond.code (mx_y 139) (mx_by 139) (mx_nL 139) (mx_rt 139), Cond.code (mx_y 53) (mx_by 53) (mx_nL 53) (mx_rt 53), Cond.code (mx_y 140) (mx_by 140) (mx_nL 140) (mx_rt 140)] := mx_pa (k := 5) (gs := [2, 2, 3, 4, 3, 2, 12, 3, 3, 2, 2, 9, 3, 6, 3, 3]) rfl
theorem mx_cd136 : mx_CD 136 := mx_CDj mx_pa5_0.1
theorem mx_cd161 : mx_CD 161 := mx_CDj mx_pa5_0.2.1
theorem mx_cd73 : mx_CD 73 := mx_CDj mx_pa5_0.2.2.1
theorem mx_cd74 : mx_CD 74 := mx_CDj mx_pa5_0.2.2.2.1
theorem mx_cd79 : mx_CD 79 := mx_CDj mx_pa5_0.2.2.2.2.1
theorem mx_cd78 : mx_CD 78 := mx_CDj mx_pa5_0.2.2.2.2.2.1
theorem mx_cd137 : mx_CD 137 := mx_CDj mx_pa5_0.2.2.2.2.2.2.1
theorem mx_cd81 : mx_CD 81 := mx_CDj mx_pa5_0.2.2.2.2.2.2.2.1
theorem mx_cd80 : mx_CD 80 := mx_CDj mx_pa5_0.2.2.2.2.2.2.2.2.1
theorem mx_cd82 : mx_CD 82 := mx_CDj mx_pa5_0.2.2.2.2.2.2.2.2.2.1
theorem mx_cd308 : mx_CD 308 := mx_CDj mx_pa5_0.2.2.2.2.2.2.2.2.2.2.1
theorem mx_cd138 : mx_CD 138 := mx_CDj mx_pa5_0.2.2.2.2.2.2.2.2.2.2.2.1
theorem mx_cd83 : mx_CD 83 := mx_CDj mx_pa5_0.2.2.2.2.2.2.2.2.2.2.2.2.1
theorem mx_cd139 : mx_CD 139 := mx_CDj mx_pa5_0.2.2.2.2.2.2.2.2.2.2.2.2.2.1
theorem mx_cd53 : mx_CD 53 := mx_CDj mx_pa5_0.2.2.2.2.2.2.2.2.2.2.2.2.2.2.1
theorem mx_cd140 : mx_CD 140 := mx_CDj mx_pa5_0.2.2.2.2.2.2.2.2.2.2.2.2.2.2.2.1
set_option maxRecDepth 100000 in
theorem mx_pa5_1 : mx_all [Cond.code (mx_y 55) (mx_by 55) (mx_nL 55) (mx_rt 55), Cond.code (mx_y 54) (mx_by 54) (mx_nL 54) (mx_rt 54), Cond.code (mx_y 56) (mx_by 56) (mx_nL 56) (mx_rt 56), Cond.code (mx_y 309) (mx_by 309) (mx_nL 309) (mx_rt 309), Cond.code (mx_y 57) (mx_by 57) (mx_nL 57) (mx_rt 57), Cond.code (mx_y 141) (mx_by 141) (mx_nL 141) (mx_rt 141), Cond.code (mx_y 142) (mx_by 142) (mx_nL 142) (mx_rt 142), Cond.code (mx_y 64) (mx_by 64) (mx_nL 64) (mx_rt 64), Cond.code (mx_y 143) (mx_by 143) (mx_nL 143) (mx_rt 143), Cond.code (mx_y 171) (mx_by 171) (mx_nL 171) (mx_rt 171), Cond.code (mx_y 144) (mx_by 144) (mx_nL 144) (mx_rt 144), Cond.code (mx_y 19) (mx_by 19) (mx_nL 19) (mx_rt 19), Cond.code (mx_y 145) (mx_by 145) (mx_nL 145) (mx_rt 145), Cond.code (mx_y 20) (mx_by 20) (mx_nL 20) (mx_rt 20), Cond.code (mx_y 146) (mx_by 146) (mx_nL 146) (mx_rt 146), Cond.code (mx_y 68) (mx_by 68) (mx_nL 68) (mx_rt 68)] := mx_pa (k := 5) (gs := [81, 3, 4, 2, 6, 3, 3, 4, 5, 3, 3, 3, 4, 3, 3, 3]) rfl
theorem mx_cd55 : mx_CD 55 := mx_CDj mx_pa5_1.1
theorem mx_cd54 : mx_CD 54 := mx_CDj mx_pa5_1.2.1
theorem mx_cd56 : mx_CD 56 := mx_CDj mx_pa5_1.2.2.1
theorem mx_cd309 : mx_CD 309 := mx_CDj mx_pa5_1.2.2.2.1
theorem mx_cd57 : mx_CD 57 := mx_CDj mx_pa5_1.2.2.2.2.1
theorem mx_cd141 : mx_CD 141 := mx_CDj mx_pa5_1.2.2.2.2.2.1
theorem mx_cd142 : mx_CD 142 := mx_CDj mx_pa5_1.2.2.2.2.2.2.1
theorem mx_cd64 : mx_CD 64 := mx_CDj mx_pa5_1.2.2.2.2.2.2.2.1
theorem mx_cd143 : mx_CD 143 := mx_CDj mx_pa5_1.2.2.2.2.2.2.2.2.1
theorem mx_cd171 : mx_CD 171 := mx_CDj mx_pa5_1.2.2.2.2.2.2.2.2.2.1
theorem mx_cd144 : mx_CD 144 := mx_CDj mx_pa5_1.2.2.2.2.2.2.2.2.2.2.1
theorem mx_cd19 : mx_CD 19 := mx_CDj mx_pa5_1.2.2.2.2.2.2.2.2.2.2.2.1
theorem mx_cd145 : mx_CD 145 := mx_CDj mx_pa5_1.2.2.2.2.2.2.2.2.2.2.2.2.1
theorem mx_cd20 : mx_CD 20 := mx_CDj mx_pa5_1.2.2.2.2.2.2.2.2.2.2.2.2.2.1
theorem mx_cd146 : mx_CD 146 := mx_CDj mx_pa5_1.2.2.2.2.2.2.2.2.2.2.2.2.2.2.1
theorem mx_cd68 : mx_CD 68 := mx_CDj mx_pa5_1.2.2.2.2.2.2.2.2.2.2.2.2.2.2.2.1
set_option maxRecDepth 100000 in
theorem mx_pa5_2 : mx_all [Cond.code (mx_y 147) (mx_by 147) (mx_nL 147) (mx_rt 147), Cond.code (mx_y 162) (mx_by 162) (mx_nL 162) (mx_rt 162), Cond.code (mx_y 148) (mx_by 148) (mx_nL 148) (mx_rt 148), Cond.code (mx_y 163) (mx_by 163) (mx_nL 163) (mx_rt 163), Cond.code (mx_y 318) (mx_by 318) (mx_nL 318) (mx_rt 318), Cond.code (mx_y 40) (mx_by 40) (mx_nL 40) (mx_rt 40), Cond.code (mx_y 41) (mx_by 41) (mx_nL 41) (mx_rt 41), Cond.code (mx_y 39) (mx_by 39) (mx_nL 39) (mx_rt 39), Cond.code (mx_y 149) (mx_by 149) (mx_nL 149) (mx_rt 149), Cond.code (mx_y 150) (mx_by 150) (mx_nL 150) (mx_rt 150), Cond.code (mx_y 70) (mx_by 70) (mx_nL 70) (mx_rt 70), Cond.code (mx_y 151) (mx_by 151) (mx_nL 151) (mx_rt 151), Cond.code (mx_y 71) (mx_by 71) (mx_nL 71) (mx_rt 71), Cond.code (mx_y 316) (mx_by 316) (mx_nL 316) (mx_rt 316), Cond.code (mx_y 152) (mx_by 152) (mx_nL 152) (mx_rt 152), Cond.code (mx_y 72) (mx_by 72) (mx_nL 72) (mx_rt 72)] := mx_pa (k := 5) (gs := [152, 2, 3, 3, 3, 3, 7, 3, 4, 3, 3, 3, 3, 2, 3, 3]) rfl
theorem mx_cd147 : mx_CD 147 := mx_CDj mx_pa5_2.1
theorem mx_cd162 : mx_CD 162 := mx_CDj mx_pa5_2.2.1
theorem mx_cd148 : mx_CD 148 := mx_CDj mx_pa5_2.2.2.1
theorem mx_cd163 : mx_CD 163 := mx_CDj mx_pa5_2.2.2.2.1
theorem mx_cd318 : mx_CD 318 := mx_CDj mx_pa5_2.2.2.2.2.1
theorem mx_cd40 : mx_CD 40 := mx_CDj mx_pa5_2.2.2.2.2.2.1
theorem mx_cd41 : mx_CD 41 := mx_CDj mx_pa5_2.2.2.2.2.2.2.1
theorem mx_cd39 : mx_CD 39 := mx_CDj mx_pa5_2.2.2.2.2.2.2.2.1
theorem mx_cd149 : mx_CD 149 := mx_CDj mx_pa5_2.2.2.2.2.2.2.2.2.1
theorem mx_cd150 : mx_CD 150 := mx_CDj mx_pa5_2.2.2.2.2.2.2.2.2.2.1
theorem mx_cd70 : mx_CD 70 := mx_CDj mx_pa5_2.2.2.2.2.2.2.2.2.2.2.1
theorem mx_cd151 : mx_CD 151 := mx_CDj mx_pa5_2.2.2.2.2.2.2.2.2.2.2.2.1
theorem mx_cd71 : mx_CD 71 := mx_CDj mx_pa5_2.2.2.2.2.2.2.2.2.2.2.2.2.1
theorem mx_cd316 : mx_CD 316 := mx_CDj mx_pa5_2.2.2.2.2.2.2.2.2.2.2.2.2.2.1
theorem mx_cd152 : mx_CD 152 := mx_CDj mx_pa5_2.2.2.2.2.2.2.2.2.2.2.2.2.2.2.1
theorem mx_cd72 : mx_CD 72 := mx_CDj mx_pa5_2.2.2.2.2.2.2.2.2.2.2.2.2.2.2.2.1
set_option maxRecDepth 100000 in
theorem mx_pa5_3 : mx_all [Cond.code (mx_y 76) (mx_by 76) (mx_nL 76) (mx_rt 76), Cond.code (mx_y 77) (mx_by 77) (mx_nL 77) (mx_rt 77), Cond.code (mx_y 153) (mx_by 153) (mx_nL 153) (mx_rt 153), Cond.code (mx_y 154) (mx_by 154) (mx_nL 154) (mx_rt 154), Cond.code (mx_y 75) (mx_by 75) (mx_nL 75) (mx_rt 75)] := mx_pa (k := 5) (gs := [219, 2, 3, 3, 3]) rfl
theorem mx_cd76 : mx_CD 76 := mx_CDj mx_pa5_3.1
theorem mx_cd77 : mx_CD 77 := mx_CDj mx_pa5_3.2.1
theorem mx_cd153 : mx_CD 153 := mx_CDj mx_pa5_3.2.2.1
theorem mx_cd154 : mx_CD 154 := mx_CDj mx_pa5_3.2.2.2.1
theorem mx_cd75 : mx_CD 75 := mx_CDj mx_pa5_3.2.2.2.2.1
set_option maxRecDepth 100000 in
theorem mx_pa6_0 : mx_all [Cond.code (mx_y 155) (mx_by 155) (mx_nL 155) (mx_rt 155), Cond.code (mx_y 38) (mx_by 38) (mx_nL 38) (mx_rt 38), Cond.code (mx_y 156) (mx_by 156) (mx_nL 156) (mx_rt 156), Cond.code (mx_y 172) (mx_by 172) (mx_nL 172) (mx_rt 172)] := mx_pa (k := 6) (gs := [1, 2, 3, 4]) rfl
theorem mx_cd155 : mx_CD 155 := mx_CDj mx_pa6_0.1
theorem mx_cd38 : mx_CD 38 := mx_CDj mx_pa6_0.2.1
theorem mx_cd156 : mx_CD 156 := mx_CDj mx_pa6_0.2.2.1
theorem mx_cd172 : mx_CD 172 := mx_CDj mx_pa6_0.2.2.2.1
set_option maxRecDepth 100000 in
theorem mx_pa7_0 : mx_all [Cond.code (mx_y 184) (mx_by 184) (mx_nL 184) (mx_rt 184), Cond.code (mx_y 173) (mx_by 173) (mx_nL 173) (mx_rt 173), Cond.code (mx_y 194) (mx_by 194) (mx_nL 194) (mx_rt 194), Cond.code (mx_y 192) (mx_by 192) (mx_nL 192) (mx_rt 192), Cond.code (mx_y 182) (mx_by 182) (mx_nL 182) (mx_rt 182), Cond.code (mx_y 185) (mx_by 185) (mx_nL 185) (mx_rt 185), Cond.code (mx_y 186) (mx_by 186) (mx_nL 186) (mx_rt 186), Cond.code (mx_y 187) (mx_by 187) (mx_nL 187) (mx_rt 187), Cond.code (mx_y 188) (mx_by 188) (mx_nL 188) (mx_rt 188), Cond.code (mx_y 191) (mx_by 191) (mx_nL 191) (mx_rt 191), Cond.code (mx_y 190) (mx_by 190) (mx_nL 190) (mx_rt 190), Cond.code (mx_y 189) (mx_by 189) (mx_nL 189) (mx_rt 189), Cond.code (mx_y 178) (mx_by 178) (mx_nL 178) (mx_rt 178), Cond.code (mx_y 180) (mx_by 180) (mx_nL 180) (mx_rt 180), Cond.code (mx_y 179) (mx_by 179) (mx_nL 179) (mx_rt 179), Cond.code (mx_y 181) (mx_by 181) (mx_nL 181) (mx_rt 181)] := mx_pa (k := 7) (gs := [62, 2, 3, 3, 3, 3, 3, 3, 3, 3, 3, 3, 3, 3, 2, 3]) rfl
theorem mx_cd184 : mx_CD 184 := mx_CDj mx_pa7_0.1
theorem mx_cd173 : mx_CD 173 := mx_CDj mx_pa7_0.2.1
theorem mx_cd194 : mx_CD 194 := mx_CDj mx_pa7_0.2.2.1
theorem mx_cd192 : mx_CD 192 := mx_CDj mx_pa7_0.2.2.2.1
theorem mx_cd182 : mx_CD 182 := mx_CDj mx_pa7_0.2.2.2.2.1
theorem mx_cd185 : mx_CD 185 := mx_CDj mx_pa7_0.2.2.2.2.2.1
theorem mx_cd186 : mx_CD 186 := mx_CDj mx_pa7_0.2.2.2.2.2.2.1
theorem mx_cd187 : mx_CD 187 := mx_CDj mx_pa7_0.2.2.2.2.2.2.2.1
theorem mx_cd188 : mx_CD 188 := mx_CDj mx_pa7_0.2.2.2.2.2.2.2.2.1
theorem mx_cd191 : mx_CD 191 := mx_CDj mx_pa7_0.2.2.2.2.2.2.2.2.2.1
theorem mx_cd190 : mx_CD 190 := mx_CDj mx_pa7_0.2.2.2.2.2.2.2.2.2.2.1
theorem mx_cd189 : mx_CD 189 := mx_CDj mx_pa7_0.2.2.2.2.2.2.2.2.2.2.2.1
theorem mx_cd178 : mx_CD 178 := mx_CDj mx_pa7_0.2.2.2.2.2.2.2.2.2.2.2.2.1
theorem mx_cd180 : mx_CD 180 := mx_CDj mx_pa7_0.2.2.2.2.2.2.2.2.2.2.2.2.2.1
theorem mx_cd179 : mx_CD 179 := mx_CDj mx_pa7_0.2.2.2.2.2.2.2.2.2.2.2.2.2.2.1
theorem mx_cd181 : mx_CD 181 := mx_CDj mx_pa7_0.2.2.2.2.2.2.2.2.2.2.2.2.2.2.2.1
set_option maxRecDepth 100000 in
theorem mx_pa7_1 : mx_all [Cond.code (mx_y 193) (mx_by 193) (mx_nL 193) (mx_rt 193), Cond.code (mx_y 196) (mx_by 196) (mx_nL 196) (mx_rt 196), Cond.code (mx_y 177) (mx_by 177) (mx_nL 177) (mx_rt 177), Cond.code (mx_y 183) (mx_by 183) (mx_nL 183) (mx_rt 183), Cond.code (mx_y 195) (mx_by 195) (mx_nL 195) (mx_rt 195), Cond.code (mx_y 197) (mx_by 197) (mx_nL 197) (mx_rt 197), Cond.code (mx_y 201) (mx_by 201) (mx_nL 201) (mx_rt 201), Cond.code (mx_y 198) (mx_by 198) (mx_nL 198) (mx_rt 198), Cond.code (mx_y 200) (mx_by 200) (mx_nL 200) (mx_rt 200), Cond.code (mx_y 199) (mx_by 199) (mx_nL 199) (mx_rt 199), Cond.code (mx_y 202) (mx_by 202) (mx_nL 202) (mx_rt 202), Cond.code (mx_y 203) (mx_by 203) (mx_nL 203) (mx_rt 203), Cond.code (mx_y 174) (mx_by 174) (mx_nL 174) (mx_rt 174), Cond.code (mx_y 204) (mx_by 204) (mx_nL 204) (mx_rt 204), Cond.code (mx_y 205) (mx_by 205) (mx_nL 205) (mx_rt 205), Cond.code (mx_y 206) (mx_by 206) (mx_nL 206) (mx_rt 206)] := mx_pa (k := 7) (gs := [124, 3, 3, 4, 3, 3, 3, 3, 3, 3, 3, 3, 2, 3, 3, 3]) rfl
theorem mx_cd193 : mx_CD 193 := mx_CDj mx_pa7_1.1
theorem mx_cd196 : mx_CD 196 := mx_CDj mx_pa7_1.2.1
theorem mx_cd177 : mx_CD 177 := mx_CDj mx_pa7_1.2.2.1
theorem mx_cd183 : mx_CD 183 := mx_CDj mx_pa7_1.2.2.2.1
theorem mx_cd195 : mx_CD 195 := mx_CDj mx_pa7_1.2.2.2.2.1
theorem mx_cd197 : mx_CD 197 := mx_CDj mx_pa7_1.2.2.2.2.2.1
theorem mx_cd201 : mx_CD 201 := mx_CDj mx_pa7_1.2.2.2.2.2.2.1
theorem mx_cd198 : mx_CD 198 := mx_CDj mx_pa7_1.2.2.2.2.2.2.2.1
theorem mx_cd200 : mx_CD 200 := mx_CDj mx_pa7_1.2.2.2.2.2.2.2.2.1
theorem mx_cd199 : mx_CD 199 := mx_CDj mx_pa7_1.2.2.2.2.2.2.2.2.2.1
theorem mx_cd202 : mx_CD 202 := mx_CDj mx_pa7_1.2.2.2.2.2.2.2.2.2.2.1
theorem mx_cd203 : mx_CD 203 := mx_CDj mx_pa7_1.2.2.2.2.2.2.2.2.2.2.2.1
theorem mx_cd174 : mx_CD 174 := mx_CDj mx_pa7_1.2.2.2.2.2.2.2.2.2.2.2.2.1
theorem mx_cd204 : mx_CD 204 := mx_CDj mx_pa7_1.2.2.2.2.2.2.2.2.2.2.2.2.2.1
theorem mx_cd205 : mx_CD 205 := mx_CDj mx_pa7_1.2.2.2.2.2.2.2.2.2.2.2.2.2.2.1
theorem mx_cd206 : mx_CD 206 := mx_CDj mx_pa7_1.2.2.2.2.2.2.2.2.2.2.2.2.2.2.2.1
set_option maxRecDepth 100000 in
theorem mx_pa7_2 : mx_all [Cond.code (mx_y 175) (mx_by 175) (mx_nL 175) (mx_rt 175), Cond.code (mx_y 216) (mx_by 216) (mx_nL 216) (mx_rt 216), Cond.code (mx_y 215) (mx_by 215) (mx_nL 215) (mx_rt 215), Cond.code (mx_y 208) (mx_by 208) (mx_nL 208) (mx_rt 208), Cond.code (mx_y 207) (mx_by 207) (mx_nL 207) (mx_rt 207), Cond.code (mx_y 213) (mx_by 213) (mx_nL 213) (mx_rt 213), Cond.code (mx_y 212) (mx_by 212) (mx_nL 212) (mx_rt 212), Cond.code (mx_y 209) (mx_by 209) (mx_nL 209) (mx_rt 209), Cond.code (mx_y 211) (mx_by 211) (mx_nL 211) (mx_rt 211), Cond.code (mx_y 210) (mx_by 210) (mx_nL 210) (mx_rt 210), Cond.code (mx_y 214) (mx_by 214) (mx_nL 214) (mx_rt 214), Cond.code (mx_y 217) (mx_by 217) (mx_nL 217) (mx_rt 217), Cond.code (mx_y 221) (mx_by 221) (mx_nL 221) (mx_rt 221), Cond.code (mx_y 220) (mx_by 220) (mx_nL 220) (mx_rt 220)] := mx_pa (k := 7) (gs := [187, 3, 2, 3, 2, 3, 3, 3, 2, 3, 3, 3, 4, 3]) rfl
theorem mx_cd175 : mx_CD 175 := mx_CDj mx_pa7_2.1
theorem mx_cd216 : mx_CD 216 := mx_CDj mx_pa7_2.2.1
theorem mx_cd215 : mx_CD 215 := mx_CDj mx_pa7_2.2.2.1
theorem mx_cd208 : mx_CD 208 := mx_CDj mx_pa7_2.2.2.2.1
theorem mx_cd207 : mx_CD 207 := mx_CDj mx_pa7_2.2.2.2.2.1
theorem mx_cd213 : mx_CD 213 := mx_CDj mx_pa7_2.2.2.2.2.2.1
theorem mx_cd212 : mx_CD 212 := mx_CDj mx_pa7_2.2.2.2.2.2.2.1
theorem mx_cd209 : mx_CD 209 := mx_CDj mx_pa7_2.2.2.2.2.2.2.2.1
theorem mx_cd211 : mx_CD 211 := mx_CDj mx_pa7_2.2.2.2.2.2.2.2.2.1
theorem mx_cd210 : mx_CD 210 := mx_CDj mx_pa7_2.2.2.2.2.2.2.2.2.2.1
theorem mx_cd214 : mx_CD 214 := mx_CDj mx_pa7_2.2.2.2.2.2.2.2.2.2.2.1
theorem mx_cd217 : mx_CD 217 := mx_CDj mx_pa7_2.2.2.2.2.2.2.2.2.2.2.2.1
theorem mx_cd221 : mx_CD 221 := mx_CDj mx_pa7_2.2.2.2.2.2.2.2.2.2.2.2.2.1
theorem mx_cd220 : mx_CD 220 := mx_CDj mx_pa7_2.2.2.2.2.2.2.2.2.2.2.2.2.2.1
set_option maxRecDepth 100000 in
theorem mx_pa8_0 : mx_all [Cond.code (mx_y 218) (mx_by 218) (mx_nL 218) (mx_rt 218), Cond.code (mx_y 219) (mx_by 219) (mx_nL 219) (mx_rt 219), Cond.code (mx_y 222) (mx_by 222) (mx_nL 222) (mx_rt 222), Cond.code (mx_y 223) (mx_by 223) (mx_nL 223) (mx_rt 223), Cond.code (mx_y 224) (mx_by 224) (mx_nL 224) (mx_rt 224), Cond.code (mx_y 226) (mx_by 226) (mx_nL 226) (mx_rt 226), Cond.code (mx_y 225) (mx_by 225) (mx_nL 225) (mx_rt 225), Cond.code (mx_y 231) (mx_by 231) (mx_nL 231) (mx_rt 231), Cond.code (mx_y 230) (mx_by 230) (mx_nL 230) (mx_rt 230), Cond.code (mx_y 229) (mx_by 229) (mx_nL 229) (mx_rt 229), Cond.code (mx_y 227) (mx_by 227) (mx_nL 227) (mx_rt 227), Cond.code (mx_y 228) (mx_by 228) (mx_nL 228) (mx_rt 228), Cond.code (mx_y 232) (mx_by 232) (mx_nL 232) (mx_rt 232), Cond.code (mx_y 234) (mx_by 234) (mx_nL 234) (mx_rt 234), Cond.code (mx_y 233) (mx_by 233) (mx_nL 233) (mx_rt 233), Cond.code (mx_y 238) (mx_by 238) (mx_nL 238) (mx_rt 238)] := mx_pa (k := 8) (gs := [1, 3, 3, 3, 3, 3, 3, 3, 3, 3, 3, 3, 3, 3, 3, 3]) rfl
theorem mx_cd218 : mx_CD 218 := mx_CDj mx_pa8_0.1
theorem mx_cd219 : mx_CD 219 := mx_CDj mx_pa8_0.2.1
theorem mx_cd222 : mx_CD 222 := mx_CDj mx_pa8_0.2.2.1
theorem mx_cd223 : mx_CD 223 := mx_CDj mx_pa8_0.2.2.2.1
theorem mx_cd224 : mx_CD 224 := mx_CDj mx_pa8_0.2.2.2.2.1
theorem mx_cd226 : mx_CD 226 := mx_CDj mx_pa8_0.2.2.2.2.2.1
theorem mx_cd225 : mx_CD 225 := mx_CDj mx_pa8_0.2.2.2.2.2.2.1
theorem mx_cd231 : mx_CD 231 := mx_CDj mx_pa8_0.2.2.2.2.2.2.2.1
theorem mx_cd230 : mx_CD 230 := mx_CDj mx_pa8_0.2.2.2.2.2.2.2.2.1
theorem mx_cd229 : mx_CD 229 := mx_CDj mx_pa8_0.2.2.2.2.2.2.2.2.2.1
theorem mx_cd227 : mx_CD 227 := mx_CDj mx_pa8_0.2.2.2.2.2.2.2.2.2.2.1
theorem mx_cd228 : mx_CD 228 := mx_CDj mx_pa8_0.2.2.2.2.2.2.2.2.2.2.2.1
theorem mx_cd232 : mx_CD 232 := mx_CDj mx_pa8_0.2.2.2.2.2.2.2.2.2.2.2.2.1
theorem mx_cd234 : mx_CD 234 := mx_CDj mx_pa8_0.2.2.2.2.2.2.2.2.2.2.2.2.2.1
theorem mx_cd233 : mx_CD 233 := mx_CDj mx_pa8_0.2.2.2.2.2.2.2.2.2.2.2.2.2.2.1
theorem mx_cd238 : mx_CD 238 := mx_CDj mx_pa8_0.2.2.2.2.2.2.2.2.2.2.2.2.2.2.2.1
set_option maxRecDepth 100000 in
theorem mx_pa8_1 : mx_all [Cond.code (mx_y 237) (mx_by 237) (mx_nL 237) (mx_rt 237), Cond.code (mx_y 236) (mx_by 236) (mx_nL 236) (mx_rt 236), Cond.code (mx_y 235) (mx_by 235) (mx_nL 235) (mx_rt 235), Cond.code (mx_y 239) (mx_by 239) (mx_nL 239) (mx_rt 239), Cond.code (mx_y 240) (mx_by 240) (mx_nL 240) (mx_rt 240), Cond.code (mx_y 242) (mx_by 242) (mx_nL 242) (mx_rt 242), Cond.code (mx_y 241) (mx_by 241) (mx_nL 241) (mx_rt 241), Cond.code (mx_y 246) (mx_by 246) (mx_nL 246) (mx_rt 246), Cond.code (mx_y 245) (mx_by 245) (mx_nL 245) (mx_rt 245), Cond.code (mx_y 243) (mx_by 243) (mx_nL 243) (mx_rt 243), Cond.code (mx_y 176) (mx_by 176) (mx_nL 176) (mx_rt 176), Cond.code (mx_y 244) (mx_by 244) (mx_nL 244) (mx_rt 244), Cond.code (mx_y 247) (mx_by 247) (mx_nL 247) (mx_rt 247), Cond.code (mx_y 248) (mx_by 248) (mx_nL 248) (mx_rt 248), Cond.code (mx_y 249) (mx_by 249) (mx_nL 249) (mx_rt 249), Cond.code (mx_y 252) (mx_by 252) (mx_nL 252) (mx_rt 252)] := mx_pa (k := 8) (gs := [65, 3, 3, 3, 3, 3, 3, 3, 3, 3, 2, 3, 3, 3, 3, 3]) rfl
theorem mx_cd237 : mx_CD 237 := mx_CDj mx_pa8_1.1
theorem mx_cd236 : mx_CD 236 := mx_CDj mx_pa8_1.2.1
theorem mx_cd235 : mx_CD 235 := mx_CDj mx_pa8_1.2.2.1
theorem mx_cd239 : mx_CD 239 := mx_CDj mx_pa8_1.2.2.2.1
theorem mx_cd240 : mx_CD 240 := mx_CDj mx_pa8_1.2.2.2.2.1
theorem mx_cd242 : mx_CD 242 := mx_CDj mx_pa8_1.2.2.2.2.2.1
theorem mx_cd241 : mx_CD 241 := mx_CDj mx_pa8_1.2.2.2.2.2.2.1
theorem mx_cd246 : mx_CD 246 := mx_CDj mx_pa8_1.2.2.2.2.2.2.2.1
theorem mx_cd245 : mx_CD 245 := mx_CDj mx_pa8_1.2.2.2.2.2.2.2.2.1
theorem mx_cd243 : mx_CD 243 := mx_CDj mx_pa8_1.2.2.2.2.2.2.2.2.2.1
theorem mx_cd176 : mx_CD 176 := mx_CDj mx_pa8_1.2.2.2.2.2.2.2.2.2.2.1
theorem mx_cd244 : mx_CD 244 := mx_CDj mx_pa8_1.2.2.2.2.2.2.2.2.2.2.2.1
theorem mx_cd247 : mx_CD 247 := mx_CDj mx_pa8_1.2.2.2.2.2.2.2.2.2.2.2.2.1
theorem mx_cd248 : mx_CD 248 := mx_CDj mx_pa8_1.2.2.2.2.2.2.2.2.2.2.2.2.2.1
theorem mx_cd249 : mx_CD 249 := mx_CDj mx_pa8_1.2.2.2.2.2.2.2.2.2.2.2.2.2.2.1
theorem mx_cd252 : mx_CD 252 := mx_CDj mx_pa8_1.2.2.2.2.2.2.2.2.2.2.2.2.2.2.2.1
set_option maxRecDepth 100000 in
theorem mx_pa8_2 : mx_all [Cond.code (mx_y 251) (mx_by 251) (mx_nL 251) (mx_rt 251), Cond.code (mx_y 250) (mx_by 250) (mx_nL 250) (mx_rt 250), Cond.code (mx_y 253) (mx_by 253) (mx_nL 253) (mx_rt 253), Cond.code (mx_y 254) (mx_by 254) (mx_nL 254) (mx_rt 254), Cond.code (mx_y 256) (mx_by 256) (mx_nL 256) (mx_rt 256), Cond.code (mx_y 255) (mx_by 255) (mx_nL 255) (mx_rt 255), Cond.code (mx_y 259) (mx_by 259) (mx_nL 259) (mx_rt 259), Cond.code (mx_y 257) (mx_by 257) (mx_nL 257) (mx_rt 257), Cond.code (mx_y 258) (mx_by 258) (mx_nL 258) (mx_rt 258), Cond.code (mx_y 260) (mx_by 260) (mx_nL 260) (mx_rt 260), Cond.code (mx_y 261) (mx_by 261) (mx_nL 261) (mx_rt 261), Cond.code (mx_y 262) (mx_by 262) (mx_nL 262) (mx_rt 262), Cond.code (mx_y 263) (mx_by 263) (mx_nL 263) (mx_rt 263), Cond.code (mx_y 266) (mx_by 266) (mx_nL 266) (mx_rt 266), Cond.code (mx_y 300) (mx_by 300) (mx_nL 300) (mx_rt 300), Cond.code (mx_y 264) (mx_by 264) (mx_nL 264) (mx_rt 264)] := mx_pa (k := 8) (gs := [128, 3, 3, 3, 3, 2, 3, 3, 3, 3, 3, 3, 3, 3, 2, 3]) rfl
theorem mx_cd251 : mx_CD 251 := mx_CDj mx_pa8_2.1
theorem mx_cd250 : mx_CD 250 := mx_CDj mx_pa8_2.2.1
theorem mx_cd253 : mx_CD 253 := mx_CDj mx_pa8_2.2.2.1
theorem mx_cd254 : mx_CD 254 := mx_CDj mx_pa8_2.2.2.2.1
theorem mx_cd256 : mx_CD 256 := mx_CDj mx_pa8_2.2.2.2.2.1
theorem mx_cd255 : mx_CD 255 := mx_CDj mx_pa8_2.2.2.2.2.2.1
theorem mx_cd259 : mx_CD 259 := mx_CDj mx_pa8_2.2.2.2.2.2.2.1
theorem mx_cd257 : mx_CD 257 := mx_CDj mx_pa8_2.2.2.2.2.2.2.2.1
theorem mx_cd258 : mx_CD 258 := mx_CDj mx_pa8_2.2.2.2.2.2.2.2.2.1
theorem mx_cd260 : mx_CD 260 := mx_CDj mx_pa8_2.2.2.2.2.2.2.2.2.2.1
theorem mx_cd261 : mx_CD 261 := mx_CDj mx_pa8_2.2.2.2.2.2.2.2.2.2.2.1
theorem mx_cd262 : mx_CD 262 := mx_CDj mx_pa8_2.2.2.2.2.2.2.2.2.2.2.2.1
theorem mx_cd263 : mx_CD 263 := mx_CDj mx_pa8_2.2.2.2.2.2.2.2.2.2.2.2.2.1
theorem mx_cd266 : mx_CD 266 := mx_CDj mx_pa8_2.2.2.2.2.2.2.2.2.2.2.2.2.2.1
theorem mx_cd300 : mx_CD 300 := mx_CDj mx_pa8_2.2.2.2.2.2.2.2.2.2.2.2.2.2.2.1
theorem mx_cd264 : mx_CD 264 := mx_CDj mx_pa8_2.2.2.2.2.2.2.2.2.2.2.2.2.2.2.2.1
set_option maxRecDepth 100000 in
theorem mx_pa8_3 : mx_all [Cond.code (mx_y 265) (mx_by 265) (mx_nL 265) (mx_rt 265), Cond.code (mx_y 271) (mx_by 271) (mx_nL 271) (mx_rt 271), Cond.code (mx_y 270) (mx_by 270) (mx_nL 270) (mx_rt 270), Cond.code (mx_y 269) (mx_by 269) (mx_nL 269) (mx_rt 269), Cond.code (mx_y 267) (mx_by 267) (mx_nL 267) (mx_rt 267), Cond.code (mx_y 268) (mx_by 268) (mx_nL 268) (mx_rt 268), Cond.code (mx_y 272) (mx_by 272) (mx_nL 272) (mx_rt 272), Cond.code (mx_y 273) (mx_by 273) (mx_nL 273) (mx_rt 273), Cond.code (mx_y 274) (mx_by 274) (mx_nL 274) (mx_rt 274), Cond.code (mx_y 277) (mx_by 277) (mx_nL 277) (mx_rt 277), Cond.code (mx_y 275) (mx_by 275) (mx_nL 275) (mx_rt 275), Cond.code (mx_y 276) (mx_by 276) (mx_nL 276) (mx_rt 276)] := mx_pa (k := 8) (gs := [189, 4, 3, 3, 3, 3, 6, 3, 3, 3, 3, 3]) rfl
theorem mx_cd265 : mx_CD 265 := mx_CDj mx_pa8_3.1
theorem mx_cd271 : mx_CD 271 := mx_CDj mx_pa8_3.2.1
theorem mx_cd270 : mx_CD 270 := mx_CDj mx_pa8_3.2.2.1
theorem mx_cd269 : mx_CD 269 := mx_CDj mx_pa8_3.2.2.2.1
theorem mx_cd267 : mx_CD 267 := mx_CDj mx_pa8_3.2.2.2.2.1
theorem mx_cd268 : mx_CD 268 := mx_CDj mx_pa8_3.2.2.2.2.2.1
theorem mx_cd272 : mx_CD 272 := mx_CDj mx_pa8_3.2.2.2.2.2.2.1
theorem mx_cd273 : mx_CD 273 := mx_CDj mx_pa8_3.2.2.2.2.2.2.2.1
theorem mx_cd274 : mx_CD 274 := mx_CDj mx_pa8_3.2.2.2.2.2.2.2.2.1
theorem mx_cd277 : mx_CD 277 := mx_CDj mx_pa8_3.2.2.2.2.2.2.2.2.2.1
theorem mx_cd275 : mx_CD 275 := mx_CDj mx_pa8_3.2.2.2.2.2.2.2.2.2.2.1
theorem mx_cd276 : mx_CD 276 := mx_CDj mx_pa8_3.2.2.2.2.2.2.2.2.2.2.2.1
set_option maxRecDepth 100000 in
theorem mx_pa9_0 : mx_all [Cond.code (mx_y 280) (mx_by 280) (mx_nL 280) (mx_rt 280), Cond.code (mx_y 279) (mx_by 279) (mx_nL 279) (mx_rt 279), Cond.code (mx_y 278) (mx_by 278) (mx_nL 278) (mx_rt 278), Cond.code (mx_y 282) (mx_by 282) (mx_nL 282) (mx_rt 282), Cond.code (mx_y 281) (mx_by 281) (mx_nL 281) (mx_rt 281), Cond.code (mx_y 285) (mx_by 285) (mx_nL 285) (mx_rt 285), Cond.code (mx_y 297) (mx_by 297) (mx_nL 297) (mx_rt 297), Cond.code (mx_y 283) (mx_by 283) (mx_nL 283) (mx_rt 283), Cond.code (mx_y 289) (mx_by 289) (mx_nL 289) (mx_rt 289), Cond.code (mx_y 284) (mx_by 284) (mx_nL 284) (mx_rt 284), Cond.code (mx_y 286) (mx_by 286) (mx_nL 286) (mx_rt 286), Cond.code (mx_y 288) (mx_by 288) (mx_nL 288) (mx_rt 288), Cond.code (mx_y 287) (mx_by 287) (mx_nL 287) (mx_rt 287), Cond.code (mx_y 291) (mx_by 291) (mx_nL 291) (mx_rt 291), Cond.code (mx_y 290) (mx_by 290) (mx_nL 290) (mx_rt 290), Cond.code (mx_y 293) (mx_by 293) (mx_nL 293) (mx_rt 293)] := mx_pa (k := 9) (gs := [1, 3, 3, 3, 3, 3, 3, 3, 3, 2, 3, 3, 3, 3, 3, 3]) rfl
theorem mx_cd280 : mx_CD 280 := mx_CDj mx_pa9_0.1
theorem mx_cd279 : mx_CD 279 := mx_CDj mx_pa9_0.2.1
theorem mx_cd278 : mx_CD 278 := mx_CDj mx_pa9_0.2.2.1
theorem mx_cd282 : mx_CD 282 := mx_CDj mx_pa9_0.2.2.2.1
theorem mx_cd281 : mx_CD 281 := mx_CDj mx_pa9_0.2.2.2.2.1
theorem mx_cd285 : mx_CD 285 := mx_CDj mx_pa9_0.2.2.2.2.2.1
theorem mx_cd297 : mx_CD 297 := mx_CDj mx_pa9_0.2.2.2.2.2.2.1
theorem mx_cd283 : mx_CD 283 := mx_CDj mx_pa9_0.2.2.2.2.2.2.2.1
theorem mx_cd289 : mx_CD 289 := mx_CDj mx_pa9_0.2.2.2.2.2.2.2.2.1
theorem mx_cd284 : mx_CD 284 := mx_CDj mx_pa9_0.2.2.2.2.2.2.2.2.2.1
theorem mx_cd286 : mx_CD 286 := mx_CDj mx_pa9_0.2.2.2.2.2.2.2.2.2.2.1
theorem mx_cd288 : mx_CD 288 := mx_CDj mx_pa9_0.2.2.2.2.2.2.2.2.2.2.2.1
theorem mx_cd287 : mx_CD 287 := mx_CDj mx_pa9_0.2.2.2.2.2.2.2.2.2.2.2.2.1
theorem mx_cd291 : mx_CD 291 := mx_CDj mx_pa9_0.2.2.2.2.2.2.2.2.2.2.2.2.2.1
theorem mx_cd290 : mx_CD 290 := mx_CDj mx_pa9_0.2.2.2.2.2.2.2.2.2.2.2.2.2.2.1
theorem mx_cd293 : mx_CD 293 := mx_CDj mx_pa9_0.2.2.2.2.2.2.2.2.2.2.2.2.2.2.2.1
set_option maxRecDepth 100000 in
theorem mx_pa9_1 : mx_all [Cond.code (mx_y 292) (mx_by 292) (mx_nL 292) (mx_rt 292), Cond.code (mx_y 296) (mx_by 296) (mx_nL 296) (mx_rt 296), Cond.code (mx_y 295) (mx_by 295) (mx_nL 295) (mx_rt 295), Cond.code (mx_y 294) (mx_by 294) (mx_nL 294) (mx_rt 294), Cond.code (mx_y 298) (mx_by 298) (mx_nL 298) (mx_rt 298), Cond.code (mx_y 299) (mx_by 299) (mx_nL 299) (mx_rt 299), Cond.code (mx_y 301) (mx_by 301) (mx_nL 301) (mx_rt 301), Cond.code (mx_y 302) (mx_by 302) (mx_nL 302) (mx_rt 302), Cond.code (mx_y 304) (mx_by 304) (mx_nL 304) (mx_rt 304), Cond.code (mx_y 303) (mx_by 303) (mx_nL 303) (mx_rt 303), Cond.code (mx_y 305) (mx_by 305) (mx_nL 305) (mx_rt 305), Cond.code (mx_y 306) (mx_by 306) (mx_nL 306) (mx_rt 306), Cond.code (mx_y 307) (mx_by 307) (mx_nL 307) (mx_rt 307)] := mx_pa (k := 9) (gs := [64, 3, 3, 3, 3, 3, 3, 3, 3, 3, 3, 3, 3]) rfl
theorem mx_cd292 : mx_CD 292 := mx_CDj mx_pa9_1.1
theorem mx_cd296 : mx_CD 296 := mx_CDj mx_pa9_1.2.1
theorem mx_cd295 : mx_CD 295 := mx_CDj mx_pa9_1.2.2.1
theorem mx_cd294 : mx_CD 294 := mx_CDj mx_pa9_1.2.2.2.1
theorem mx_cd298 : mx_CD 298 := mx_CDj mx_pa9_1.2.2.2.2.1
theorem mx_cd299 : mx_CD 299 := mx_CDj mx_pa9_1.2.2.2.2.2.1
theorem mx_cd301 : mx_CD 301 := mx_CDj mx_pa9_1.2.2.2.2.2.2.1
theorem mx_cd302 : mx_CD 302 := mx_CDj mx_pa9_1.2.2.2.2.2.2.2.1
theorem mx_cd304 : mx_CD 304 := mx_CDj mx_pa9_1.2.2.2.2.2.2.2.2.1
theorem mx_cd303 : mx_CD 303 := mx_CDj mx_pa9_1.2.2.2.2.2.2.2.2.2.1
theorem mx_cd305 : mx_CD 305 := mx_CDj mx_pa9_1.2.2.2.2.2.2.2.2.2.2.1
theorem mx_cd306 : mx_CD 306 := mx_CDj mx_pa9_1.2.2.2.2.2.2.2.2.2.2.2.1
theorem mx_cd307 : mx_CD 307 := mx_CDj mx_pa9_1.2.2.2.2.2.2.2.2.2.2.2.2.1
theorem mx_cds0 : ∀ i ∈ ([1, 2, 3, 4, 5, 6, 7, 8, 9, 10, 11, 12, 13, 14, 15, 16, 17, 18, 19, 20, 21, 22, 23, 24, 25, 26, 27, 28, 29, 30, 31, 32, 33, 34, 35, 36, 37, 38, 39] : List Nat), mx_CD i := (List.forall_mem_cons.mpr ⟨mx_cd1, (List.forall_mem_cons.mpr ⟨mx_cd2, (List.forall_mem_cons.mpr ⟨mx_cd3, (List.forall_mem_cons.mpr ⟨mx_cd4, (List.forall_mem_cons.mpr ⟨mx_cd5, (List.forall_mem_cons.mpr ⟨mx_cd6, (List.forall_mem_cons.mpr ⟨mx_cd7, (List.forall_mem_cons.mpr ⟨mx_cd8, (List.forall_mem_cons.mpr ⟨mx_cd9, (List.forall_mem_cons.mpr ⟨mx_cd10, (List.forall_mem_cons.mpr ⟨mx_cd11, (List.forall_mem_cons.mpr ⟨mx_cd12, (List.forall_mem_cons.mpr ⟨mx_cd13, (List.forall_mem_cons.mpr ⟨mx_cd14, (List.forall_mem_cons.mpr ⟨mx_cd15, (List.forall_mem_cons.mpr ⟨mx_cd16, (List.forall_mem_cons.mpr ⟨mx_cd17, (List.forall_mem_cons.mpr ⟨mx_cd18, (List.forall_mem_cons.mpr ⟨mx_cd19, (List.forall_mem_cons.mpr ⟨mx_cd20, (List.forall_mem_cons.mpr ⟨mx_cd21, (List.forall_mem_cons.mpr ⟨mx_cd22, (List.forall_mem_cons.mpr ⟨mx_cd23, (List.forall_mem_cons.mpr ⟨mx_cd24, (List.forall_mem_cons.mpr ⟨mx_cd25, (List.forall_mem_cons.mpr ⟨mx_cd26, (List.forall_mem_cons.mpr ⟨mx_cd27, (List.forall_mem_cons.mpr ⟨mx_cd28, (List.forall_mem_cons.mpr ⟨mx_cd29, (List.forall_mem_cons.mpr ⟨mx_cd30, (List.forall_mem_cons.mpr ⟨mx_cd31, (List.forall_mem_cons.mpr ⟨mx_cd32, (List.forall_mem_cons.mpr ⟨mx_cd33, (List.forall_mem_cons.mpr ⟨mx_cd34, (List.forall_mem_cons.mpr ⟨mx_cd35, (List.forall_mem_cons.mpr ⟨mx_cd36, (List.forall_mem_cons.mpr ⟨mx_cd37, (List.forall_mem_cons.mpr ⟨mx_cd38, (List.forall_mem_cons.mpr ⟨mx_cd39, (fun _ h => absurd h List.not_mem_nil)⟩)⟩)⟩)⟩)⟩)⟩)⟩)⟩)⟩)⟩)⟩)⟩)⟩)⟩)⟩)⟩)⟩)⟩)⟩)⟩)⟩)⟩)⟩)⟩)⟩)⟩)⟩)⟩)⟩)⟩)⟩)⟩)⟩)⟩)⟩)⟩)⟩)⟩)⟩)
theorem mx_MKa0 : ∀ i, i < 40 → mx_iM (0 + i) = true → mx_MKc (0 + i) (mx_pM (0 + i)).2 = true ∧ (0 + i) ∈ ([1, 2, 3, 4, 5, 6, 7, 8, 9, 10, 11, 12, 13, 14, 15, 16, 17, 18, 19, 20, 21, 22, 23, 24, 25, 26, 27, 28, 29, 30, 31, 32, 33, 34, 35, 36, 37, 38, 39] : List Nat) := by decide +kernel
theorem mx_cds40 : ∀ i ∈ ([40, 41, 42, 43, 44, 45, 46, 47, 48, 49, 50, 51, 52, 53, 54, 55, 56, 57, 58, 59, 60, 61, 62, 63, 64, 65, 66, 67, 68, 69, 70, 71, 72, 73, 74, 75, 76, 77, 78, 79] : List Nat), mx_CD i := (List.forall_mem_cons.mpr ⟨mx_cd40, (List.forall_mem_cons.mpr ⟨mx_cd41, (List.forall_mem_cons.mpr ⟨mx_cd42, (List.forall_mem_cons.mpr ⟨mx_cd43, (List.forall_mem_cons.mpr ⟨mx_cd44, (List.forall_mem_cons.mpr ⟨mx_cd45, (List.forall_mem_cons.mpr ⟨mx_cd46, (List.forall_mem_cons.mpr ⟨mx_cd47, (List.forall_mem_cons.mpr ⟨mx_cd48, (List.forall_mem_cons.mpr ⟨mx_cd49, (List.forall_mem_cons.mpr ⟨mx_cd50, (List.forall_mem_cons.mpr ⟨mx_cd51, (List.forall_mem_cons.mpr ⟨mx_cd52, (List.forall_mem_cons.mpr ⟨mx_cd53, (List.forall_mem_cons.mpr ⟨mx_cd54, (List.forall_mem_cons.mpr ⟨mx_cd55, (List.forall_mem_cons.mpr ⟨mx_cd56, (List.forall_mem_cons.mpr ⟨mx_cd57, (List.forall_mem_cons.mpr ⟨mx_cd58, (List.forall_mem_cons.mpr ⟨mx_cd59, (List.forall_mem_cons.mpr ⟨mx_cd60, (List.forall_mem_cons.mpr ⟨mx_cd61, (List.forall_mem_cons.mpr ⟨mx_cd62, (List.forall_mem_cons.mpr ⟨mx_cd63, (List.forall_mem_cons.mpr ⟨mx_cd64, (List.forall_mem_cons.mpr ⟨mx_cd65, (List.forall_mem_cons.mpr ⟨mx_cd66, (List.forall_mem_cons.mpr ⟨mx_cd67, (List.forall_mem_cons.mpr ⟨mx_cd68, (List.forall_mem_cons.mpr ⟨mx_cd69, (List.forall_mem_cons.mpr ⟨mx_cd70, (List.forall_mem_cons.mpr ⟨mx_cd71, (List.forall_mem_cons.mpr ⟨mx_cd72, (List.forall_mem_cons.mpr ⟨mx_cd73, (List.forall_mem_cons.mpr ⟨mx_cd74, (List.forall_mem_cons.mpr ⟨mx_cd75, (List.forall_mem_cons.mpr ⟨mx_cd76, (List.forall_mem_cons.mpr ⟨mx_cd77, (List.forall_mem_cons.mpr ⟨mx_cd78, (List.forall_mem_cons.mpr ⟨mx_cd79, (fun _ h => absurd h List.not_mem_nil)⟩)⟩)⟩)⟩)⟩)⟩)⟩)⟩)⟩)⟩)⟩)⟩)⟩)⟩)⟩)⟩)⟩)⟩)⟩)⟩)⟩)⟩)⟩)⟩)⟩)⟩)⟩)⟩)⟩)⟩)⟩)⟩)⟩)⟩)⟩)⟩)⟩)⟩)⟩)⟩)
theorem mx_MKa40 : ∀ i, i < 40 → mx_iM (40 + i) = true → mx_MKc (40 + i) (mx_pM (40 + i)).2 = true ∧ (40 + i) ∈ ([40, 41, 42, 43, 44, 45, 46, 47, 48, 49, 50, 51, 52, 53, 54, 55, 56, 57, 58, 59, 60, 61, 62, 63, 64, 65, 66, 67, 68, 69, 70, 71, 72, 73, 74, 75, 76, 77, 78, 79] : List Nat) := by decide +kernel
theorem mx_cds80 : ∀ i ∈ ([80, 81, 82, 83, 84, 85, 86, 87, 88, 89, 90, 91, 92, 93, 94, 95, 96, 97, 98, 99, 100, 101, 102, 103, 104, 105, 106, 107, 108, 109, 110, 111, 112, 113, 114, 115, 116, 117, 118, 119] : List Nat), mx_CD i := (List.forall_mem_cons.mpr ⟨mx_cd80, (List.forall_mem_cons.mpr ⟨mx_cd81, (List.forall_mem_cons.mpr ⟨mx_cd82, (List.forall_mem_cons.mpr ⟨mx_cd83, (List.forall_mem_cons.mpr ⟨mx_cd84, (List.forall_mem_cons.mpr ⟨mx_cd85, (List.forall_mem_cons.mpr ⟨mx_cd86, (List.forall_mem_cons.mpr ⟨mx_cd87, (List.forall_mem_cons.mpr ⟨mx_cd88, (List.forall_mem_cons.mpr ⟨mx_cd89, (List.forall_mem_cons.mpr ⟨mx_cd90, (List.forall_mem_cons.mpr ⟨mx_cd91, (List.forall_mem_cons.mpr ⟨mx_cd92, (List.forall_mem_cons.mpr ⟨mx_cd93, (List.forall_mem_cons.mpr ⟨mx_cd94, (List.forall_mem_cons.mpr ⟨mx_cd95, (List.forall_mem_cons.mpr ⟨mx_cd96, (List.forall_mem_cons.mpr ⟨mx_cd97, (List.forall_mem_cons.mpr ⟨mx_cd98, (List.forall_mem_cons.mpr ⟨mx_cd99, (List.forall_mem_cons.mpr ⟨mx_cd100, (List.forall_mem_cons.mpr ⟨mx_cd101, (List.forall_mem_cons.mpr ⟨mx_cd102, (List.forall_mem_cons.mpr ⟨mx_cd103, (List.forall_mem_cons.mpr ⟨mx_cd104, (List.forall_mem_cons.mpr ⟨mx_cd105, (List.forall_mem_cons.mpr ⟨mx_cd106, (List.forall_mem_cons.mpr ⟨mx_cd107, (List.forall_mem_cons.mpr ⟨mx_cd108, (List.forall_mem_cons.mpr ⟨mx_cd109, (List.forall_mem_cons.mpr ⟨mx_cd110, (List.forall_mem_cons.mpr ⟨mx_cd111, (List.forall_mem_cons.mpr ⟨mx_cd112, (List.forall_mem_cons.mpr ⟨mx_cd113, (List.forall_mem_cons.mpr ⟨mx_cd114, (List.forall_mem_cons.mpr ⟨mx_cd115, (List.forall_mem_cons.mpr ⟨mx_cd116, (List.forall_mem_cons.mpr ⟨mx_cd117, (List.forall_mem_cons.mpr ⟨mx_cd118, (List.forall_mem_cons.mpr ⟨mx_cd119, (fun _ h => absurd h List.not_mem_nil)⟩)⟩)⟩)⟩)⟩)⟩)⟩)⟩)⟩)⟩)⟩)⟩)⟩)⟩)⟩)⟩)⟩)⟩)⟩)⟩)⟩)⟩)⟩)⟩)⟩)⟩)⟩)⟩)⟩)⟩)⟩)⟩)⟩)⟩)⟩)⟩)⟩)⟩)⟩)⟩)
theorem mx_MKa80 : ∀ i, i < 40 → mx_iM (80 + i) = true → mx_MKc (80 + i) (mx_pM (80 + i)).2 = true ∧ (80 + i) ∈ ([80, 81, 82, 83, 84, 85, 86, 87, 88, 89, 90, 91, 92, 93, 94, 95, 96, 97, 98, 99, 100, 101, 102, 103, 104, 105, 106, 107, 108, 109, 110, 111, 112, 113, 114, 115, 116, 117, 118, 119] : List Nat) := by decide +kernel
theorem mx_cds120 : ∀ i ∈ ([120, 121, 122, 123, 124, 125, 126, 127, 128, 129, 130, 131, 132, 133, 134, 135, 136, 137, 138, 139, 140, 141, 142, 143, 144, 145, 146, 147, 148, 149, 150, 151, 152, 153, 154, 155, 156, 157, 158, 159] : List Nat), mx_CD i := (List.forall_mem_cons.mpr ⟨mx_cd120, (List.forall_mem_cons.mpr ⟨mx_cd121, (List.forall_mem_cons.mpr ⟨mx_cd122, (List.forall_mem_cons.mpr ⟨mx_cd123, (List.forall_mem_cons.mpr ⟨mx_cd124, (List.forall_mem_cons.mpr ⟨mx_cd125, (List.forall_mem_cons.mpr ⟨mx_cd126, (List.forall_mem_cons.mpr ⟨mx_cd127, (List.forall_mem_cons.mpr ⟨mx_cd128, (List.forall_mem_cons.mpr ⟨mx_cd129, (List.forall_mem_cons.mpr ⟨mx_cd130, (List.forall_mem_cons.mpr ⟨mx_cd131, (List.forall_mem_cons.mpr ⟨mx_cd132, (List.forall_mem_cons.mpr ⟨mx_cd133, (List.forall_mem_cons.mpr ⟨mx_cd134, (List.forall_mem_cons.mpr ⟨mx_cd135, (List.forall_mem_cons.mpr ⟨mx_cd136, (List.forall_mem_cons.mpr ⟨mx_cd137, (List.forall_mem_cons.mpr ⟨mx_cd138, (List.forall_mem_cons.mpr ⟨mx_cd139, (List.forall_mem_cons.mpr ⟨mx_cd140, (List.forall_mem_cons.mpr ⟨mx_cd141, (List.forall_mem_cons.mpr ⟨mx_cd142, (List.forall_mem_cons.mpr ⟨mx_cd143, (List.forall_mem_cons.mpr ⟨mx_cd144, (List.forall_mem_cons.mpr ⟨mx_cd145, (List.forall_mem_cons.mpr ⟨mx_cd146, (List.forall_mem_cons.mpr ⟨mx_cd147, (List.forall_mem_cons.mpr ⟨mx_cd148, (List.forall_mem_cons.mpr ⟨mx_cd149, (List.forall_mem_cons.mpr ⟨mx_cd150, (List.forall_mem_cons.mpr ⟨mx_cd151, (List.forall_mem_cons.mpr ⟨mx_cd152, (List.forall_mem_cons.mpr ⟨mx_cd153, (List.forall_mem_cons.mpr ⟨mx_cd154, (List.forall_mem_cons.mpr ⟨mx_cd155, (List.forall_mem_cons.mpr ⟨mx_cd156, (List.forall_mem_cons.mpr ⟨mx_cd157, (List.forall_mem_cons.mpr ⟨mx_cd158, (List.forall_mem_cons.mpr ⟨mx_cd159, (fun _ h => absurd h List.not_mem_nil)⟩)⟩)⟩)⟩)⟩)⟩)⟩)⟩)⟩)⟩)⟩)⟩)⟩)⟩)⟩)⟩)⟩)⟩)⟩)⟩)⟩)⟩)⟩)⟩)⟩)⟩)⟩)⟩)⟩)⟩)⟩)⟩)⟩)⟩)⟩)⟩)⟩)⟩)⟩)⟩)
theorem mx_MKa120 : ∀ i, i < 40 → mx_iM (120 + i) = true → mx_MKc (120 + i) (mx_pM (120 + i)).2 = true ∧ (120 + i) ∈ ([120, 121, 122, 123, 124, 125, 126, 127, 128, 129, 130, 131, 132, 133, 134, 135, 136, 137, 138, 139, 140, 141, 142, 143, 144, 145, 146, 147, 148, 149, 150, 151, 152, 153, 154, 155, 156, 157, 158, 159] : List Nat) := by decide +kernel
theorem mx_cds160 : ∀ i ∈ ([160, 161, 162, 163, 164, 165, 166, 167, 168, 169, 170, 171, 172, 173, 174, 175, 176, 177, 178, 179, 180, 181, 182, 183, 184, 185, 186, 187, 188, 189, 190, 191, 192, 193, 194, 195, 196, 197, 198, 199] : List Nat), mx_CD i := (List.forall_mem_cons.mpr ⟨mx_cd160, (List.forall_mem_cons.mpr ⟨mx_cd161, (List.forall_mem_cons.mpr ⟨mx_cd162, (List.forall_mem_cons.mpr ⟨mx_cd163, (List.forall_mem_cons.mpr ⟨mx_cd164, (List.forall_mem_cons.mpr ⟨mx_cd165, (List.forall_mem_cons.mpr ⟨mx_cd166, (List.forall_mem_cons.mpr ⟨mx_cd167, (List.forall_mem_cons.mpr ⟨mx_cd168, (List.forall_mem_cons.mpr ⟨mx_cd169, (List.forall_mem_cons.mpr ⟨mx_cd170, (List.forall_mem_cons.mpr ⟨mx_cd171, (List.forall_mem_cons.mpr ⟨mx_cd172, (List.forall_mem_cons.mpr ⟨mx_cd173, (List.forall_mem_cons.mpr ⟨mx_cd174, (List.forall_mem_cons.mpr ⟨mx_cd175, (List.forall_mem_cons.mpr ⟨mx_cd176, (List.forall_mem_cons.mpr ⟨mx_cd177, (List.forall_mem_cons.mpr ⟨mx_cd178, (List.forall_mem_cons.mpr ⟨mx_cd179, (List.forall_mem_cons.mpr ⟨mx_cd180, (List.forall_mem_cons.mpr ⟨mx_cd181, (List.forall_mem_cons.mpr ⟨mx_cd182, (List.forall_mem_cons.mpr ⟨mx_cd183, (List.forall_mem_cons.mpr ⟨mx_cd184, (List.forall_mem_cons.mpr ⟨mx_cd185, (List.forall_mem_cons.mpr ⟨mx_cd186, (List.forall_mem_cons.mpr ⟨mx_cd187, (List.forall_mem_cons.mpr ⟨mx_cd188, (List.forall_mem_cons.mpr ⟨mx_cd189, (List.forall_mem_cons.mpr ⟨mx_cd190, (List.forall_mem_cons.mpr ⟨mx_cd191, (List.forall_mem_cons.mpr ⟨mx_cd192, (List.forall_mem_cons.mpr ⟨mx_cd193, (List.forall_mem_cons.mpr ⟨mx_cd194, (List.forall_mem_cons.mpr ⟨mx_cd195, (List.forall_mem_cons.mpr ⟨mx_cd196, (List.forall_mem_cons.mpr ⟨mx_cd197, (List.forall_mem_cons.mpr ⟨mx_cd198, (List.forall_mem_cons.mpr ⟨mx_cd199, (fun _ h => absurd h List.not_mem_nil)⟩)⟩)⟩)⟩)⟩)⟩)⟩)⟩)⟩)⟩)⟩)⟩)⟩)⟩)⟩)⟩)⟩)⟩)⟩)⟩)⟩)⟩)⟩)⟩)⟩)⟩)⟩)⟩)⟩)⟩)⟩)⟩)⟩)⟩)⟩)⟩)⟩)⟩)⟩)⟩)
theorem mx_MKa160 : ∀ i, i < 40 → mx_iM (160 + i) = true → mx_MKc (160 + i) (mx_pM (160 + i)).2 = true ∧ (160 + i) ∈ ([160, 161, 162, 163, 164, 165, 166, 167, 168, 169, 170, 171, 172, 173, 174, 175, 176, 177, 178, 179, 180, 181, 182, 183, 184, 185, 186, 187, 188, 189, 190, 191, 192, 193, 194, 195, 196, 197, 198, 199] : List Nat) := by decide +kernel
theorem mx_cds200 : ∀ i ∈ ([200, 201, 202, 203, 204, 205, 206, 207, 208, 209, 210, 211, 212, 213, 214, 215, 216, 217, 218, 219, 220, 221, 222, 223, 224, 225, 226, 227, 228, 229, 230, 231, 232, 233, 234, 235, 236, 237, 238, 239] : List Nat), mx_CD i := (List.forall_mem_cons.mpr ⟨mx_cd200, (List.forall_mem_cons.mpr ⟨mx_cd201, (List.forall_mem_cons.mpr ⟨mx_cd202, (List.forall_mem_cons.mpr ⟨mx_cd203, (List.forall_mem_cons.mpr ⟨mx_cd204, (List.forall_mem_cons.mpr ⟨mx_cd205, (List.forall_mem_cons.mpr ⟨mx_cd206, (List.forall_mem_cons.mpr ⟨mx_cd207, (List.forall_mem_cons.mpr ⟨mx_cd208, (List.forall_mem_cons.mpr ⟨mx_cd209, (List.forall_mem_cons.mpr ⟨mx_cd210, (List.forall_mem_cons.mpr ⟨mx_cd211, (List.forall_mem_cons.mpr ⟨mx_cd212, (List.forall_mem_cons.mpr ⟨mx_cd213, (List.forall_mem_cons.mpr ⟨mx_cd214, (List.forall_mem_cons.mpr ⟨mx_cd215, (List.forall_mem_cons.mpr ⟨mx_cd216, (List.forall_mem_cons.mpr ⟨mx_cd217, (List.forall_mem_cons.mpr ⟨mx_cd218, (List.forall_mem_cons.mpr ⟨mx_cd219, (List.forall_mem_cons.mpr ⟨mx_cd220, (List.forall_mem_cons.mpr ⟨mx_cd221, (List.forall_mem_cons.mpr ⟨mx_cd222, (List.forall_mem_cons.mpr ⟨mx_cd223, (List.forall_mem_cons.mpr ⟨mx_cd224, (List.forall_mem_cons.mpr ⟨mx_cd225, (List.forall_mem_cons.mpr ⟨mx_cd226, (List.forall_mem_cons.mpr ⟨mx_cd227, (List.forall_mem_cons.mpr ⟨mx_cd228, (List.forall_mem_cons.mpr ⟨mx_cd229, (List.forall_mem_cons.mpr ⟨mx_cd230, (List.forall_mem_cons.mpr ⟨mx_cd231, (List.forall_mem_cons.mpr ⟨mx_cd232, (List.forall_mem_cons.mpr ⟨mx_cd233, (List.forall_mem_cons.mpr ⟨mx_cd234, (List.forall_mem_cons.mpr ⟨mx_cd235, (List.forall_mem_cons.mpr ⟨mx_cd236, (List.forall_mem_cons.mpr ⟨mx_cd237, (List.forall_mem_cons.mpr ⟨mx_cd238, (List.forall_mem_cons.mpr ⟨mx_cd239, (fun _ h => absurd h List.not_mem_nil)⟩)⟩)⟩)⟩)⟩)⟩)⟩)⟩)⟩)⟩)⟩)⟩)⟩)⟩)⟩)⟩)⟩)⟩)⟩)⟩)⟩)⟩)⟩)⟩)⟩)⟩)⟩)⟩)⟩)⟩)⟩)⟩)⟩)⟩)⟩)⟩)⟩)⟩)⟩)⟩)
theorem mx_MKa200 : ∀ i, i < 40 → mx_iM (200 + i) = true → mx_MKc (200 + i) (mx_pM (200 + i)).2 = true ∧ (200 + i) ∈ ([200, 201, 202, 203, 204, 205, 206, 207, 208, 209, 210, 211, 212, 213, 214, 215, 216, 217, 218, 219, 220, 221, 222, 223, 224, 225, 226, 227, 228, 229, 230, 231, 232, 233, 234, 235, 236, 237, 238, 239] : List Nat) := by decide +kernel
theorem mx_cds240 : ∀ i ∈ ([240, 241, 242, 243, 244, 245, 246, 247, 248, 249, 250, 251, 252, 253, 254, 255, 256, 257, 258, 259, 260, 261, 262, 263, 264, 265, 266, 267, 268, 269, 270, 271, 272, 273, 274, 275, 276, 277, 278, 279] : List Nat), mx_CD i := (List.forall_mem_cons.mpr ⟨mx_cd240, (List.forall_mem_cons.mpr ⟨mx_cd241, (List.forall_mem_cons.mpr ⟨mx_cd242, (List.forall_mem_cons.mpr ⟨mx_cd243, (List.forall_mem_cons.mpr ⟨mx_cd244, (List.forall_mem_cons.mpr ⟨mx_cd245, (List.forall_mem_cons.mpr ⟨mx_cd246, (List.forall_mem_cons.mpr ⟨mx_cd247, (List.forall_mem_cons.mpr ⟨mx_cd248, (List.forall_mem_cons.mpr ⟨mx_cd249, (List.forall_mem_cons.mpr ⟨mx_cd250, (List.forall_mem_cons.mpr ⟨mx_cd251, (List.forall_mem_cons.mpr ⟨mx_cd252, (List.forall_mem_cons.mpr ⟨mx_cd253, (List.forall_mem_cons.mpr ⟨mx_cd254, (List.forall_mem_cons.mpr ⟨mx_cd255, (List.forall_mem_cons.mpr ⟨mx_cd256, (List.forall_mem_cons.mpr ⟨mx_cd257, (List.forall_mem_cons.mpr ⟨mx_cd258, (List.forall_mem_cons.mpr ⟨mx_cd259, (List.forall_mem_cons.mpr ⟨mx_cd260, (List.forall_mem_cons.mpr ⟨mx_cd261, (List.forall_mem_cons.mpr ⟨mx_cd262, (List.forall_mem_cons.mpr ⟨mx_cd263, (List.forall_mem_cons.mpr ⟨mx_cd264, (List.forall_mem_cons.mpr ⟨mx_cd265, (List.forall_mem_cons.mpr ⟨mx_cd266, (List.forall_mem_cons.mpr ⟨mx_cd267, (List.forall_mem_cons.mpr ⟨mx_cd268, (List.forall_mem_cons.mpr ⟨mx_cd269, (List.forall_mem_cons.mpr ⟨mx_cd270, (List.forall_mem_cons.mpr ⟨mx_cd271, (List.forall_mem_cons.mpr ⟨mx_cd272, (List.forall_mem_cons.mpr ⟨mx_cd273, (List.forall_mem_cons.mpr ⟨mx_cd274, (List.forall_mem_cons.mpr ⟨mx_cd275, (List.forall_mem_cons.mpr ⟨mx_cd276, (List.forall_mem_cons.mpr ⟨mx_cd277, (List.forall_mem_cons.mpr ⟨mx_cd278, (List.forall_mem_cons.mpr ⟨mx_cd279, (fun _ h => absurd h List.not_mem_nil)⟩)⟩)⟩)⟩)⟩)⟩)⟩)⟩)⟩)⟩)⟩)⟩)⟩)⟩)⟩)⟩)⟩)⟩)⟩)⟩)⟩)⟩)⟩)⟩)⟩)⟩)⟩)⟩)⟩)⟩)⟩)⟩)⟩)⟩)⟩)⟩)⟩)⟩)⟩)⟩)
theorem mx_MKa240 : ∀ i, i < 40 → mx_iM (240 + i) = true → mx_MKc (240 + i) (mx_pM (240 + i)).2 = true ∧ (240 + i) ∈ ([240, 241, 242, 243, 244, 245, 246, 247, 248, 249, 250, 251, 252, 253, 254, 255, 256, 257, 258, 259, 260, 261, 262, 263, 264, 265, 266, 267, 268, 269, 270, 271, 272, 273, 274, 275, 276, 277, 278, 279] : List Nat) := by decide +kernel
theorem mx_cds280 : ∀ i ∈ ([280, 281, 282, 283, 284, 285, 286, 287, 288, 289, 290, 291, 292, 293, 294, 295, 296, 297, 298, 299, 300, 301, 302, 303, 304, 305, 306, 307, 308, 309, 316, 317, 318] : List Nat), mx_CD i := (List.forall_mem_cons.mpr ⟨mx_cd280, (List.forall_mem_cons.mpr ⟨mx_cd281, (List.forall_mem_cons.mpr ⟨mx_cd282, (List.forall_mem_cons.mpr ⟨mx_cd283, (List.forall_mem_cons.mpr ⟨mx_cd284, (List.forall_mem_cons.mpr ⟨mx_cd285, (List.forall_mem_cons.mpr ⟨mx_cd286, (List.forall_mem_cons.mpr ⟨mx_cd287, (List.forall_mem_cons.mpr ⟨mx_cd288, (List.forall_mem_cons.mpr ⟨mx_cd289, (List.forall_mem_cons.mpr ⟨mx_cd290, (List.forall_mem_cons.mpr ⟨mx_cd291, (List.forall_mem_cons.mpr ⟨mx_cd292, (List.forall_mem_cons.mpr ⟨mx_cd293, (List.forall_mem_cons.mpr ⟨mx_cd294, (List.forall_mem_cons.mpr ⟨mx_cd295, (List.forall_mem_cons.mpr ⟨mx_cd296, (List.forall_mem_cons.mpr ⟨mx_cd297, (List.forall_mem_cons.mpr ⟨mx_cd298, (List.forall_mem_cons.mpr ⟨mx_cd299, (List.forall_mem_cons.mpr ⟨mx_cd300, (List.forall_mem_cons.mpr ⟨mx_cd301, (List.forall_mem_cons.mpr ⟨mx_cd302, (List.forall_mem_cons.mpr ⟨mx_cd303, (List.forall_mem_cons.mpr ⟨mx_cd304, (List.forall_mem_cons.mpr ⟨mx_cd305, (List.forall_mem_cons.mpr ⟨mx_cd306, (List.forall_mem_cons.mpr ⟨mx_cd307, (List.forall_mem_cons.mpr ⟨mx_cd308, (List.forall_mem_cons.mpr ⟨mx_cd309, (List.forall_mem_cons.mpr ⟨mx_cd316, (List.forall_mem_cons.mpr ⟨mx_cd317, (List.forall_mem_cons.mpr ⟨mx_cd318, (fun _ h => absurd h List.not_mem_nil)⟩)⟩)⟩)⟩)⟩)⟩)⟩)⟩)⟩)⟩)⟩)⟩)⟩)⟩)⟩)⟩)⟩)⟩)⟩)⟩)⟩)⟩)⟩)⟩)⟩)⟩)⟩)⟩)⟩)⟩)⟩)⟩)⟩)
theorem mx_MKa280 : ∀ i, i < 40 → mx_iM (280 + i) = true → mx_MKc (280 + i) (mx_pM (280 + i)).2 = true ∧ (280 + i) ∈ ([280, 281, 282, 283, 284, 285, 286, 287, 288, 289, 290, 291, 292, 293, 294, 295, 296, 297, 298, 299, 300, 301, 302, 303, 304, 305, 306, 307, 308, 309, 316, 317, 318] : List Nat) := by decide +kernel
theorem mx_MKall {a : Nat} (h : mx_iM a = true) : mx_MK a := by
  have ha : a < 320 := by
    simp only [mx_iM, Bool.and_eq_true, Bool.or_eq_true, Nat.blt_eq] at h
    omega
  have h9 : a < 40 ∨ (40 ≤ a ∧ a < 80) ∨ (80 ≤ a ∧ a < 120) ∨ (120 ≤ a ∧ a < 160) ∨ (160 ≤ a ∧ a < 200) ∨ (200 ≤ a ∧ a < 240) ∨ (240 ≤ a ∧ a < 280) ∨ 280 ≤ a := by omega
  rcases h9 with q | q | q | q | q | q | q | q
  · have e : 0 + (a - 0) = a := by omega
    have h7 := mx_MKa0 (a - 0) (by omega) (by rw [e]; exact h)
    rw [e] at h7
    exact mx_MKc_s (mx_cds0 a h7.2) h7.1
  · have e : 40 + (a - 40) = a := by omega
    have h7 := mx_MKa40 (a - 40) (by omega) (by rw [e]; exact h)
    rw [e] at h7
    exact mx_MKc_s (mx_cds40 a h7.2) h7.1
  · have e : 80 + (a - 80) = a := by omega
    have h7 := mx_MKa80 (a - 80) (by omega) (by rw [e]; exact h)
    rw [e] at h7
    exact mx_MKc_s (mx_cds80 a h7.2) h7.1
  · have e : 120 + (a - 120) = a := by omega
    have h7 := mx_MKa120 (a - 120) (by omega) (by rw [e]; exact h)
    rw [e] at h7
    exact mx_MKc_s (mx_cds120 a h7.2) h7.1
  · have e : 160 + (a - 160) = a := by omega
    have h7 := mx_MKa160 (a - 160) (by omega) (by rw [e]; exact h)
    rw [e] at h7
    exact mx_MKc_s (mx_cds160 a h7.2) h7.1
  · have e : 200 + (a - 200) = a := by omega
    have h7 := mx_MKa200 (a - 200) (by omega) (by rw [e]; exact h)
    rw [e] at h7
    exact mx_MKc_s (mx_cds200 a h7.2) h7.1
  · have e : 240 + (a - 240) = a := by omega
    have h7 := mx_MKa240 (a - 240) (by omega) (by rw [e]; exact h)
    rw [e] at h7
    exact mx_MKc_s (mx_cds240 a h7.2) h7.1
  · have e : 280 + (a - 280) = a := by omega
    have h7 := mx_MKa280 (a - 280) (by omega) (by rw [e]; exact h)
    rw [e] at h7
    exact mx_MKc_s (mx_cds280 a h7.2) h7.1
theorem mx_fo0 : ∀ j, j < (mx_cr 0).2.2 → mx_fok 0 j := fun j hj => mx_fokb_s ((by decide +kernel : ∀ j, j < (mx_cr 0).2.2 → mx_fokb 0 j = true) j hj)
theorem mx_fo1 : ∀ j, j < (mx_cr 1).2.2 → mx_fok 1 j := fun j hj => mx_fokb_s ((by decide +kernel : ∀ j, j < (mx_cr 1).2.2 → mx_fokb 1 j = true) j hj)
theorem mx_fo2 : ∀ j, j < (mx_cr 2).2.2 → mx_fok 2 j := fun j hj => mx_fokb_s ((by decide +kernel : ∀ j, j < (mx_cr 2).2.2 → mx_fokb 2 j = true) j hj)
theorem mx_fo3 : ∀ j, j < (mx_cr 3).2.2 → mx_fok 3 j := fun j hj => mx_fokb_s ((by decide +kernel : ∀ j, j < (mx_cr 3).2.2 → mx_fokb 3 j = true) j hj)
theorem mx_fo4 : ∀ j, j < (mx_cr 4).2.2 → mx_fok 4 j := fun j hj => mx_fokb_s ((by decide +kernel : ∀ j, j < (mx_cr 4).2.2 → mx_fokb 4 j = true) j hj)
theorem mx_fo5 : ∀ j, j < (mx_cr 5).2.2 → mx_fok 5 j := fun j hj => mx_fokb_s ((by decide +kernel : ∀ j, j < (mx_cr 5).2.2 → mx_fokb 5 j = true) j hj)
theorem mx_fo6 : ∀ j, j < (mx_cr 6).2.2 → mx_fok 6 j := fun j hj => mx_fokb_s ((by decide +kernel : ∀ j, j < (mx_cr 6).2.2 → mx_fokb 6 j = true) j hj)
theorem mx_fo7 : ∀ j, j < (mx_cr 7).2.2 → mx_fok 7 j := fun j hj => mx_fokb_s ((by decide +kernel : ∀ j, j < (mx_cr 7).2.2 → mx_fokb 7 j = true) j hj)
theorem mx_fo8 : ∀ j, j < (mx_cr 8).2.2 → mx_fok 8 j := fun j hj => mx_fokb_s ((by decide +kernel : ∀ j, j < (mx_cr 8).2.2 → mx_fokb 8 j = true) j hj)
theorem mx_fo9 : ∀ j, j < (mx_cr 9).2.2 → mx_fok 9 j := fun j hj => mx_fokb_s ((by decide +kernel : ∀ j, j < (mx_cr 9).2.2 → mx_fokb 9 j = true) j hj)
theorem mx_fo10 : ∀ j, j < (mx_cr 10).2.2 → mx_fok 10 j := fun j hj => mx_fokb_s ((by decide +kernel : ∀ j, j < (mx_cr 10).2.2 → mx_fokb 10 j = true) j hj)
theorem mx_fo11 : ∀ j, j < (mx_cr 11).2.2 → mx_fok 11 j := fun j hj => mx_fokb_s ((by decide +kernel : ∀ j, j < (mx_cr 11).2.2 → mx_fokb 11 j = true) j hj)
theorem mx_fo12 : ∀ j, j < (mx_cr 12).2.2 → mx_fok 12 j := fun j hj => mx_fokb_s ((by decide +kernel : ∀ j, j < (mx_cr 12).2.2 → mx_fokb 12 j = true) j hj)
theorem mx_fob {ci : Nat} (h : ci < 13) : ∀ j, j < (mx_cr ci).2.2 → mx_fok ci j := by
  rcases (show ci = 0 ∨ ci = 1 ∨ ci = 2 ∨ ci = 3 ∨ ci = 4 ∨ ci = 5 ∨ ci = 6 ∨ ci = 7 ∨ ci = 8 ∨ ci = 9 ∨ ci = 10 ∨ ci = 11 ∨ ci = 12 by omega) with rfl | rfl | rfl | rfl | rfl | rfl | rfl | rfl | rfl | rfl | rfl | rfl | rfl
  · exact mx_fo0
  · exact mx_fo1
  · exact mx_fo2
  · exact mx_fo3
  · exact mx_fo4
  · exact mx_fo5
  · exact mx_fo6
  · exact mx_fo7
  · exact mx_fo8
  · exact mx_fo9
  · exact mx_fo10
  · exact mx_fo11
  · exact mx_fo12
def mx_mwb (o i a p1 p2 p3 p4 : Nat) : Bool := match a with
  | 0 => mx_MWb o i Lib.Math.abs.name Lib.Math.abs.code 1 (some .int) p1 p2 p3 p4
  | 1 => mx_MWb o i Lib.MathLoose.abs_long.x Lib.MathLoose.abs_long.code 2 (some .long) p1 p2 p3 p4
  | 2 => mx_MWb o i Lib.Math.max.name Lib.Math.max.code 2 (some .int) p1 p2 p3 p4
  | 3 => mx_MWb o i Lib.MathLoose.max_long.x Lib.MathLoose.max_long.code 4 (some .long) p1 p2 p3 p4
  | 4 => mx_MWb o i Lib.Math.min.name Lib.Math.min.code 2 (some .int) p1 p2 p3 p4
  | 5 => mx_MWb o i Lib.MathLoose.min_long.x Lib.MathLoose.min_long.code 4 (some .long) p1 p2 p3 p4
  | _ => false
theorem mx_mwb_s {o i a p1 p2 p3 p4 : Nat} (h : mx_mwb o i a p1 p2 p3 p4 = true) : mx_mw o i a := by
  unfold mx_mwb at h
  unfold mx_mw
  split at h
  · exact mx_MWb_s h
  · exact mx_MWb_s h
  · exact mx_MWb_s h
  · exact mx_MWb_s h
  · exact mx_MWb_s h
  · exact mx_MWb_s h
  · cases h
def mx_PLb (o : Nat) (q : mx_L5) (p1 p2 p3 p4 : Nat) : Bool := match q with
  | (0, i, a, b, _) => Nat.blt a 13 && (Nat.blt b (mx_cr a).2.2 && mx_hw p1 (Cond.fieldLink (mx_cn o) i (mx_fT a b).1 (mx_fT a b).2.1 (mx_fT a b).2.2.1))
  | (8, i, a, _, _) => mx_mwb o i a p1 p2 p3 p4
  | (1, i, a, b, z) => mx_iM a && mx_LKb o i a b 0 (Nat.beq z 1) p1 p2 p3
  | (2, i, a, b, _) => mx_iM a && (mx_LKb o i a b 1 false p1 p2 p3 && (Nat.blt (mx_me a).1 13 && sq_s (mx_y a).cls (mx_cr (mx_me a).1).1))
  | (3, i, a, b, z) => mx_iM a && mx_LKb o i a b 2 (Nat.beq z 1) p1 p2 p3
  | (4, i, a, _, _) => Nat.blt a 13 && (mx_hw p1 (Cond.classLink (mx_cn o) i (mx_cr a).1) && (mx_hw p2 (Cond.instantiable (mx_cr a).1 (mx_cr a).2.2) && mx_hw p3 (Cond.initialized (mx_cr a).1)))
  | (5, i, a, _, _) => (Nat.beq a 0 && mx_hw p1 (Cond.fieldLink (mx_cn o) i RX4 "KIND_ABOVE" "[I")) || (Nat.beq a 1 && mx_hw p1 (Cond.fieldLink (mx_cn o) i RX4 "ACTS" "[I"))
  | (6, i, _, _, _) => mx_hw p1 (Cond.classLink (mx_cn o) i RX7)
  | (7, i, a, _, _) => Nat.beq a 1000 && (mx_hw p1 (Cond.methodLink (mx_cn o) i Lib.objectInit) && (mx_hw p2 (Cond.instanceMethod Lib.objectInit) && mx_hw p3 (Cond.code Lib.objectInit ⟨#[0xb1]⟩ 1 none)))
  | _ => false
theorem mx_iM_ne {a : Nat} (h : mx_iM a = true) : a ≠ 1000 := by
  simp only [mx_iM, Bool.and_eq_true, Bool.or_eq_true, Nat.blt_eq] at h
  omega
theorem mx_PLb_s {o : Nat} {q : mx_L5} {p1 p2 p3 p4 : Nat} (h : mx_PLb o q p1 p2 p3 p4 = true) : mx_PL o q := by
  unfold mx_PLb at h
  split at h
  · simp only [Bool.and_eq_true, Nat.blt_eq] at h
    exact ⟨h.1, h.2.1, mx_hw_s h.2.2, mx_fob h.1 _ h.2.1⟩
  · exact mx_mwb_s h
  · rw [Bool.and_eq_true] at h
    exact ⟨mx_MKall h.1, mx_LKb_s h.2⟩
  · simp only [Bool.and_eq_true, Nat.blt_eq] at h
    exact ⟨mx_MKall h.1, mx_LKb_s h.2.1, h.2.2.1, sq_i h.2.2.2⟩
  · rw [Bool.and_eq_true] at h
    exact ⟨mx_iM_ne h.1, mx_MKall h.1, mx_LKb_s h.2⟩
  · simp only [Bool.and_eq_true, Nat.blt_eq] at h
    exact ⟨h.1, mx_fob h.1, mx_hw_s h.2.1, mx_hw_s h.2.2.1, mx_hw_s h.2.2.2⟩
  · simp only [Bool.or_eq_true, Bool.and_eq_true] at h
    exact h.elim (fun h => Or.inl ⟨Nat.eq_of_beq_eq_true h.1, mx_hw_s h.2⟩) (fun h => Or.inr ⟨Nat.eq_of_beq_eq_true h.1, mx_hw_s h.2⟩)
  · exact mx_hw_s h
  · simp only [Bool.and_eq_true] at h
    exact ⟨Nat.eq_of_beq_eq_true h.1, mx_hw_s h.2.1, mx_hw_s h.2.2.1, mx_hw_s h.2.2.2⟩
  · cases h
theorem mx_LP_s {o : Nat} {LP : List (mx_L5 × Nat × Nat × Nat × Nat)} (h : LP.all (fun q => mx_PLb o q.1 q.2.1 q.2.2.1 q.2.2.2.1 q.2.2.2.2) = true) : ∀ q ∈ LP.map (fun q => q.1), mx_PL o q := by
  intro q hq
  obtain ⟨x, hx, rfl⟩ := List.mem_map.mp hq
  exact mx_PLb_s (List.all_eq_true.mp h x hx)
noncomputable def mx_LP0 : List (mx_L5 × Nat × Nat × Nat × Nat) := [((7, 3, 1000, 0, 0), 2063, 1024, 1025, 0), ((0, 9, 0, 0, 0), 2064, 0, 0, 0), ((0, 15, 0, 1, 0), 2066, 0, 0, 0), ((0, 19, 0, 2, 0), 2068, 0, 0, 0), ((0, 22, 0, 3, 0), 2070, 0, 0, 0), ((0, 25, 0, 4, 0), 2071, 0, 0, 0), ((0, 28, 0, 5, 0), 2072, 0, 0, 0), ((0, 31, 0, 6, 0), 2073, 0, 0, 0), ((0, 34, 0, 7, 0), 2074, 0, 0, 0), ((0, 37, 0, 8, 0), 2076, 0, 0, 0), ((0, 40, 0, 9, 0), 2077, 0, 0, 0), ((0, 43, 0, 10, 0), 2078, 0, 0, 0), ((1, 46, 317, 2, 0), 4185, 3033, 0, 0), ((0, 52, 3, 0, 0), 1144, 0, 0, 0), ((0, 57, 3, 3, 0), 1150, 0, 0, 0), ((2, 60, 4, 3, 0), 4194, 4187, 4188, 0), ((2, 64, 6, 2, 0), 4195, 4197, 23, 0), ((8, 68, 0, 0, 2), 4201, 4118, 1015, 4119), ((8, 74, 2, 0, 2), 4200, 3068, 1015, 3069), ((0, 78, 3, 2, 0), 1148, 0, 0, 0), ((2, 81, 27, 2, 0), 4199, 4029, 4030, 0), ((0, 84, 3, 1, 0), 1146, 0, 0, 0), ((2, 87, 8, 2, 0), 4234, 4223, 4224, 0)]
noncomputable def mx_LL0 : List mx_L5 := mx_LP0.map (fun q => q.1)
set_option maxRecDepth 100000 in
theorem mx_LLok0 : ∀ q ∈ mx_LL0, mx_PL 0 q := mx_LP_s (by decide +kernel)
noncomputable def mx_KL0 : List (Nat × Int32) := []
noncomputable def mx_JL0 : List (Nat × Int64) := []
theorem mx_KLok0 : ∀ q ∈ mx_KL0, Cond.constant (mx_cn 0) q.1 q.2 ∈ mx_ws := (fun _ h => absurd h List.not_mem_nil)
theorem mx_JLok0 : ∀ q ∈ mx_JL0, Cond.constantLong (mx_cn 0) q.1 q.2 ∈ mx_ws := (fun _ h => absurd h List.not_mem_nil)
noncomputable def mx_LP1 : List (mx_L5 × Nat × Nat × Nat × Nat) := [((7, 3, 1000, 0, 0), 2034, 1024, 1025, 0), ((0, 9, 1, 0, 0), 2035, 0, 0, 0), ((0, 15, 1, 1, 0), 2037, 0, 0, 0), ((0, 19, 1, 2, 0), 2038, 0, 0, 0), ((0, 22, 1, 3, 0), 2040, 0, 0, 0), ((0, 25, 1, 4, 0), 2042, 0, 0, 0), ((0, 28, 1, 5, 0), 2044, 0, 0, 0), ((1, 31, 317, 2, 0), 4140, 3033, 0, 0), ((2, 37, 22, 1, 0), 4141, 3160, 3161, 0), ((0, 43, 7, 6, 0), 1083, 0, 0, 0), ((0, 48, 7, 7, 0), 1087, 0, 0, 0), ((0, 51, 7, 8, 0), 1092, 0, 0, 0), ((0, 54, 7, 9, 0), 1097, 0, 0, 0), ((2, 57, 26, 3, 0), 4142, 3178, 3179, 0), ((2, 61, 60, 0, 0), 4143, 3104, 3105, 0), ((2, 65, 14, 5, 0), 4144, 4146, 22, 0), ((2, 69, 33, 2, 0), 4148, 3215, 3216, 0), ((8, 74, 2, 0, 2), 4158, 3068, 1015, 3069)]
noncomputable def mx_LL1 : List mx_L5 := mx_LP1.map (fun q => q.1)
set_option maxRecDepth 100000 in
theorem mx_LLok1 : ∀ q ∈ mx_LL1, mx_PL 1 q := mx_LP_s (by decide +kernel)
noncomputable def mx_KL1 : List (Nat × Int32) := [(73, 2147483647)]
noncomputable def mx_JL1 : List (Nat × Int64) := []
theorem mx_KLok1 : ∀ q ∈ mx_KL1, Cond.constant (mx_cn 1) q.1 q.2 ∈ mx_ws := (List.forall_mem_cons.mpr ⟨mx_hw_s (p := 4157) (by decide +kernel), (fun _ h => absurd h List.not_mem_nil)⟩)
theorem mx_JLok1 : ∀ q ∈ mx_JL1, Cond.constantLong (mx_cn 1) q.1 q.2 ∈ mx_ws := (fun _ h => absurd h List.not_mem_nil)
noncomputable def mx_LP2 : List (mx_L5 × Nat × Nat × Nat × Nat) := [((7, 1, 1000, 0, 0), 2128, 1024, 1025, 0), ((0, 7, 2, 0, 0), 2130, 0, 0, 0), ((0, 13, 2, 1, 0), 2132, 0, 0, 0), ((6, 16, 0, 0, 0), 2129, 0, 0, 0), ((0, 18, 2, 2, 0), 2134, 0, 0, 0), ((0, 22, 2, 3, 0), 2135, 0, 0, 0), ((0, 26, 2, 4, 0), 2136, 0, 0, 0), ((0, 29, 2, 5, 0), 2137, 0, 0, 0), ((0, 32, 2, 6, 0), 2138, 0, 0, 0), ((2, 35, 18, 0, 0), 3138, 3140, 12, 0), ((2, 38, 67, 3, 0), 5132, 3131, 3132, 0)]
noncomputable def mx_LL2 : List mx_L5 := mx_LP2.map (fun q => q.1)
set_option maxRecDepth 100000 in
theorem mx_LLok2 : ∀ q ∈ mx_LL2, mx_PL 2 q := mx_LP_s (by decide +kernel)
noncomputable def mx_KL2 : List (Nat × Int32) := []
noncomputable def mx_JL2 : List (Nat × Int64) := []
theorem mx_KLok2 : ∀ q ∈ mx_KL2, Cond.constant (mx_cn 2) q.1 q.2 ∈ mx_ws := (fun _ h => absurd h List.not_mem_nil)
theorem mx_JLok2 : ∀ q ∈ mx_JL2, Cond.constantLong (mx_cn 2) q.1 q.2 ∈ mx_ws := (fun _ h => absurd h List.not_mem_nil)
noncomputable def mx_LP3 : List (mx_L5 × Nat × Nat × Nat × Nat) := [((7, 3, 1000, 0, 0), 1142, 1024, 1025, 0), ((0, 9, 3, 0, 0), 1143, 0, 0, 0), ((0, 15, 3, 1, 0), 1145, 0, 0, 0), ((0, 19, 3, 2, 0), 1147, 0, 0, 0), ((0, 22, 3, 3, 0), 1149, 0, 0, 0), ((0, 25, 3, 4, 0), 1152, 0, 0, 0), ((0, 28, 3, 5, 0), 1153, 0, 0, 0), ((0, 32, 3, 6, 0), 1155, 0, 0, 0), ((0, 35, 3, 7, 0), 1156, 0, 0, 0), ((0, 38, 3, 8, 0), 1157, 0, 0, 0), ((0, 41, 3, 9, 0), 1158, 0, 0, 0), ((0, 44, 3, 10, 0), 1159, 0, 0, 0), ((0, 47, 3, 11, 0), 1160, 0, 0, 0), ((2, 50, 23, 2, 0), 3163, 3164, 3165, 0), ((0, 54, 7, 0, 0), 1053, 0, 0, 0), ((1, 57, 317, 2, 0), 3167, 3033, 0, 0), ((0, 63, 7, 1, 0), 1057, 0, 0, 0), ((1, 66, 24, 1, 0), 3168, 3169, 0, 0), ((0, 70, 7, 3, 0), 1068, 0, 0, 0), ((2, 73, 25, 3, 0), 3173, 3174, 3175, 0), ((0, 77, 7, 2, 0), 1063, 0, 0, 0), ((0, 78, 7, 4, 0), 1074, 0, 0, 0), ((0, 79, 7, 6, 0), 1084, 0, 0, 0), ((0, 82, 7, 9, 0), 1098, 0, 0, 0), ((0, 85, 7, 7, 0), 1088, 0, 0, 0), ((0, 88, 7, 8, 0), 1093, 0, 0, 0), ((0, 91, 7, 10, 0), 1103, 0, 0, 0), ((8, 94, 4, 0, 2), 3171, 3065, 1015, 3066), ((2, 100, 26, 3, 0), 3177, 3178, 3179, 0), ((8, 103, 2, 0, 2), 3172, 3068, 1015, 3069), ((2, 106, 28, 2, 0), 3189, 3191, 13, 0), ((2, 110, 30, 1, 0), 3193, 3195, 14, 0), ((2, 114, 29, 2, 0), 3185, 3186, 3187, 0), ((2, 117, 31, 2, 0), 3218, 3182, 3183, 0), ((2, 120, 35, 0, 0), 4048, 4050, 18, 0)]
noncomputable def mx_LL3 : List mx_L5 := mx_LP3.map (fun q => q.1)
set_option maxRecDepth 100000 in
theorem mx_LLok3 : ∀ q ∈ mx_LL3, mx_PL 3 q := mx_LP_s (by decide +kernel)
noncomputable def mx_KL3 : List (Nat × Int32) := []
noncomputable def mx_JL3 : List (Nat × Int64) := []
theorem mx_KLok3 : ∀ q ∈ mx_KL3, Cond.constant (mx_cn 3) q.1 q.2 ∈ mx_ws := (fun _ h => absurd h List.not_mem_nil)
theorem mx_JLok3 : ∀ q ∈ mx_JL3, Cond.constantLong (mx_cn 3) q.1 q.2 ∈ mx_ws := (fun _ h => absurd h List.not_mem_nil)
noncomputable def mx_LP4 : List (mx_L5 × Nat × Nat × Nat × Nat) := [((7, 3, 1000, 0, 0), 2159, 1024, 1025, 0), ((0, 9, 4, 0, 0), 2161, 0, 0, 0), ((0, 15, 4, 1, 0), 2163, 0, 0, 0), ((6, 19, 0, 0, 0), 2160, 0, 0, 0), ((0, 21, 4, 2, 0), 2165, 0, 0, 0), ((0, 25, 4, 3, 0), 2166, 0, 0, 0), ((0, 28, 4, 4, 0), 2168, 0, 0, 0), ((5, 31, 0, 0, 0), 5172, 0, 0, 0), ((0, 34, 7, 5, 0), 1079, 0, 0, 0), ((0, 37, 7, 6, 0), 1085, 0, 0, 0), ((1, 40, 157, 3, 1), 5184, 3014, 0, 0), ((0, 44, 7, 9, 0), 1099, 0, 0, 0), ((5, 51, 1, 0, 0), 5174, 0, 0, 0), ((2, 54, 41, 1, 0), 5176, 5178, 30, 0), ((2, 58, 39, 1, 0), 5180, 5182, 31, 0), ((2, 47, 40, 5, 0), 5168, 5170, 29, 0)]
noncomputable def mx_LL4 : List mx_L5 := mx_LP4.map (fun q => q.1)
set_option maxRecDepth 100000 in
theorem mx_LLok4 : ∀ q ∈ mx_LL4, mx_PL 4 q := mx_LP_s (by decide +kernel)
noncomputable def mx_KL4 : List (Nat × Int32) := []
noncomputable def mx_JL4 : List (Nat × Int64) := []
theorem mx_KLok4 : ∀ q ∈ mx_KL4, Cond.constant (mx_cn 4) q.1 q.2 ∈ mx_ws := (fun _ h => absurd h List.not_mem_nil)
theorem mx_JLok4 : ∀ q ∈ mx_JL4, Cond.constantLong (mx_cn 4) q.1 q.2 ∈ mx_ws := (fun _ h => absurd h List.not_mem_nil)
noncomputable def mx_LP5 : List (mx_L5 × Nat × Nat × Nat × Nat) := [((7, 3, 1000, 0, 0), 1222, 1024, 1025, 0), ((0, 9, 5, 0, 0), 1223, 0, 0, 0), ((0, 15, 5, 1, 0), 1225, 0, 0, 0), ((0, 18, 5, 2, 0), 1227, 0, 0, 0), ((0, 22, 5, 3, 0), 1228, 0, 0, 0), ((0, 25, 5, 4, 0), 1229, 0, 0, 0), ((0, 28, 5, 5, 0), 1230, 0, 0, 0), ((0, 31, 5, 6, 0), 1232, 0, 0, 0), ((0, 34, 5, 7, 0), 1233, 0, 0, 0), ((0, 37, 5, 8, 0), 1234, 0, 0, 0), ((0, 40, 5, 9, 0), 1235, 0, 0, 0), ((0, 43, 5, 10, 0), 1236, 0, 0, 0), ((0, 46, 5, 11, 0), 1238, 0, 0, 0), ((0, 49, 5, 12, 0), 2000, 0, 0, 0), ((8, 52, 2, 0, 2), 4099, 3068, 1015, 3069), ((0, 60, 7, 1, 0), 1061, 0, 0, 0), ((0, 63, 7, 3, 0), 1072, 0, 0, 0), ((2, 66, 25, 3, 0), 4088, 3174, 3175, 0), ((0, 72, 7, 9, 0), 1101, 0, 0, 0), ((0, 75, 7, 7, 0), 1089, 0, 0, 0), ((0, 78, 7, 8, 0), 1094, 0, 0, 0), ((0, 81, 7, 10, 0), 1105, 0, 0, 0), ((8, 84, 4, 0, 2), 4089, 3065, 1015, 3066), ((2, 87, 26, 3, 0), 4090, 3178, 3179, 0), ((1, 91, 317, 2, 0), 4105, 3033, 0, 0), ((2, 97, 50, 6, 0), 4106, 4108, 20, 0), ((2, 101, 51, 4, 0), 4110, 4112, 21, 0), ((2, 105, 22, 1, 0), 4114, 3160, 3161, 0), ((2, 109, 48, 4, 0), 4115, 4085, 4086, 0), ((2, 113, 33, 2, 0), 4116, 3215, 3216, 0), ((8, 115, 0, 0, 2), 4117, 4118, 1015, 4119)]
noncomputable def mx_LL5 : List mx_L5 := mx_LP5.map (fun q => q.1)
set_option maxRecDepth 100000 in
theorem mx_LLok5 : ∀ q ∈ mx_LL5, mx_PL 5 q := mx_LP_s (by decide +kernel)
noncomputable def mx_KL5 : List (Nat × Int32) := [(90, 2147483647)]
noncomputable def mx_JL5 : List (Nat × Int64) := []
theorem mx_KLok5 : ∀ q ∈ mx_KL5, Cond.constant (mx_cn 5) q.1 q.2 ∈ mx_ws := (List.forall_mem_cons.mpr ⟨mx_hw_s (p := 4104) (by decide +kernel), (fun _ h => absurd h List.not_mem_nil)⟩)
theorem mx_JLok5 : ∀ q ∈ mx_JL5, Cond.constantLong (mx_cn 5) q.1 q.2 ∈ mx_ws := (fun _ h => absurd h List.not_mem_nil)
noncomputable def mx_LP6 : List (mx_L5 × Nat × Nat × Nat × Nat) := [((7, 3, 1000, 0, 0), 2107, 1024, 1025, 0), ((0, 9, 6, 0, 0), 2108, 0, 0, 0), ((0, 15, 6, 1, 0), 2110, 0, 0, 0), ((0, 19, 6, 2, 0), 2111, 0, 0, 0), ((0, 22, 6, 3, 0), 2112, 0, 0, 0), ((8, 25, 0, 0, 2), 5086, 4118, 1015, 4119), ((2, 31, 54, 4, 0), 5082, 5084, 25, 0), ((1, 35, 309, 1, 0), 5091, 5092, 0, 0), ((2, 40, 57, 3, 0), 5097, 5099, 26, 0)]
noncomputable def mx_LL6 : List mx_L5 := mx_LP6.map (fun q => q.1)
set_option maxRecDepth 100000 in
theorem mx_LLok6 : ∀ q ∈ mx_LL6, mx_PL 6 q := mx_LP_s (by decide +kernel)
noncomputable def mx_KL6 : List (Nat × Int32) := []
noncomputable def mx_JL6 : List (Nat × Int64) := []
theorem mx_KLok6 : ∀ q ∈ mx_KL6, Cond.constant (mx_cn 6) q.1 q.2 ∈ mx_ws := (fun _ h => absurd h List.not_mem_nil)
theorem mx_JLok6 : ∀ q ∈ mx_JL6, Cond.constantLong (mx_cn 6) q.1 q.2 ∈ mx_ws := (fun _ h => absurd h List.not_mem_nil)
noncomputable def mx_LP7 : List (mx_L5 × Nat × Nat × Nat × Nat) := [((7, 3, 1000, 0, 0), 1050, 1024, 1025, 0), ((0, 9, 7, 0, 0), 1051, 0, 0, 0), ((0, 15, 7, 1, 0), 1056, 0, 0, 0), ((0, 19, 7, 2, 0), 1062, 0, 0, 0), ((0, 22, 7, 3, 0), 1067, 0, 0, 0), ((0, 25, 7, 4, 0), 1073, 0, 0, 0), ((0, 28, 7, 5, 0), 1078, 0, 0, 0), ((0, 31, 7, 6, 0), 1081, 0, 0, 0), ((0, 34, 7, 7, 0), 1086, 0, 0, 0), ((0, 37, 7, 8, 0), 1091, 0, 0, 0), ((0, 40, 7, 9, 0), 1096, 0, 0, 0), ((0, 43, 7, 10, 0), 1102, 0, 0, 0), ((0, 46, 7, 11, 0), 1106, 0, 0, 0), ((0, 49, 7, 12, 0), 1108, 0, 0, 0), ((1, 52, 317, 2, 0), 3032, 3033, 0, 0), ((8, 58, 4, 0, 2), 3064, 3065, 1015, 3066), ((8, 64, 2, 0, 2), 3067, 3068, 1015, 3069), ((2, 67, 63, 3, 0), 5114, 3071, 3072, 0), ((1, 71, 65, 2, 0), 3127, 3128, 0, 0)]
noncomputable def mx_LL7 : List mx_L5 := mx_LP7.map (fun q => q.1)
set_option maxRecDepth 100000 in
theorem mx_LLok7 : ∀ q ∈ mx_LL7, mx_PL 7 q := mx_LP_s (by decide +kernel)
noncomputable def mx_KL7 : List (Nat × Int32) := []
noncomputable def mx_JL7 : List (Nat × Int64) := []
theorem mx_KLok7 : ∀ q ∈ mx_KL7, Cond.constant (mx_cn 7) q.1 q.2 ∈ mx_ws := (fun _ h => absurd h List.not_mem_nil)
theorem mx_JLok7 : ∀ q ∈ mx_JL7, Cond.constantLong (mx_cn 7) q.1 q.2 ∈ mx_ws := (fun _ h => absurd h List.not_mem_nil)
noncomputable def mx_LP8 : List (mx_L5 × Nat × Nat × Nat × Nat) := [((7, 3, 1000, 0, 0), 2186, 1024, 1025, 0), ((0, 11, 8, 0, 0), 2189, 0, 0, 0), ((0, 15, 8, 1, 0), 2191, 0, 0, 0), ((0, 18, 8, 2, 0), 2193, 0, 0, 0), ((0, 23, 8, 3, 0), 2195, 0, 0, 0), ((8, 26, 2, 0, 2), 5065, 3068, 1015, 3069), ((1, 32, 316, 2, 0), 5205, 5206, 0, 0), ((1, 38, 157, 3, 1), 5010, 3014, 0, 0), ((1, 42, 77, 2, 0), 5220, 5221, 0, 0), ((1, 52, 78, 1, 0), 5019, 5020, 0, 0), ((8, 56, 5, 0, 2), 5025, 5026, 1015, 5027), ((8, 60, 3, 0, 2), 5028, 5029, 1015, 5030), ((2, 62, 80, 2, 0), 5039, 5041, 24, 0), ((1, 66, 82, 2, 0), 5043, 5044, 0, 0), ((8, 69, 1, 0, 2), 5049, 5050, 1015, 5051), ((1, 75, 308, 2, 0), 5046, 5047, 0, 0), ((2, 82, 81, 2, 0), 5064, 5036, 5037, 0)]
noncomputable def mx_LL8 : List mx_L5 := mx_LP8.map (fun q => q.1)
set_option maxRecDepth 100000 in
theorem mx_LLok8 : ∀ q ∈ mx_LL8, mx_PL 8 q := mx_LP_s (by decide +kernel)
noncomputable def mx_KL8 : List (Nat × Int32) := []
noncomputable def mx_JL8 : List (Nat × Int64) := [(46, 127), (48, 32767), (50, 2147483647), (73, 2), (80, (-1))]
theorem mx_KLok8 : ∀ q ∈ mx_KL8, Cond.constant (mx_cn 8) q.1 q.2 ∈ mx_ws := (fun _ h => absurd h List.not_mem_nil)
theorem mx_JLok8 : ∀ q ∈ mx_JL8, Cond.constantLong (mx_cn 8) q.1 q.2 ∈ mx_ws := (List.forall_mem_cons.mpr ⟨mx_hw_s (p := 5022) (by decide +kernel), (List.forall_mem_cons.mpr ⟨mx_hw_s (p := 5023) (by decide +kernel), (List.forall_mem_cons.mpr ⟨mx_hw_s (p := 5024) (by decide +kernel), (List.forall_mem_cons.mpr ⟨mx_hw_s (p := 5052) (by decide +kernel), (List.forall_mem_cons.mpr ⟨mx_hw_s (p := 5063) (by decide +kernel), (fun _ h => absurd h List.not_mem_nil)⟩)⟩)⟩)⟩)⟩)
noncomputable def mx_LP9 : List (mx_L5 × Nat × Nat × Nat × Nat) := [((7, 3, 1000, 0, 0), 1031, 1024, 1025, 0), ((0, 11, 9, 0, 0), 1032, 0, 0, 0), ((0, 15, 9, 1, 0), 1033, 0, 0, 0), ((0, 19, 9, 2, 0), 1035, 0, 0, 0), ((2, 22, 59, 0, 0), 3028, 3029, 3030, 0), ((2, 27, 87, 1, 0), 3035, 3037, 0, 0), ((2, 31, 88, 1, 0), 3048, 3050, 3, 0), ((2, 34, 92, 0, 0), 3039, 3041, 1, 0), ((2, 38, 93, 0, 0), 3043, 3045, 2, 0), ((0, 41, 7, 1, 0), 1059, 0, 0, 0), ((0, 44, 7, 0, 0), 1055, 0, 0, 0), ((2, 47, 89, 1, 0), 3052, 3054, 4, 0), ((2, 50, 90, 1, 0), 3074, 3076, 6, 0), ((0, 53, 7, 2, 0), 1066, 0, 0, 0), ((0, 56, 7, 3, 0), 1071, 0, 0, 0), ((2, 59, 91, 2, 0), 3078, 3080, 7, 0), ((2, 63, 94, 1, 0), 3056, 3058, 5, 0), ((2, 67, 61, 2, 0), 3060, 3061, 3062, 0), ((2, 71, 63, 3, 0), 3070, 3071, 3072, 0), ((0, 75, 7, 4, 0), 1077, 0, 0, 0), ((1, 78, 157, 3, 1), 3047, 3014, 0, 0)]
noncomputable def mx_LL9 : List mx_L5 := mx_LP9.map (fun q => q.1)
set_option maxRecDepth 100000 in
theorem mx_LLok9 : ∀ q ∈ mx_LL9, mx_PL 9 q := mx_LP_s (by decide +kernel)
noncomputable def mx_KL9 : List (Nat × Int32) := []
noncomputable def mx_JL9 : List (Nat × Int64) := []
theorem mx_KLok9 : ∀ q ∈ mx_KL9, Cond.constant (mx_cn 9) q.1 q.2 ∈ mx_ws := (fun _ h => absurd h List.not_mem_nil)
theorem mx_JLok9 : ∀ q ∈ mx_JL9, Cond.constantLong (mx_cn 9) q.1 q.2 ∈ mx_ws := (fun _ h => absurd h List.not_mem_nil)
noncomputable def mx_LP10 : List (mx_L5 × Nat × Nat × Nat × Nat) := [((7, 3, 1000, 0, 0), 1192, 1024, 1025, 0), ((0, 9, 10, 0, 0), 1195, 0, 0, 0), ((0, 15, 10, 1, 0), 1197, 0, 0, 0), ((0, 18, 10, 2, 0), 1199, 0, 0, 0), ((0, 22, 10, 3, 0), 1201, 0, 0, 0), ((4, 25, 3, 0, 0), 1193, 1138, 1004, 0), ((3, 27, 21, 0, 1), 1194, 1140, 0, 0), ((0, 28, 10, 4, 0), 1202, 0, 0, 0), ((0, 32, 10, 5, 0), 1203, 0, 0, 0), ((1, 35, 317, 2, 0), 4011, 3033, 0, 0), ((0, 41, 7, 0, 0), 1052, 0, 0, 0), ((2, 46, 22, 1, 0), 4012, 3160, 3161, 0), ((2, 50, 97, 3, 0), 4013, 4015, 15, 0), ((2, 54, 100, 1, 0), 4017, 4019, 16, 0), ((1, 58, 98, 4, 0), 4021, 4022, 0, 0), ((2, 62, 99, 2, 0), 4024, 4026, 17, 0), ((0, 66, 7, 1, 0), 1058, 0, 0, 0), ((0, 69, 7, 2, 0), 1064, 0, 0, 0), ((0, 72, 7, 3, 0), 1069, 0, 0, 0), ((0, 75, 7, 4, 0), 1075, 0, 0, 0), ((2, 78, 27, 2, 0), 4028, 4029, 4030, 0)]
noncomputable def mx_LL10 : List mx_L5 := mx_LP10.map (fun q => q.1)
set_option maxRecDepth 100000 in
theorem mx_LLok10 : ∀ q ∈ mx_LL10, mx_PL 10 q := mx_LP_s (by decide +kernel)
noncomputable def mx_KL10 : List (Nat × Int32) := []
noncomputable def mx_JL10 : List (Nat × Int64) := []
theorem mx_KLok10 : ∀ q ∈ mx_KL10, Cond.constant (mx_cn 10) q.1 q.2 ∈ mx_ws := (fun _ h => absurd h List.not_mem_nil)
theorem mx_JLok10 : ∀ q ∈ mx_JL10, Cond.constantLong (mx_cn 10) q.1 q.2 ∈ mx_ws := (fun _ h => absurd h List.not_mem_nil)
noncomputable def mx_LP11 : List (mx_L5 × Nat × Nat × Nat × Nat) := [((7, 1, 1000, 0, 0), 1023, 1024, 1025, 0), ((4, 7, 9, 0, 0), 1026, 1027, 1002, 0), ((3, 9, 84, 0, 1), 1028, 1029, 0, 0), ((0, 10, 11, 0, 0), 2206, 0, 0, 0), ((6, 16, 0, 0, 0), 1044, 0, 0, 0), ((0, 18, 11, 1, 0), 2207, 0, 0, 0), ((0, 22, 11, 2, 0), 2208, 0, 0, 0), ((4, 16, 7, 0, 0), 1044, 1046, 1003, 0), ((3, 26, 58, 0, 1), 1047, 1048, 0, 0), ((0, 27, 11, 3, 0), 2209, 0, 0, 0), ((4, 31, 3, 0, 0), 1137, 1138, 1004, 0), ((3, 33, 21, 0, 1), 1139, 1140, 0, 0), ((0, 34, 11, 4, 0), 2210, 0, 0, 0), ((0, 38, 11, 5, 0), 2211, 0, 0, 0), ((4, 41, 10, 0, 0), 1187, 1188, 1005, 0), ((3, 43, 95, 0, 1), 1189, 1190, 0, 0), ((0, 44, 11, 6, 0), 2212, 0, 0, 0), ((4, 48, 5, 0, 0), 1217, 1218, 1006, 0), ((3, 50, 42, 0, 1), 1219, 1220, 0, 0), ((0, 51, 11, 7, 0), 2213, 0, 0, 0), ((4, 55, 1, 0, 0), 2029, 2030, 1007, 0), ((3, 57, 11, 0, 1), 2031, 2032, 0, 0), ((0, 58, 11, 8, 0), 2214, 0, 0, 0), ((4, 62, 0, 0, 0), 2058, 2059, 1008, 0), ((3, 64, 1, 0, 1), 2060, 2061, 0, 0), ((0, 65, 11, 9, 0), 2215, 0, 0, 0), ((4, 69, 6, 0, 0), 2102, 2103, 1009, 0), ((3, 71, 52, 0, 1), 2104, 2105, 0, 0), ((0, 72, 11, 10, 0), 2216, 0, 0, 0), ((4, 76, 2, 0, 0), 2123, 2124, 1010, 0), ((3, 78, 16, 0, 1), 2125, 2126, 0, 0), ((0, 79, 11, 11, 0), 2217, 0, 0, 0), ((4, 83, 4, 0, 0), 2154, 2155, 1011, 0), ((3, 85, 36, 0, 1), 2156, 2157, 0, 0), ((0, 86, 11, 12, 0), 2218, 0, 0, 0), ((4, 90, 8, 0, 0), 2181, 2182, 1012, 0), ((3, 92, 69, 0, 1), 2183, 2184, 0, 0), ((0, 93, 11, 13, 0), 2219, 0, 0, 0), ((1, 97, 157, 3, 0), 3013, 3014, 0, 0), ((0, 101, 9, 1, 0), 1034, 0, 0, 0), ((2, 104, 85, 2, 0), 3016, 3017, 3018, 0), ((2, 108, 86, 1, 0), 3024, 3025, 3026, 0), ((0, 112, 7, 6, 0), 1082, 0, 0, 0), ((2, 115, 168, 1, 0), 3082, 3084, 8, 0), ((2, 119, 169, 0, 0), 3086, 3088, 9, 0), ((2, 123, 166, 1, 0), 3098, 3100, 10, 0), ((0, 128, 7, 0, 0), 1054, 0, 0, 0), ((2, 131, 60, 0, 0), 3103, 3104, 3105, 0), ((0, 134, 7, 1, 0), 1060, 0, 0, 0), ((0, 138, 7, 2, 0), 1065, 0, 0, 0), ((0, 141, 7, 3, 0), 1070, 0, 0, 0), ((0, 144, 7, 4, 0), 1076, 0, 0, 0), ((1, 147, 164, 2, 0), 3111, 3112, 0, 0), ((2, 151, 61, 2, 0), 3114, 3061, 3062, 0), ((0, 155, 7, 5, 0), 1080, 0, 0, 0), ((0, 158, 7, 9, 0), 1100, 0, 0, 0), ((0, 161, 7, 10, 0), 1104, 0, 0, 0), ((2, 164, 170, 4, 0), 3119, 3121, 11, 0), ((1, 168, 65, 2, 0), 3146, 3128, 0, 0), ((8, 171, 4, 0, 2), 3151, 3065, 1015, 3066), ((1, 176, 158, 1, 0), 3156, 3157, 0, 0), ((2, 179, 22, 1, 0), 3159, 3160, 3161, 0), ((2, 183, 31, 2, 0), 3181, 3182, 3183, 0), ((2, 186, 32, 2, 0), 3197, 3198, 3199, 0), ((2, 191, 29, 2, 0), 3206, 3186, 3187, 0), ((0, 194, 3, 5, 0), 1154, 0, 0, 0), ((1, 198, 165, 3, 0), 3211, 3212, 0, 0), ((2, 202, 33, 2, 0), 3214, 3215, 3216, 0), ((0, 205, 3, 3, 0), 1151, 0, 0, 0), ((2, 206, 25, 3, 0), 3227, 3174, 3175, 0), ((2, 210, 23, 2, 0), 3232, 3164, 3165, 0), ((0, 214, 7, 7, 0), 1090, 0, 0, 0), ((0, 217, 7, 8, 0), 1095, 0, 0, 0), ((2, 220, 26, 3, 0), 3237, 3178, 3179, 0), ((2, 223, 62, 1, 0), 3238, 3239, 4000, 0), ((8, 227, 2, 0, 2), 4002, 3068, 1015, 3069), ((2, 230, 96, 2, 0), 4007, 4008, 4009, 0), ((0, 234, 10, 0, 0), 1196, 0, 0, 0), ((0, 237, 10, 2, 0), 1200, 0, 0, 0), ((0, 240, 10, 1, 0), 1198, 0, 0, 0), ((2, 243, 34, 1, 0), 4044, 4045, 4046, 0), ((0, 247, 5, 1, 0), 1226, 0, 0, 0), ((0, 250, 5, 0, 0), 1224, 0, 0, 0), ((2, 253, 43, 2, 0), 4056, 4057, 4058, 0), ((2, 257, 44, 3, 0), 4060, 4061, 4062, 0), ((2, 260, 167, 0, 0), 4068, 4070, 19, 0), ((2, 264, 45, 2, 0), 4072, 4073, 4074, 0), ((0, 267, 5, 5, 0), 1231, 0, 0, 0), ((2, 270, 46, 3, 0), 4076, 4077, 4078, 0), ((2, 273, 48, 4, 0), 4084, 4085, 4086, 0), ((2, 277, 47, 0, 0), 4095, 4096, 4097, 0), ((2, 280, 49, 2, 0), 4100, 4101, 4102, 0), ((0, 284, 5, 10, 0), 1237, 0, 0, 0), ((0, 287, 5, 11, 0), 1239, 0, 0, 0), ((0, 290, 5, 12, 0), 2001, 0, 0, 0), ((0, 293, 1, 0, 0), 2036, 0, 0, 0), ((2, 296, 12, 1, 0), 4128, 4129, 4130, 0), ((2, 299, 13, 3, 0), 4136, 4137, 4138, 0), ((0, 302, 1, 2, 0), 2039, 0, 0, 0), ((0, 305, 1, 4, 0), 2043, 0, 0, 0), ((0, 308, 1, 3, 0), 2041, 0, 0, 0), ((2, 311, 15, 1, 0), 4153, 4154, 4155, 0), ((0, 314, 0, 0, 0), 2065, 0, 0, 0), ((1, 317, 160, 1, 0), 4171, 4172, 0, 0), ((0, 320, 0, 1, 0), 2067, 0, 0, 0), ((1, 323, 159, 1, 0), 4178, 4179, 0, 0), ((2, 326, 3, 1, 0), 4181, 4182, 4183, 0), ((2, 330, 4, 3, 0), 4186, 4187, 4188, 0), ((2, 334, 5, 3, 0), 4190, 4191, 4192, 0), ((0, 338, 0, 7, 0), 2075, 0, 0, 0), ((2, 339, 2, 3, 0), 4206, 4207, 4208, 0), ((0, 341, 0, 2, 0), 2069, 0, 0, 0), ((2, 344, 7, 1, 0), 4218, 4219, 4220, 0), ((2, 347, 8, 2, 0), 4222, 4223, 4224, 0), ((2, 350, 9, 1, 0), 4230, 4231, 4232, 0), ((2, 353, 10, 2, 0), 4235, 4236, 4237, 0), ((1, 356, 161, 1, 0), 5003, 5004, 0, 0), ((2, 359, 73, 1, 0), 5006, 5007, 5008, 0), ((2, 362, 74, 2, 0), 5011, 5012, 5013, 0), ((0, 365, 8, 1, 0), 2192, 0, 0, 0), ((2, 368, 79, 3, 0), 5015, 5016, 5017, 0), ((2, 371, 81, 2, 0), 5035, 5036, 5037, 0), ((8, 377, 5, 0, 2), 5054, 5026, 1015, 5027), ((2, 380, 83, 1, 0), 5059, 5060, 5061, 0), ((0, 383, 6, 0, 0), 2109, 0, 0, 0), ((2, 384, 53, 2, 0), 5070, 5071, 5072, 0), ((0, 385, 6, 3, 0), 2113, 0, 0, 0), ((2, 388, 55, 2, 0), 5078, 5079, 5080, 0), ((2, 391, 56, 2, 0), 5087, 5088, 5089, 0), ((2, 394, 59, 0, 0), 5109, 3029, 3030, 0), ((2, 397, 64, 1, 0), 5110, 5111, 5112, 0), ((2, 400, 63, 3, 0), 5115, 3071, 3072, 0), ((0, 403, 7, 11, 0), 1107, 0, 0, 0), ((0, 406, 7, 12, 0), 1109, 0, 0, 0), ((2, 409, 171, 2, 0), 5120, 5122, 27, 0), ((0, 413, 2, 0, 0), 2131, 0, 0, 0), ((2, 416, 19, 0, 0), 5128, 5129, 5130, 0), ((0, 419, 2, 1, 0), 2133, 0, 0, 0), ((2, 422, 20, 0, 0), 5137, 5138, 5139, 0), ((2, 425, 68, 1, 0), 5145, 5146, 5147, 0), ((1, 428, 162, 1, 0), 5153, 5154, 0, 0), ((0, 431, 4, 0, 0), 2162, 0, 0, 0), ((2, 434, 37, 2, 0), 3090, 3091, 3092, 0), ((0, 437, 4, 3, 0), 2167, 0, 0, 0), ((2, 440, 163, 1, 0), 5160, 5162, 28, 0), ((2, 443, 318, 3, 0), 5164, 5165, 5166, 0), ((0, 447, 4, 4, 0), 2169, 0, 0, 0), ((2, 450, 70, 2, 0), 5193, 5194, 5195, 0), ((2, 453, 71, 3, 0), 5201, 5202, 5203, 0), ((2, 456, 72, 1, 0), 5212, 5213, 5214, 0), ((2, 459, 76, 3, 0), 5216, 5217, 5218, 0), ((0, 463, 8, 3, 0), 2196, 0, 0, 0), ((0, 467, 8, 0, 0), 2190, 0, 0, 0), ((2, 470, 75, 3, 0), 5231, 5232, 5233, 0), ((0, 479, 8, 2, 0), 2194, 0, 0, 0), ((0, 482, 4, 1, 0), 2164, 0, 0, 0), ((1, 485, 38, 2, 0), 6002, 6003, 0, 0), ((2, 488, 66, 2, 0), 3123, 3124, 3125, 0), ((2, 491, 67, 3, 0), 3130, 3131, 3132, 0), ((2, 493, 17, 5, 0), 3134, 3135, 3136, 0)]
noncomputable def mx_LL11 : List mx_L5 := mx_LP11.map (fun q => q.1)
set_option maxRecDepth 100000 in
theorem mx_LLok11 : ∀ q ∈ mx_LL11, mx_PL 11 q := mx_LP_s (by decide +kernel)
noncomputable def mx_KL11 : List (Nat × Int32) := [(127, (-2000000000))]
noncomputable def mx_JL11 : List (Nat × Int64) := [(189, (-9223372036854775808)), (375, 1999999999)]
theorem mx_KLok11 : ∀ q ∈ mx_KL11, Cond.constant (mx_cn 11) q.1 q.2 ∈ mx_ws := (List.forall_mem_cons.mpr ⟨mx_hw_s (p := 3102) (by decide +kernel), (fun _ h => absurd h List.not_mem_nil)⟩)
theorem mx_JLok11 : ∀ q ∈ mx_JL11, Cond.constantLong (mx_cn 11) q.1 q.2 ∈ mx_ws := (List.forall_mem_cons.mpr ⟨mx_hw_s (p := 3205) (by decide +kernel), (List.forall_mem_cons.mpr ⟨mx_hw_s (p := 5053) (by decide +kernel), (fun _ h => absurd h List.not_mem_nil)⟩)⟩)
noncomputable def mx_LP12 : List (mx_L5 × Nat × Nat × Nat × Nat) := [((7, 1, 1000, 0, 0), 6014, 1024, 1025, 0), ((0, 7, 12, 2, 0), 6016, 0, 0, 0), ((0, 13, 12, 3, 0), 6017, 0, 0, 0), ((0, 16, 12, 4, 0), 6018, 0, 0, 0), ((0, 19, 12, 5, 0), 6019, 0, 0, 0), ((0, 22, 12, 6, 0), 6020, 0, 0, 0), ((0, 26, 12, 7, 0), 6021, 0, 0, 0), ((0, 29, 12, 8, 0), 6022, 0, 0, 0), ((0, 32, 12, 9, 0), 6023, 0, 0, 0), ((0, 35, 12, 10, 0), 6024, 0, 0, 0), ((0, 38, 12, 11, 0), 6025, 0, 0, 0), ((0, 41, 12, 13, 0), 6027, 0, 0, 0), ((0, 44, 12, 14, 0), 6028, 0, 0, 0), ((0, 47, 12, 15, 0), 6029, 0, 0, 0), ((0, 51, 12, 20, 0), 6034, 0, 0, 0), ((0, 54, 12, 21, 0), 6035, 0, 0, 0), ((0, 57, 12, 22, 0), 6036, 0, 0, 0), ((0, 60, 12, 23, 0), 6037, 0, 0, 0), ((0, 63, 12, 26, 0), 6040, 0, 0, 0), ((0, 66, 12, 27, 0), 6041, 0, 0, 0), ((0, 69, 12, 28, 0), 6042, 0, 0, 0), ((0, 72, 12, 29, 0), 6043, 0, 0, 0), ((0, 75, 12, 30, 0), 6044, 0, 0, 0), ((0, 78, 12, 31, 0), 6045, 0, 0, 0), ((0, 81, 12, 32, 0), 6046, 0, 0, 0), ((0, 84, 12, 33, 0), 6047, 0, 0, 0), ((0, 87, 12, 34, 0), 6048, 0, 0, 0), ((0, 90, 12, 36, 0), 6050, 0, 0, 0), ((0, 94, 12, 38, 0), 6052, 0, 0, 0), ((0, 97, 12, 39, 0), 6053, 0, 0, 0), ((0, 100, 12, 40, 0), 6054, 0, 0, 0), ((0, 103, 12, 41, 0), 6055, 0, 0, 0), ((0, 106, 12, 43, 0), 6057, 0, 0, 0), ((0, 109, 12, 44, 0), 6058, 0, 0, 0), ((0, 112, 12, 45, 0), 6059, 0, 0, 0), ((0, 115, 12, 53, 0), 6067, 0, 0, 0), ((0, 118, 12, 54, 0), 6068, 0, 0, 0), ((0, 121, 12, 55, 0), 6069, 0, 0, 0), ((0, 124, 12, 57, 0), 6071, 0, 0, 0), ((0, 127, 12, 58, 0), 6072, 0, 0, 0), ((0, 130, 12, 59, 0), 6073, 0, 0, 0), ((0, 133, 12, 60, 0), 6074, 0, 0, 0), ((0, 136, 12, 66, 0), 6080, 0, 0, 0), ((0, 139, 12, 70, 0), 6084, 0, 0, 0), ((0, 142, 12, 72, 0), 6086, 0, 0, 0), ((0, 145, 12, 73, 0), 6087, 0, 0, 0), ((0, 148, 12, 75, 0), 6089, 0, 0, 0), ((0, 151, 12, 76, 0), 6090, 0, 0, 0), ((0, 154, 12, 77, 0), 6091, 0, 0, 0), ((0, 157, 12, 78, 0), 6092, 0, 0, 0), ((0, 160, 12, 80, 0), 6094, 0, 0, 0), ((0, 163, 12, 81, 0), 6095, 0, 0, 0), ((0, 166, 12, 82, 0), 6096, 0, 0, 0), ((0, 169, 12, 84, 0), 6098, 0, 0, 0), ((0, 172, 12, 85, 0), 6099, 0, 0, 0), ((0, 175, 12, 86, 0), 6100, 0, 0, 0), ((0, 178, 12, 87, 0), 6101, 0, 0, 0), ((0, 181, 12, 89, 0), 6103, 0, 0, 0), ((0, 184, 12, 90, 0), 6104, 0, 0, 0), ((0, 187, 12, 91, 0), 6105, 0, 0, 0), ((0, 190, 12, 92, 0), 6106, 0, 0, 0), ((0, 193, 12, 93, 0), 6107, 0, 0, 0), ((0, 200, 12, 1, 0), 6015, 0, 0, 0), ((1, 203, 173, 3, 0), 7063, 7064, 0, 0), ((1, 207, 179, 3, 0), 7114, 7115, 0, 0), ((2, 211, 180, 3, 0), 7110, 7112, 42, 0), ((0, 214, 12, 16, 0), 6030, 0, 0, 0), ((0, 217, 12, 17, 0), 6031, 0, 0, 0), ((0, 220, 12, 18, 0), 6032, 0, 0, 0), ((2, 223, 185, 0, 0), 7078, 7080, 34, 0), ((2, 227, 187, 0, 0), 7086, 7088, 36, 0), ((2, 231, 186, 0, 0), 7082, 7084, 35, 0), ((2, 234, 178, 2, 0), 7106, 7108, 41, 0), ((2, 238, 189, 0, 0), 7102, 7104, 40, 0), ((2, 241, 188, 0, 0), 7090, 7092, 37, 0), ((2, 244, 181, 6, 0), 7117, 7119, 43, 0), ((0, 248, 12, 19, 0), 6033, 0, 0, 0), ((2, 251, 190, 0, 0), 7098, 7100, 39, 0), ((2, 254, 182, 1, 0), 7074, 7076, 33, 0), ((2, 258, 191, 0, 0), 7094, 7096, 38, 0), ((0, 261, 12, 12, 0), 6026, 0, 0, 0), ((2, 264, 192, 0, 0), 7070, 7072, 32, 0), ((2, 267, 193, 3, 0), 7121, 7123, 44, 0), ((2, 271, 177, 1, 0), 7129, 7131, 45, 0), ((2, 276, 183, 1, 0), 7134, 7136, 46, 0), ((2, 280, 195, 1, 0), 7138, 7140, 47, 0), ((0, 283, 12, 25, 0), 6039, 0, 0, 0), ((0, 286, 12, 24, 0), 6038, 0, 0, 0), ((2, 289, 199, 3, 0), 7158, 7160, 50, 0), ((2, 292, 198, 5, 0), 7150, 7152, 48, 0), ((2, 296, 200, 4, 0), 7154, 7156, 49, 0), ((1, 300, 174, 2, 0), 7170, 7171, 0, 0), ((1, 304, 175, 2, 0), 7185, 7186, 0, 0), ((0, 307, 12, 35, 0), 6049, 0, 0, 0), ((1, 310, 207, 2, 0), 7199, 7200, 0, 0), ((0, 313, 12, 42, 0), 6056, 0, 0, 0), ((0, 316, 12, 37, 0), 6051, 0, 0, 0), ((2, 319, 210, 2, 0), 7217, 7219, 55, 0), ((2, 323, 209, 2, 0), 7210, 7212, 54, 0), ((1, 327, 211, 1, 0), 7214, 7215, 0, 0), ((2, 330, 212, 2, 0), 7206, 7208, 53, 0), ((1, 333, 215, 1, 0), 7192, 7193, 0, 0), ((2, 336, 208, 1, 0), 7195, 7197, 51, 0), ((2, 339, 213, 2, 0), 7202, 7204, 52, 0), ((2, 342, 214, 2, 0), 7221, 7223, 56, 0), ((2, 349, 218, 0, 0), 7238, 8000, 58, 0), ((2, 352, 219, 2, 0), 8002, 8004, 59, 0), ((2, 355, 220, 2, 0), 7234, 7236, 57, 0), ((2, 358, 225, 3, 0), 8022, 8024, 60, 0), ((0, 361, 12, 46, 0), 6060, 0, 0, 0), ((0, 364, 12, 47, 0), 6061, 0, 0, 0), ((0, 367, 12, 48, 0), 6062, 0, 0, 0), ((0, 370, 12, 49, 0), 6063, 0, 0, 0), ((0, 374, 12, 50, 0), 6064, 0, 0, 0), ((2, 377, 227, 4, 0), 8038, 8040, 63, 0), ((2, 381, 228, 3, 0), 8042, 8044, 64, 0), ((2, 384, 229, 4, 0), 8034, 8036, 62, 0), ((2, 387, 230, 3, 0), 8030, 8032, 61, 0), ((2, 390, 233, 2, 0), 8054, 8056, 65, 0), ((2, 393, 236, 2, 0), 8066, 8068, 67, 0), ((2, 396, 235, 1, 0), 8070, 8072, 68, 0), ((2, 400, 237, 2, 0), 8062, 8064, 66, 0), ((0, 403, 12, 51, 0), 6065, 0, 0, 0), ((0, 406, 12, 52, 0), 6066, 0, 0, 0), ((0, 409, 12, 56, 0), 6070, 0, 0, 0), ((2, 412, 241, 2, 0), 8086, 8088, 69, 0), ((1, 415, 176, 1, 0), 8102, 8103, 0, 0), ((2, 418, 243, 0, 0), 8098, 8100, 71, 0), ((0, 421, 12, 63, 0), 6077, 0, 0, 0), ((0, 424, 12, 64, 0), 6078, 0, 0, 0), ((0, 427, 12, 61, 0), 6075, 0, 0, 0), ((2, 430, 244, 0, 0), 8105, 8107, 72, 0), ((0, 433, 12, 62, 0), 6076, 0, 0, 0), ((2, 436, 245, 2, 0), 8094, 8096, 70, 0), ((0, 439, 12, 65, 0), 6079, 0, 0, 0), ((0, 442, 12, 67, 0), 6081, 0, 0, 0), ((0, 445, 12, 68, 0), 6082, 0, 0, 0), ((0, 448, 12, 69, 0), 6083, 0, 0, 0), ((2, 451, 250, 4, 0), 8129, 8131, 74, 0), ((2, 454, 251, 2, 0), 8125, 8127, 73, 0), ((0, 457, 12, 71, 0), 6085, 0, 0, 0), ((1, 460, 255, 1, 0), 8145, 8146, 0, 0), ((0, 463, 12, 74, 0), 6088, 0, 0, 0), ((2, 466, 257, 1, 0), 8152, 8154, 75, 0), ((2, 469, 258, 0, 0), 8156, 8158, 76, 0), ((0, 472, 12, 79, 0), 6093, 0, 0, 0), ((1, 476, 300, 1, 0), 8180, 8181, 0, 0), ((2, 479, 264, 1, 0), 8183, 8185, 77, 0), ((1, 482, 265, 1, 0), 8187, 8188, 0, 0), ((2, 487, 267, 2, 0), 8203, 8205, 80, 0), ((1, 490, 268, 2, 0), 8208, 8209, 0, 0), ((2, 495, 270, 1, 0), 8195, 8197, 78, 0), ((2, 498, 269, 2, 0), 8199, 8201, 79, 0), ((0, 504, 12, 83, 0), 6097, 0, 0, 0), ((2, 507, 275, 4, 0), 8230, 8232, 81, 0), ((2, 510, 276, 3, 0), 8234, 8236, 82, 0), ((2, 513, 279, 3, 0), 9002, 9004, 83, 0), ((2, 516, 278, 3, 0), 9006, 9008, 84, 0), ((2, 519, 281, 2, 0), 9014, 9016, 85, 0), ((0, 522, 12, 88, 0), 6102, 0, 0, 0), ((2, 525, 286, 1, 0), 9037, 9039, 88, 0), ((2, 528, 287, 2, 0), 9045, 9047, 90, 0), ((1, 531, 284, 2, 0), 9034, 9035, 0, 0), ((2, 534, 288, 2, 0), 9041, 9043, 89, 0), ((2, 537, 289, 2, 0), 9030, 9032, 87, 0), ((2, 540, 290, 2, 0), 9053, 9055, 92, 0), ((2, 543, 292, 2, 0), 9061, 9063, 94, 0), ((2, 546, 291, 2, 0), 9049, 9051, 91, 0), ((2, 549, 293, 2, 0), 9057, 9059, 93, 0), ((2, 552, 294, 2, 0), 9073, 9075, 97, 0), ((2, 555, 295, 2, 0), 9069, 9071, 96, 0), ((2, 558, 283, 1, 0), 9026, 9028, 86, 0), ((2, 561, 296, 2, 0), 9065, 9067, 95, 0), ((2, 564, 303, 2, 0), 9097, 9099, 98, 0)]
noncomputable def mx_LL12 : List mx_L5 := mx_LP12.map (fun q => q.1)
set_option maxRecDepth 100000 in
theorem mx_LLok12 : ∀ q ∈ mx_LL12, mx_PL 12 q := mx_LP_s (by decide +kernel)
noncomputable def mx_KL12 : List (Nat × Int32) := [(275, (-2000000000)), (475, 2147483647), (503, 1999999999)]
noncomputable def mx_JL12 : List (Nat × Int64) := [(347, (-9223372036854775808)), (485, (-1)), (493, 2), (501, 1999999999)]
theorem mx_KLok12 : ∀ q ∈ mx_KL12, Cond.constant (mx_cn 12) q.1 q.2 ∈ mx_ws := (List.forall_mem_cons.mpr ⟨mx_hw_s (p := 7133) (by decide +kernel), (List.forall_mem_cons.mpr ⟨mx_hw_s (p := 8190) (by decide +kernel), (List.forall_mem_cons.mpr ⟨mx_hw_s (p := 8213) (by decide +kernel), (fun _ h => absurd h List.not_mem_nil)⟩)⟩)⟩)
theorem mx_JLok12 : ∀ q ∈ mx_JL12, Cond.constantLong (mx_cn 12) q.1 q.2 ∈ mx_ws := (List.forall_mem_cons.mpr ⟨mx_hw_s (p := 7229) (by decide +kernel), (List.forall_mem_cons.mpr ⟨mx_hw_s (p := 8207) (by decide +kernel), (List.forall_mem_cons.mpr ⟨mx_hw_s (p := 8211) (by decide +kernel), (List.forall_mem_cons.mpr ⟨mx_hw_s (p := 8212) (by decide +kernel), (fun _ h => absurd h List.not_mem_nil)⟩)⟩)⟩)⟩)
noncomputable def mx_LP13 : List (mx_L5 × Nat × Nat × Nat × Nat) := []
noncomputable def mx_LL13 : List mx_L5 := mx_LP13.map (fun q => q.1)
set_option maxRecDepth 100000 in
theorem mx_LLok13 : ∀ q ∈ mx_LL13, mx_PL 13 q := mx_LP_s (by decide +kernel)
noncomputable def mx_KL13 : List (Nat × Int32) := [(265, 1431655765), (266, 858993459), (267, 252645135)]
noncomputable def mx_JL13 : List (Nat × Int64) := []
theorem mx_KLok13 : ∀ q ∈ mx_KL13, Cond.constant (mx_cn 13) q.1 q.2 ∈ mx_ws := (List.forall_mem_cons.mpr ⟨mx_hw_s (p := 5094) (by decide +kernel), (List.forall_mem_cons.mpr ⟨mx_hw_s (p := 5095) (by decide +kernel), (List.forall_mem_cons.mpr ⟨mx_hw_s (p := 5096) (by decide +kernel), (fun _ h => absurd h List.not_mem_nil)⟩)⟩)⟩)
theorem mx_JLok13 : ∀ q ∈ mx_JL13, Cond.constantLong (mx_cn 13) q.1 q.2 ∈ mx_ws := (fun _ h => absurd h List.not_mem_nil)
noncomputable def mx_LP14 : List (mx_L5 × Nat × Nat × Nat × Nat) := []
noncomputable def mx_LL14 : List mx_L5 := mx_LP14.map (fun q => q.1)
set_option maxRecDepth 100000 in
theorem mx_LLok14 : ∀ q ∈ mx_LL14, mx_PL 14 q := mx_LP_s (by decide +kernel)
noncomputable def mx_KL14 : List (Nat × Int32) := []
noncomputable def mx_JL14 : List (Nat × Int64) := []
theorem mx_KLok14 : ∀ q ∈ mx_KL14, Cond.constant (mx_cn 14) q.1 q.2 ∈ mx_ws := (fun _ h => absurd h List.not_mem_nil)
theorem mx_JLok14 : ∀ q ∈ mx_JL14, Cond.constantLong (mx_cn 14) q.1 q.2 ∈ mx_ws := (fun _ h => absurd h List.not_mem_nil)
noncomputable def mx_LP15 : List (mx_L5 × Nat × Nat × Nat × Nat) := []
noncomputable def mx_LL15 : List mx_L5 := mx_LP15.map (fun q => q.1)
set_option maxRecDepth 100000 in
theorem mx_LLok15 : ∀ q ∈ mx_LL15, mx_PL 15 q := mx_LP_s (by decide +kernel)
noncomputable def mx_KL15 : List (Nat × Int32) := []
noncomputable def mx_JL15 : List (Nat × Int64) := []
theorem mx_KLok15 : ∀ q ∈ mx_KL15, Cond.constant (mx_cn 15) q.1 q.2 ∈ mx_ws := (fun _ h => absurd h List.not_mem_nil)
theorem mx_JLok15 : ∀ q ∈ mx_JL15, Cond.constantLong (mx_cn 15) q.1 q.2 ∈ mx_ws := (fun _ h => absurd h List.not_mem_nil)
noncomputable def mx_LP16 : List (mx_L5 × Nat × Nat × Nat × Nat) := []
noncomputable def mx_LL16 : List mx_L5 := mx_LP16.map (fun q => q.1)
set_option maxRecDepth 100000 in
theorem mx_LLok16 : ∀ q ∈ mx_LL16, mx_PL 16 q := mx_LP_s (by decide +kernel)
noncomputable def mx_KL16 : List (Nat × Int32) := []
noncomputable def mx_JL16 : List (Nat × Int64) := []
theorem mx_KLok16 : ∀ q ∈ mx_KL16, Cond.constant (mx_cn 16) q.1 q.2 ∈ mx_ws := (fun _ h => absurd h List.not_mem_nil)
theorem mx_JLok16 : ∀ q ∈ mx_JL16, Cond.constantLong (mx_cn 16) q.1 q.2 ∈ mx_ws := (fun _ h => absurd h List.not_mem_nil)
noncomputable def mx_LP17 : List (mx_L5 × Nat × Nat × Nat × Nat) := [((4, 7, 11, 0, 0), 1018, 1019, 1001, 0), ((3, 9, 101, 0, 0), 1020, 1021, 0, 0), ((4, 10, 12, 0, 0), 6009, 6010, 1013, 0), ((3, 12, 172, 0, 0), 6011, 6012, 0, 0), ((2, 13, 102, 2, 0), 3009, 3010, 3011, 0), ((2, 17, 184, 2, 0), 7059, 7060, 7061, 0), ((2, 18, 103, 0, 0), 3020, 3021, 3022, 0), ((2, 22, 194, 0, 0), 7066, 7067, 7068, 0), ((2, 23, 104, 2, 0), 3094, 3095, 3096, 0), ((2, 26, 196, 2, 0), 7125, 7126, 7127, 0), ((2, 27, 105, 4, 0), 3107, 3108, 3109, 0), ((2, 31, 197, 4, 0), 7142, 7143, 7144, 0), ((2, 32, 106, 4, 0), 3115, 3116, 3117, 0), ((2, 35, 201, 4, 0), 7146, 7147, 7148, 0), ((2, 36, 107, 4, 0), 3142, 3143, 3144, 0), ((2, 39, 202, 4, 0), 7162, 7163, 7164, 0), ((2, 40, 108, 3, 0), 3147, 3148, 3149, 0), ((2, 44, 203, 3, 0), 7166, 7167, 7168, 0), ((2, 45, 109, 3, 0), 3152, 3153, 3154, 0), ((2, 48, 216, 3, 0), 7188, 7189, 7190, 0), ((2, 49, 110, 3, 0), 3201, 3202, 3203, 0), ((2, 53, 217, 3, 0), 7225, 7226, 7227, 0), ((2, 54, 111, 3, 0), 3207, 3208, 3209, 0), ((2, 57, 221, 3, 0), 7230, 7231, 7232, 0), ((2, 58, 112, 3, 0), 3219, 3220, 3221, 0), ((2, 61, 222, 3, 0), 8006, 8007, 8008, 0), ((2, 62, 113, 4, 0), 3223, 3224, 3225, 0), ((2, 65, 223, 4, 0), 8010, 8011, 8012, 0), ((2, 66, 114, 5, 0), 3228, 3229, 3230, 0), ((2, 70, 224, 5, 0), 8014, 8015, 8016, 0), ((2, 71, 115, 4, 0), 3233, 3234, 3235, 0), ((2, 74, 226, 4, 0), 8018, 8019, 8020, 0), ((2, 75, 116, 1, 0), 4003, 4004, 4005, 0), ((2, 79, 231, 1, 0), 8026, 8027, 8028, 0), ((2, 80, 117, 2, 0), 4032, 4033, 4034, 0), ((2, 83, 232, 2, 0), 8046, 8047, 8048, 0), ((2, 84, 118, 2, 0), 4036, 4037, 4038, 0), ((2, 87, 234, 2, 0), 8050, 8051, 8052, 0), ((2, 88, 119, 3, 0), 4040, 4041, 4042, 0), ((2, 91, 238, 3, 0), 8058, 8059, 8060, 0), ((2, 92, 120, 4, 0), 4052, 4053, 4054, 0), ((2, 95, 239, 4, 0), 8074, 8075, 8076, 0), ((2, 96, 121, 3, 0), 4064, 4065, 4066, 0), ((2, 99, 240, 3, 0), 8078, 8079, 8080, 0), ((2, 100, 122, 3, 0), 4080, 4081, 4082, 0), ((2, 103, 242, 3, 0), 8082, 8083, 8084, 0), ((2, 104, 123, 1, 0), 4091, 4092, 4093, 0), ((2, 107, 246, 1, 0), 8090, 8091, 8092, 0), ((2, 108, 124, 0, 0), 4120, 4121, 4122, 0), ((2, 111, 247, 0, 0), 8109, 8110, 8111, 0), ((2, 112, 125, 1, 0), 4124, 4125, 4126, 0), ((2, 115, 248, 1, 0), 8113, 8114, 8115, 0), ((2, 116, 126, 3, 0), 4132, 4133, 4134, 0), ((2, 119, 252, 3, 0), 8121, 8122, 8123, 0), ((2, 120, 127, 2, 0), 4149, 4150, 4151, 0), ((2, 123, 253, 2, 0), 8133, 8134, 8135, 0), ((2, 124, 128, 0, 0), 4159, 4160, 4161, 0), ((2, 127, 249, 0, 0), 8117, 8118, 8119, 0), ((2, 128, 129, 1, 0), 4163, 4164, 4165, 0), ((2, 131, 254, 1, 0), 8137, 8138, 8139, 0), ((2, 132, 130, 2, 0), 4167, 4168, 4169, 0), ((2, 135, 256, 2, 0), 8141, 8142, 8143, 0), ((2, 136, 131, 4, 0), 4174, 4175, 4176, 0), ((2, 139, 259, 4, 0), 8148, 8149, 8150, 0), ((2, 140, 132, 3, 0), 4202, 4203, 4204, 0), ((2, 143, 260, 3, 0), 8160, 8161, 8162, 0), ((2, 144, 133, 2, 0), 4210, 4211, 4212, 0), ((2, 147, 261, 2, 0), 8164, 8165, 8166, 0), ((2, 148, 134, 2, 0), 4214, 4215, 4216, 0), ((2, 151, 262, 2, 0), 8168, 8169, 8170, 0), ((2, 152, 135, 2, 0), 4226, 4227, 4228, 0), ((2, 155, 263, 2, 0), 8172, 8173, 8174, 0), ((2, 156, 136, 4, 0), 4239, 5000, 5001, 0), ((2, 159, 266, 4, 0), 8176, 8177, 8178, 0), ((2, 160, 137, 2, 0), 5031, 5032, 5033, 0), ((2, 163, 271, 2, 0), 8191, 8192, 8193, 0), ((2, 164, 138, 1, 0), 5055, 5056, 5057, 0), ((2, 167, 272, 1, 0), 8214, 8215, 8216, 0), ((2, 168, 139, 2, 0), 5066, 5067, 5068, 0), ((2, 171, 273, 2, 0), 8218, 8219, 8220, 0), ((2, 172, 140, 4, 0), 5074, 5075, 5076, 0), ((2, 175, 277, 4, 0), 8226, 8227, 8228, 0), ((2, 176, 141, 0, 0), 5101, 5102, 5103, 0), ((2, 179, 274, 0, 0), 8222, 8223, 8224, 0), ((2, 180, 142, 4, 0), 5105, 5106, 5107, 0), ((2, 183, 280, 4, 0), 8238, 8239, 9000, 0), ((2, 184, 143, 2, 0), 5116, 5117, 5118, 0), ((2, 187, 282, 2, 0), 9010, 9011, 9012, 0), ((2, 188, 144, 0, 0), 5124, 5125, 5126, 0), ((2, 191, 204, 0, 0), 7173, 7174, 7175, 0), ((2, 192, 145, 0, 0), 5133, 5134, 5135, 0), ((2, 195, 205, 0, 0), 7177, 7178, 7179, 0), ((2, 196, 146, 0, 0), 5141, 5142, 5143, 0), ((2, 199, 206, 0, 0), 7181, 7182, 7183, 0), ((2, 200, 147, 1, 0), 5149, 5150, 5151, 0), ((2, 203, 285, 1, 0), 9018, 9019, 9020, 0), ((2, 204, 148, 3, 0), 5156, 5157, 5158, 0), ((2, 207, 297, 3, 0), 9022, 9023, 9024, 0), ((2, 208, 149, 1, 0), 5185, 5186, 5187, 0), ((2, 211, 298, 1, 0), 9077, 9078, 9079, 0), ((2, 212, 150, 2, 0), 5189, 5190, 5191, 0), ((2, 215, 301, 2, 0), 9085, 9086, 9087, 0), ((2, 216, 151, 3, 0), 5197, 5198, 5199, 0), ((2, 219, 302, 3, 0), 9089, 9090, 9091, 0), ((2, 222, 152, 3, 0), 5208, 5209, 5210, 0), ((2, 226, 304, 3, 0), 9093, 9094, 9095, 0), ((2, 227, 153, 2, 0), 5223, 5224, 5225, 0), ((2, 231, 305, 2, 0), 9101, 9102, 9103, 0), ((2, 232, 154, 5, 0), 5227, 5228, 5229, 0), ((2, 235, 306, 5, 0), 9105, 9106, 9107, 0), ((2, 236, 155, 2, 0), 5238, 5239, 6000, 0), ((2, 239, 307, 2, 0), 9109, 9110, 9111, 0), ((2, 240, 156, 1, 0), 6005, 6006, 6007, 0), ((2, 243, 299, 1, 0), 9081, 9082, 9083, 0)]
noncomputable def mx_LL17 : List mx_L5 := mx_LP17.map (fun q => q.1)
set_option maxRecDepth 100000 in
theorem mx_LLok17 : ∀ q ∈ mx_LL17, mx_PL 17 q := mx_LP_s (by decide +kernel)
noncomputable def mx_KL17 : List (Nat × Int32) := []
noncomputable def mx_JL17 : List (Nat × Int64) := [(220, 4294967295)]
theorem mx_KLok17 : ∀ q ∈ mx_KL17, Cond.constant (mx_cn 17) q.1 q.2 ∈ mx_ws := (fun _ h => absurd h List.not_mem_nil)
theorem mx_JLok17 : ∀ q ∈ mx_JL17, Cond.constantLong (mx_cn 17) q.1 q.2 ∈ mx_ws := (List.forall_mem_cons.mpr ⟨mx_hw_s (p := 9113) (by decide +kernel), (fun _ h => absurd h List.not_mem_nil)⟩)
theorem mx_ARok : ∀ t, mx_ak t ≤ 3 → Cond.arrayClass (newarray.typeOf t) ∈ mx_ws := fun t h => by
  cases t with
  | int => exact mx_hw_s (p := 1043) (by decide +kernel)
  | long => exact mx_hw_s (p := 1186) (by decide +kernel)
  | byte => exact mx_hw_s (p := 7058) (by decide +kernel)
  | boolean => exact mx_hw_s (p := 7057) (by decide +kernel)
  | _ => exact absurd h (by decide)
