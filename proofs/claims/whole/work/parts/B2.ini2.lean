/-! the constructor of the reference, walked -/
def iT_X11a : List (Nat × Nat) := [(10, 20), (104, 6), (105, 4), (5, 2), (100, 40), (104, 3), (100, 3), (1, 17), (100, 6), (100, 6), (100, 6), (100, 6), (100, 6), (100, 6), (100, 7), (100, 7), (100, 42), (100, 36), (100, 6), (100, 6), (2, 8), (100, 18), (100, 18), (100, 18), (100, 3), (8, 3), (101, 14700), (6, 6), (5, 2), (100, 40), (100, 6), (100, 1820), (101, 28000), (7, 8), (100, 6), (5, 2), (100, 40), (5, 2), (100, 40), (5, 2), (100, 40), (0, 8), (5, 2), (100, 40), (5, 2), (100, 40), (5, 2), (100, 40), (5, 2), (100, 40), (5, 2), (100, 40), (3, 4), (100, 64), (100, 64), (4, 2), (104, 21), (5, 2), (100, 40), (5, 2), (100, 40), (5, 2), (100, 40), (5, 2), (100, 40), (5, 2), (100, 40), (5, 2), (100, 40), (5, 2), (100, 40), (5, 2), (100, 40), (5, 2), (100, 40), (5, 2), (100, 40), (5, 2), (100, 40), (5, 2), (100, 40), (5, 2), (100, 40), (5, 2), (100, 40), (5, 2), (100, 40), (5, 2), (100, 40), (5, 2), (100, 40), (5, 2), (100, 40), (5, 2), (100, 40), (5, 2), (100, 40), (5, 2), (100, 40), (5, 2), (100, 40), (5, 2), (100, 40), (5, 2), (100, 40), (100, 6), (5, 2), (100, 40), (5, 2), (100, 40), (5, 2), (100, 40), (5, 2), (100, 40), (5, 2), (100, 40), (5, 2), (100, 40), (9, 2), (102, 80), (9, 2), (102, 80), (9, 2), (102, 80), (9, 2), (102, 80), (5, 2), (100, 40), (5, 2), (100, 40), (5, 2), (100, 40), (11, 57)]
def iR_X11a : List (Nat × Nat × Nat) := [(5, 2, 130), (130, 0, 131), (5, 1, 128), (128, 0, 129), (5, 0, 126), (126, 0, 127), (2, 3, 124), (124, 0, 125), (2, 2, 122), (122, 0, 123), (2, 1, 120), (120, 0, 121), (2, 0, 118), (118, 0, 119), (1, 5, 116), (116, 0, 117), (1, 4, 114), (114, 0, 115), (1, 3, 112), (112, 0, 113), (1, 2, 110), (110, 0, 111), (1, 1, 108), (108, 0, 109), (1, 0, 106), (106, 0, 107), (0, 16, 105), (0, 15, 103), (103, 0, 104), (0, 14, 101), (101, 0, 102), (0, 13, 99), (99, 0, 100), (0, 12, 55), (56, 20, 97), (97, 0, 98), (56, 19, 95), (95, 0, 96), (56, 18, 93), (93, 0, 94), (56, 17, 91), (91, 0, 92), (56, 16, 89), (89, 0, 90), (56, 15, 87), (87, 0, 88), (56, 14, 85), (85, 0, 86), (56, 13, 83), (83, 0, 84), (56, 12, 81), (81, 0, 82), (56, 11, 79), (79, 0, 80), (56, 10, 77), (77, 0, 78), (56, 9, 75), (75, 0, 76), (56, 8, 73), (73, 0, 74), (56, 7, 71), (71, 0, 72), (56, 6, 69), (69, 0, 70), (56, 5, 67), (67, 0, 68), (56, 4, 65), (65, 0, 66), (56, 3, 63), (63, 0, 64), (56, 2, 61), (61, 0, 62), (56, 1, 59), (59, 0, 60), (56, 0, 57), (57, 0, 58), (55, 0, 56), (0, 11, 52), (52, 1, 54), (52, 0, 53), (0, 10, 41), (41, 1, 27), (41, 0, 7), (41, 7, 50), (50, 0, 51), (41, 5, 48), (48, 0, 49), (41, 4, 46), (46, 0, 47), (41, 3, 44), (44, 0, 45), (41, 2, 42), (42, 0, 43), (0, 9, 33), (33, 1, 27), (33, 0, 7), (33, 7, 39), (39, 0, 40), (33, 4, 37), (37, 0, 38), (33, 3, 35), (35, 0, 36), (33, 2, 34), (0, 8, 27), (27, 0, 7), (27, 5, 32), (27, 4, 31), (27, 2, 30), (27, 1, 28), (28, 0, 29), (0, 7, 25), (25, 0, 7), (25, 1, 26), (0, 6, 20), (20, 3, 24), (20, 2, 23), (20, 1, 22), (20, 0, 21), (0, 5, 7), (7, 16, 19), (7, 15, 18), (7, 14, 17), (7, 13, 16), (7, 12, 15), (7, 11, 14), (7, 10, 13), (7, 9, 12), (7, 8, 11), (7, 7, 10), (7, 6, 9), (7, 5, 8), (0, 4, 6), (0, 3, 5), (0, 2, 3), (3, 0, 4), (0, 1, 2), (0, 0, 1)]
def iZ_X11a : List (Nat × Nat × Int32) := [(130, 1, -1), (128, 1, -1), (126, 1, -1), (124, 1, -1), (122, 1, -1), (120, 1, -1), (118, 1, -1), (116, 1, -1), (114, 1, -1), (112, 1, -1), (110, 1, -1), (108, 1, -1), (106, 1, -1)]
def iT_X11b : List (Nat × Nat) := [(10, 20), (104, 6), (105, 4), (5, 2), (100, 40), (104, 3), (100, 3), (1, 17), (100, 6), (100, 6), (100, 6), (100, 6), (100, 6), (100, 6), (100, 7), (100, 7), (100, 42), (100, 36), (100, 6), (100, 6), (2, 8), (100, 18), (100, 18), (100, 18), (100, 3), (8, 3), (101, 14700), (6, 6), (5, 2), (100, 40), (100, 6), (100, 1820), (101, 28000), (7, 8), (100, 6), (5, 2), (100, 40), (5, 2), (100, 40), (5, 2), (100, 40), (0, 8), (5, 2), (100, 40), (5, 2), (100, 40), (5, 2), (100, 40), (5, 2), (100, 40), (5, 2), (100, 40), (3, 4), (100, 64), (100, 64), (4, 2), (104, 21), (5, 2), (100, 40), (5, 2), (100, 40), (5, 2), (100, 40), (5, 2), (100, 40), (5, 2), (100, 40), (5, 2), (100, 40), (5, 2), (100, 40), (5, 2), (100, 40), (5, 2), (100, 40), (5, 2), (100, 40), (5, 2), (100, 40), (5, 2), (100, 40), (5, 2), (100, 40), (5, 2), (100, 40), (5, 2), (100, 40), (5, 2), (100, 40), (5, 2), (100, 40), (5, 2), (100, 40), (5, 2), (100, 40), (5, 2), (100, 40), (5, 2), (100, 40), (5, 2), (100, 40), (5, 2), (100, 40), (5, 2), (100, 40), (100, 6), (5, 2), (100, 40), (5, 2), (100, 40), (5, 2), (100, 40), (5, 2), (100, 40), (5, 2), (100, 40), (5, 2), (100, 40), (9, 2), (102, 80), (9, 2), (102, 80), (9, 2), (102, 80), (9, 2), (102, 80), (5, 2), (100, 40), (5, 2), (100, 40), (5, 2), (100, 40), (11, 57), (100, 6), (100, 6), (100, 240), (100, 40), (100, 4), (102, 320), (100, 6), (100, 6), (100, 6), (100, 6), (100, 18), (100, 18), (100, 12), (100, 18), (100, 24), (100, 24), (100, 20), (100, 3), (100, 3), (100, 60), (103, 3), (101, 14700), (100, 12), (100, 3822), (101, 18200), (101, 18200), (100, 6), (100, 6), (100, 6), (100, 12), (100, 24), (100, 42), (100, 1008), (100, 64)]
def iR_X11b : List (Nat × Nat × Nat) := [(132, 55, 166), (132, 54, 165), (132, 53, 164), (132, 51, 163), (132, 50, 162), (132, 47, 161), (132, 46, 160), (132, 45, 159), (132, 44, 158), (132, 43, 157), (132, 42, 156), (132, 41, 155), (132, 39, 154), (132, 38, 153), (132, 37, 152), (132, 36, 151), (132, 35, 150), (132, 34, 149), (132, 32, 148), (132, 30, 147), (132, 28, 146), (132, 27, 145), (132, 26, 144), (132, 18, 143), (132, 16, 142), (132, 14, 141), (132, 13, 140), (132, 12, 139), (132, 8, 138), (132, 7, 137), (132, 6, 136), (132, 5, 135), (132, 4, 134), (132, 1, 133), (5, 2, 130), (130, 0, 131), (5, 1, 128), (128, 0, 129), (5, 0, 126), (126, 0, 127), (2, 3, 124), (124, 0, 125), (2, 2, 122), (122, 0, 123), (2, 1, 120), (120, 0, 121), (2, 0, 118), (118, 0, 119), (1, 5, 116), (116, 0, 117), (1, 4, 114), (114, 0, 115), (1, 3, 112), (112, 0, 113), (1, 2, 110), (110, 0, 111), (1, 1, 108), (108, 0, 109), (1, 0, 106), (106, 0, 107), (0, 16, 105), (0, 15, 103), (103, 0, 104), (0, 14, 101), (101, 0, 102), (0, 13, 99), (99, 0, 100), (0, 12, 55), (56, 20, 97), (97, 0, 98), (56, 19, 95), (95, 0, 96), (56, 18, 93), (93, 0, 94), (56, 17, 91), (91, 0, 92), (56, 16, 89), (89, 0, 90), (56, 15, 87), (87, 0, 88), (56, 14, 85), (85, 0, 86), (56, 13, 83), (83, 0, 84), (56, 12, 81), (81, 0, 82), (56, 11, 79), (79, 0, 80), (56, 10, 77), (77, 0, 78), (56, 9, 75), (75, 0, 76), (56, 8, 73), (73, 0, 74), (56, 7, 71), (71, 0, 72), (56, 6, 69), (69, 0, 70), (56, 5, 67), (67, 0, 68), (56, 4, 65), (65, 0, 66), (56, 3, 63), (63, 0, 64), (56, 2, 61), (61, 0, 62), (56, 1, 59), (59, 0, 60), (56, 0, 57), (57, 0, 58), (55, 0, 56), (0, 11, 52), (52, 1, 54), (52, 0, 53), (0, 10, 41), (41, 1, 27), (41, 0, 7), (41, 7, 50), (50, 0, 51), (41, 5, 48), (48, 0, 49), (41, 4, 46), (46, 0, 47), (41, 3, 44), (44, 0, 45), (41, 2, 42), (42, 0, 43), (0, 9, 33), (33, 1, 27), (33, 0, 7), (33, 7, 39), (39, 0, 40), (33, 4, 37), (37, 0, 38), (33, 3, 35), (35, 0, 36), (33, 2, 34), (0, 8, 27), (27, 0, 7), (27, 5, 32), (27, 4, 31), (27, 2, 30), (27, 1, 28), (28, 0, 29), (0, 7, 25), (25, 0, 7), (25, 1, 26), (0, 6, 20), (20, 3, 24), (20, 2, 23), (20, 1, 22), (20, 0, 21), (0, 5, 7), (7, 16, 19), (7, 15, 18), (7, 14, 17), (7, 13, 16), (7, 12, 15), (7, 11, 14), (7, 10, 13), (7, 9, 12), (7, 8, 11), (7, 7, 10), (7, 6, 9), (7, 5, 8), (0, 4, 6), (0, 3, 5), (0, 2, 3), (3, 0, 4), (0, 1, 2), (0, 0, 1)]
def iZ_X11b : List (Nat × Nat × Int32) := [(137, 3, -1), (137, 2, -1), (137, 1, -1), (137, 0, -1), (134, 5, -1), (134, 4, -1), (134, 3, -1), (134, 2, -1), (134, 1, -1), (134, 0, -1), (130, 1, -1), (128, 1, -1), (126, 1, -1), (124, 1, -1), (122, 1, -1), (120, 1, -1), (118, 1, -1), (116, 1, -1), (114, 1, -1), (112, 1, -1), (110, 1, -1), (108, 1, -1), (106, 1, -1)]
theorem i_X11_init (d : Nat) {M : pm_M} (h : In iT_X11a iR_X11a iZ_X11a M) : ∃ M', pm_call (d + 1) 150 [.ref 132] M none M' ∧ In iT_X11b iR_X11b iZ_X11b M' := by
  obtain ⟨r, M', hc, hr, h1⟩ := eq_150 (d := d + 0) (A := [.ref 132]) (M := M) (Q := fun r M' => r = none ∧ In iT_X11b iR_X11b iZ_X11b M') (Nat.le_of_ble_eq_true rfl) (by
    refine st_ald rfl rfl ?_
    refine st_oin rfl (Nat.le_of_ble_eq_true rfl) ?_
    refine st_ald rfl rfl ?_
    refine st_k rfl ?_
    refine st_nwaI (N := 6) (m := 133) rfl h (by decide) (by decide) (by decide) (by decide +kernel) (fun _ h1 => ?_)
    refine st_pRI rfl h1 (by decide +kernel) (fun _ h2 => ?_)
    refine st_ald rfl rfl ?_
    refine st_k rfl ?_
    refine st_nwaI (N := 6) (m := 134) rfl h2 (by decide) (by decide) (by decide) (by decide +kernel) (fun _ h3 => ?_)
    refine st_pRI rfl h3 (by decide +kernel) (fun _ h4 => ?_)
    refine st_ald rfl rfl ?_
    refine st_k rfl ?_
    refine st_nwaI (N := 240) (m := 135) rfl h4 (by decide) (by decide) (by decide) (by decide +kernel) (fun _ h5 => ?_)
    refine st_pRI rfl h5 (by decide +kernel) (fun _ h6 => ?_)
    refine st_ald rfl rfl ?_
    refine st_k rfl ?_
    refine st_nwaI (N := 40) (m := 136) rfl h6 (by decide) (by decide) (by decide) (by decide +kernel) (fun _ h7 => ?_)
    refine st_pRI rfl h7 (by decide +kernel) (fun _ h8 => ?_)
    refine st_ald rfl rfl ?_
    refine st_k rfl ?_
    refine st_nwaI (N := 4) (m := 137) rfl h8 (by decide) (by decide) (by decide) (by decide +kernel) (fun _ h9 => ?_)
    refine st_pRI rfl h9 (by decide +kernel) (fun _ h10 => ?_)
    refine st_ald rfl rfl ?_
    refine st_k rfl ?_
    refine st_nwaI (N := 320) (m := 138) rfl h10 (by decide) (by decide) (by decide) (by decide +kernel) (fun _ h11 => ?_)
    refine st_pRI rfl h11 (by decide +kernel) (fun _ h12 => ?_)
    refine st_ald rfl rfl ?_
    refine st_k rfl ?_
    refine st_nwaI (N := 6) (m := 139) rfl h12 (by decide) (by decide) (by decide) (by decide +kernel) (fun _ h13 => ?_)
    refine st_pRI rfl h13 (by decide +kernel) (fun _ h14 => ?_)
    refine st_ald rfl rfl ?_
    refine st_k rfl ?_
    refine st_nwaI (N := 6) (m := 140) rfl h14 (by decide) (by decide) (by decide) (by decide +kernel) (fun _ h15 => ?_)
    refine st_pRI rfl h15 (by decide +kernel) (fun _ h16 => ?_)
    refine st_ald rfl rfl ?_
    refine st_k rfl ?_
    refine st_nwaI (N := 6) (m := 141) rfl h16 (by decide) (by decide) (by decide) (by decide +kernel) (fun _ h17 => ?_)
    refine st_pRI rfl h17 (by decide +kernel) (fun _ h18 => ?_)
    refine st_ald rfl rfl ?_
    refine st_k rfl ?_
    refine st_nwaI (N := 6) (m := 142) rfl h18 (by decide) (by decide) (by decide) (by decide +kernel) (fun _ h19 => ?_)
    refine st_pRI rfl h19 (by decide +kernel) (fun _ h20 => ?_)
    refine st_ald rfl rfl ?_
    refine st_k rfl ?_
    refine st_nwaI (N := 18) (m := 143) rfl h20 (by decide) (by decide) (by decide) (by decide +kernel) (fun _ h21 => ?_)
    refine st_pRI rfl h21 (by decide +kernel) (fun _ h22 => ?_)
    refine st_ald rfl rfl ?_
    refine st_k rfl ?_
    refine st_nwaI (N := 18) (m := 144) rfl h22 (by decide) (by decide) (by decide) (by decide +kernel) (fun _ h23 => ?_)
    refine st_pRI rfl h23 (by decide +kernel) (fun _ h24 => ?_)
    refine st_ald rfl rfl ?_
    refine st_k rfl ?_
    refine st_nwaI (N := 12) (m := 145) rfl h24 (by decide) (by decide) (by decide) (by decide +kernel) (fun _ h25 => ?_)
    refine st_pRI rfl h25 (by decide +kernel) (fun _ h26 => ?_)
    refine st_ald rfl rfl ?_
    refine st_k rfl ?_
    refine st_nwaI (N := 18) (m := 146) rfl h26 (by decide) (by decide) (by decide) (by decide +kernel) (fun _ h27 => ?_)
    refine st_pRI rfl h27 (by decide +kernel) (fun _ h28 => ?_)
    refine st_ald rfl rfl ?_
    refine st_k rfl ?_
    refine st_nwaI (N := 24) (m := 147) rfl h28 (by decide) (by decide) (by decide) (by decide +kernel) (fun _ h29 => ?_)
    refine st_pRI rfl h29 (by decide +kernel) (fun _ h30 => ?_)
    refine st_ald rfl rfl ?_
    refine st_k rfl ?_
    refine st_nwaI (N := 24) (m := 148) rfl h30 (by decide) (by decide) (by decide) (by decide +kernel) (fun _ h31 => ?_)
    refine st_pRI rfl h31 (by decide +kernel) (fun _ h32 => ?_)
    refine st_ald rfl rfl ?_
    refine st_k rfl ?_
    refine st_nwaI (N := 20) (m := 149) rfl h32 (by decide) (by decide) (by decide) (by decide +kernel) (fun _ h33 => ?_)
    refine st_pRI rfl h33 (by decide +kernel) (fun _ h34 => ?_)
    refine st_ald rfl rfl ?_
    refine st_k rfl ?_
    refine st_nwaI (N := 3) (m := 150) rfl h34 (by decide) (by decide) (by decide) (by decide +kernel) (fun _ h35 => ?_)
    refine st_pRI rfl h35 (by decide +kernel) (fun _ h36 => ?_)
    refine st_ald rfl rfl ?_
    refine st_k rfl ?_
    refine st_nwaI (N := 3) (m := 151) rfl h36 (by decide) (by decide) (by decide) (by decide +kernel) (fun _ h37 => ?_)
    refine st_pRI rfl h37 (by decide +kernel) (fun _ h38 => ?_)
    refine st_ald rfl rfl ?_
    refine st_k rfl ?_
    refine st_nwaI (N := 60) (m := 152) rfl h38 (by decide) (by decide) (by decide) (by decide +kernel) (fun _ h39 => ?_)
    refine st_pRI rfl h39 (by decide +kernel) (fun _ h40 => ?_)
    refine st_ald rfl rfl ?_
    refine st_k rfl ?_
    refine st_nwaI (N := 3) (m := 153) rfl h40 (by decide) (by decide) (by decide) (by decide +kernel) (fun _ h41 => ?_)
    refine st_pRI rfl h41 (by decide +kernel) (fun _ h42 => ?_)
    refine st_ald rfl rfl ?_
    refine st_k rfl ?_
    refine st_nwaI (N := 14700) (m := 154) rfl h42 (by decide) (by decide) (by decide) (by decide +kernel) (fun _ h43 => ?_)
    refine st_pRI rfl h43 (by decide +kernel) (fun _ h44 => ?_)
    refine st_ald rfl rfl ?_
    refine st_k rfl ?_
    refine st_nwaI (N := 12) (m := 155) rfl h44 (by decide) (by decide) (by decide) (by decide +kernel) (fun _ h45 => ?_)
    refine st_pRI rfl h45 (by decide +kernel) (fun _ h46 => ?_)
    refine st_ald rfl rfl ?_
    refine st_k rfl ?_
    refine st_nwaI (N := 3822) (m := 156) rfl h46 (by decide) (by decide) (by decide) (by decide +kernel) (fun _ h47 => ?_)
    refine st_pRI rfl h47 (by decide +kernel) (fun _ h48 => ?_)
    refine st_ald rfl rfl ?_
    refine st_k rfl ?_
    refine st_nwaI (N := 18200) (m := 157) rfl h48 (by decide) (by decide) (by decide) (by decide +kernel) (fun _ h49 => ?_)
    refine st_pRI rfl h49 (by decide +kernel) (fun _ h50 => ?_)
    refine st_ald rfl rfl ?_
    refine st_k rfl ?_
    refine st_nwaI (N := 18200) (m := 158) rfl h50 (by decide) (by decide) (by decide) (by decide +kernel) (fun _ h51 => ?_)
    refine st_pRI rfl h51 (by decide +kernel) (fun _ h52 => ?_)
    refine st_ald rfl rfl ?_
    refine st_k rfl ?_
    refine st_nwaI (N := 6) (m := 159) rfl h52 (by decide) (by decide) (by decide) (by decide +kernel) (fun _ h53 => ?_)
    refine st_pRI rfl h53 (by decide +kernel) (fun _ h54 => ?_)
    refine st_ald rfl rfl ?_
    refine st_k rfl ?_
    refine st_nwaI (N := 6) (m := 160) rfl h54 (by decide) (by decide) (by decide) (by decide +kernel) (fun _ h55 => ?_)
    refine st_pRI rfl h55 (by decide +kernel) (fun _ h56 => ?_)
    refine st_ald rfl rfl ?_
    refine st_k rfl ?_
    refine st_nwaI (N := 6) (m := 161) rfl h56 (by decide) (by decide) (by decide) (by decide +kernel) (fun _ h57 => ?_)
    refine st_pRI rfl h57 (by decide +kernel) (fun _ h58 => ?_)
    refine st_ald rfl rfl ?_
    refine st_k rfl ?_
    refine st_nwaI (N := 12) (m := 162) rfl h58 (by decide) (by decide) (by decide) (by decide +kernel) (fun _ h59 => ?_)
    refine st_pRI rfl h59 (by decide +kernel) (fun _ h60 => ?_)
    refine st_ald rfl rfl ?_
    refine st_k rfl ?_
    refine st_nwaI (N := 24) (m := 163) rfl h60 (by decide) (by decide) (by decide) (by decide +kernel) (fun _ h61 => ?_)
    refine st_pRI rfl h61 (by decide +kernel) (fun _ h62 => ?_)
    refine st_ald rfl rfl ?_
    refine st_k rfl ?_
    refine st_nwaI (N := 42) (m := 164) rfl h62 (by decide) (by decide) (by decide) (by decide +kernel) (fun _ h63 => ?_)
    refine st_pRI rfl h63 (by decide +kernel) (fun _ h64 => ?_)
    refine st_ald rfl rfl ?_
    refine st_k rfl ?_
    refine st_nwaI (N := 1008) (m := 165) rfl h64 (by decide) (by decide) (by decide) (by decide +kernel) (fun _ h65 => ?_)
    refine st_pRI rfl h65 (by decide +kernel) (fun _ h66 => ?_)
    refine st_ald rfl rfl ?_
    refine st_k rfl ?_
    refine st_nwaI (N := 64) (m := 166) rfl h66 (by decide) (by decide) (by decide) (by decide +kernel) (fun _ h67 => ?_)
    refine st_pRI rfl h67 (by decide +kernel) (fun _ h68 => ?_)
    refine st_k rfl ?_
    refine st_istI (L' := [some (.ref 132), some (.int 0)]) rfl rfl ?_
    refine st_ild rfl rfl ?_
    refine st_k rfl ?_
    refine st_b2 rfl (fun zq => absurd zq (by decide)) (fun _ => ?_)
    refine st_ald rfl rfl ?_
    refine st_gRI (a := 134) rfl h68 (by decide +kernel) (by decide +kernel) ?_
    refine st_ild rfl rfl ?_
    refine st_k rfl ?_
    refine st_iastI (j := 0) rfl h68 (by decide +kernel) (by decide) (pk_in 0 6 (by decide)) (fun _ h69 => ?_)
    refine st_incI (y := 1) (L' := [some (.ref 132), some (.int 1)]) rfl rfl (by decide) rfl ?_
    refine st_go rfl ?_
    refine st_ild rfl rfl ?_
    refine st_k rfl ?_
    refine st_b2 rfl (fun zq => absurd zq (by decide)) (fun _ => ?_)
    refine st_ald rfl rfl ?_
    refine st_gRI (a := 134) rfl h69 (by decide +kernel) (by decide +kernel) ?_
    refine st_ild rfl rfl ?_
    refine st_k rfl ?_
    refine st_iastI (j := 1) rfl h69 (by decide +kernel) (by decide) (pk_in 1 6 (by decide)) (fun _ h70 => ?_)
    refine st_incI (y := 2) (L' := [some (.ref 132), some (.int 2)]) rfl rfl (by decide) rfl ?_
    refine st_go rfl ?_
    refine st_ild rfl rfl ?_
    refine st_k rfl ?_
    refine st_b2 rfl (fun zq => absurd zq (by decide)) (fun _ => ?_)
    refine st_ald rfl rfl ?_
    refine st_gRI (a := 134) rfl h70 (by decide +kernel) (by decide +kernel) ?_
    refine st_ild rfl rfl ?_
    refine st_k rfl ?_
    refine st_iastI (j := 2) rfl h70 (by decide +kernel) (by decide) (pk_in 2 6 (by decide)) (fun _ h71 => ?_)
    refine st_incI (y := 3) (L' := [some (.ref 132), some (.int 3)]) rfl rfl (by decide) rfl ?_
    refine st_go rfl ?_
    refine st_ild rfl rfl ?_
    refine st_k rfl ?_
    refine st_b2 rfl (fun zq => absurd zq (by decide)) (fun _ => ?_)
    refine st_ald rfl rfl ?_
    refine st_gRI (a := 134) rfl h71 (by decide +kernel) (by decide +kernel) ?_
    refine st_ild rfl rfl ?_
    refine st_k rfl ?_
    refine st_iastI (j := 3) rfl h71 (by decide +kernel) (by decide) (pk_in 3 6 (by decide)) (fun _ h72 => ?_)
    refine st_incI (y := 4) (L' := [some (.ref 132), some (.int 4)]) rfl rfl (by decide) rfl ?_
    refine st_go rfl ?_
    refine st_ild rfl rfl ?_
    refine st_k rfl ?_
    refine st_b2 rfl (fun zq => absurd zq (by decide)) (fun _ => ?_)
    refine st_ald rfl rfl ?_
    refine st_gRI (a := 134) rfl h72 (by decide +kernel) (by decide +kernel) ?_
    refine st_ild rfl rfl ?_
    refine st_k rfl ?_
    refine st_iastI (j := 4) rfl h72 (by decide +kernel) (by decide) (pk_in 4 6 (by decide)) (fun _ h73 => ?_)
    refine st_incI (y := 5) (L' := [some (.ref 132), some (.int 5)]) rfl rfl (by decide) rfl ?_
    refine st_go rfl ?_
    refine st_ild rfl rfl ?_
    refine st_k rfl ?_
    refine st_b2 rfl (fun zq => absurd zq (by decide)) (fun _ => ?_)
    refine st_ald rfl rfl ?_
    refine st_gRI (a := 134) rfl h73 (by decide +kernel) (by decide +kernel) ?_
    refine st_ild rfl rfl ?_
    refine st_k rfl ?_
    refine st_iastI (j := 5) rfl h73 (by decide +kernel) (by decide) (pk_in 5 6 (by decide)) (fun _ h74 => ?_)
    refine st_incI (y := 6) (L' := [some (.ref 132), some (.int 6)]) rfl rfl (by decide) rfl ?_
    refine st_go rfl ?_
    refine st_ild rfl rfl ?_
    refine st_k rfl ?_
    refine st_b2 rfl (fun _ => ?_) (fun zq => absurd (by decide) zq)
    refine st_k rfl ?_
    refine st_istI (L' := [some (.ref 132), some (.int 0)]) rfl rfl ?_
    refine st_ild rfl rfl ?_
    refine st_k rfl ?_
    refine st_b2 rfl (fun zq => absurd zq (by decide)) (fun _ => ?_)
    refine st_ald rfl rfl ?_
    refine st_gRI (a := 137) rfl h74 (by decide +kernel) (by decide +kernel) ?_
    refine st_ild rfl rfl ?_
    refine st_k rfl ?_
    refine st_iastI (j := 0) rfl h74 (by decide +kernel) (by decide) (pk_in 0 4 (by decide)) (fun _ h75 => ?_)
    refine st_incI (y := 1) (L' := [some (.ref 132), some (.int 1)]) rfl rfl (by decide) rfl ?_
    refine st_go rfl ?_
    refine st_ild rfl rfl ?_
    refine st_k rfl ?_
    refine st_b2 rfl (fun zq => absurd zq (by decide)) (fun _ => ?_)
    refine st_ald rfl rfl ?_
    refine st_gRI (a := 137) rfl h75 (by decide +kernel) (by decide +kernel) ?_
    refine st_ild rfl rfl ?_
    refine st_k rfl ?_
    refine st_iastI (j := 1) rfl h75 (by decide +kernel) (by decide) (pk_in 1 4 (by decide)) (fun _ h76 => ?_)
    refine st_incI (y := 2) (L' := [some (.ref 132), some (.int 2)]) rfl rfl (by decide) rfl ?_
    refine st_go rfl ?_
    refine st_ild rfl rfl ?_
    refine st_k rfl ?_
    refine st_b2 rfl (fun zq => absurd zq (by decide)) (fun _ => ?_)
    refine st_ald rfl rfl ?_
    refine st_gRI (a := 137) rfl h76 (by decide +kernel) (by decide +kernel) ?_
    refine st_ild rfl rfl ?_
    refine st_k rfl ?_
    refine st_iastI (j := 2) rfl h76 (by decide +kernel) (by decide) (pk_in 2 4 (by decide)) (fun _ h77 => ?_)
    refine st_incI (y := 3) (L' := [some (.ref 132), some (.int 3)]) rfl rfl (by decide) rfl ?_
    refine st_go rfl ?_
    refine st_ild rfl rfl ?_
    refine st_k rfl ?_
    refine st_b2 rfl (fun zq => absurd zq (by decide)) (fun _ => ?_)
    refine st_ald rfl rfl ?_
    refine st_gRI (a := 137) rfl h77 (by decide +kernel) (by decide +kernel) ?_
    refine st_ild rfl rfl ?_
    refine st_k rfl ?_
    refine st_iastI (j := 3) rfl h77 (by decide +kernel) (by decide) (pk_in 3 4 (by decide)) (fun _ h78 => ?_)
    refine st_incI (y := 4) (L' := [some (.ref 132), some (.int 4)]) rfl rfl (by decide) rfl ?_
    refine st_go rfl ?_
    refine st_ild rfl rfl ?_
    refine st_k rfl ?_
    refine st_b2 rfl (fun _ => ?_) (fun zq => absurd (by decide) zq)
    exact st_vret rfl ⟨rfl, h78.to (by decide +kernel) (by decide +kernel) (by decide +kernel)⟩)
  subst hr
  exact ⟨M', hc, h1⟩
