theorem sub_of {big ws : List Cond} (ps : List Nat) (h : ws = ps.filterMap (fun i => big[i]?)) : ∀ w ∈ ws, w ∈ big := by
  intro w hw
  rw [h] at hw
  obtain ⟨i, -, hi⟩ := List.mem_filterMap.mp hw
  exact List.mem_of_getElem? hi
set_option maxRecDepth 100000 in
theorem inx_0 : ∀ w ∈ u_ws RX0 TX0 3, w ∈ lw_tbl := sub_of [596, 597, 598] rfl
set_option maxRecDepth 100000 in
theorem inx_1 : ∀ w ∈ u_ws RX1 TX1 3, w ∈ lw_tbl := sub_of [583, 585, 587] rfl
set_option maxRecDepth 100000 in
theorem inx_2 : ∀ w ∈ u_ws RX2 TX2 3, w ∈ lw_tbl := sub_of [626, 627, 628] rfl
set_option maxRecDepth 100000 in
theorem inx_3 : ∀ w ∈ u_ws RX3 TX3 3, w ∈ lw_tbl := sub_of [616, 617, 618] rfl
set_option maxRecDepth 100000 in
theorem inx_4 : ∀ w ∈ u_ws RX4 TX4 11, w ∈ lw_tbl := sub_of [291, 293, 295, 297, 299, 301, 303, 305, 307, 309, 311] rfl
set_option maxRecDepth 100000 in
theorem inx_5 : ∀ w ∈ u_ws RX5 TX5 8, w ∈ lw_tbl := sub_of [173, 175, 177, 179, 181, 183, 185, 187] rfl
set_option maxRecDepth 100000 in
theorem inx_6 : ∀ w ∈ u_ws RX6 TX6 3, w ∈ lw_tbl := sub_of [148, 150, 152] rfl
set_option maxRecDepth 100000 in
theorem inx_7 : ∀ w ∈ u_ws RX7 TX7 3, w ∈ lw_tbl := sub_of [606, 607, 608] rfl
set_option maxRecDepth 100000 in
theorem inx_8 : ∀ w ∈ u_ws RX8 TX8 16, w ∈ lw_tbl := sub_of [215, 217, 219, 221, 223, 225, 227, 229, 231, 233, 235, 237, 239, 241, 243, 245] rfl
set_option maxRecDepth 100000 in
theorem inx_9 : ∀ w ∈ u_ws RX10 TX10 2, w ∈ lw_tbl := sub_of [258, 260] rfl
set_option maxRecDepth 100000 in
theorem inx_10 : ∀ w ∈ u_ws RX11 TX11 9, w ∈ lw_tbl := sub_of [323, 325, 327, 329, 331, 333, 335, 337, 339] rfl
set_option maxRecDepth 100000 in
theorem inx_11 : ∀ w ∈ u_ws RX12 TX12 26, w ∈ lw_tbl := sub_of [1032, 1034, 1036, 1038, 1040, 1042, 1044, 1046, 1048, 1050, 1052, 1054, 1056, 1058, 1060, 1062, 1064, 1066, 1068, 1070, 1072, 1074, 1076, 1078, 1080, 1082] rfl
set_option maxRecDepth 100000 in
theorem inx_F : ∀ w ∈ nF.map (fun t => Cond.fieldLinkNest t.1 t.2.1 t.2.2.1 t.2.2.2.1 t.2.2.2.2 "FenceYards"), w ∈ lw_tbl := sub_of [145, 164, 169, 171, 212, 214, 257, 277, 278, 280, 281, 282, 284, 285, 289, 290] rfl
set_option maxRecDepth 100000 in
theorem inx_M : ∀ w ∈ nM.map (fun t => Cond.methodLinkNest t.1 t.2.1 t.2.2 "FenceYards"), w ∈ lw_tbl := sub_of [135, 158, 193, 251, 265, 355, 367, 371, 375, 383, 387, 391, 402, 411, 419, 423, 514, 527, 531, 549, 630, 647, 648, 652, 656, 690, 694, 705, 709, 721, 748, 752, 763, 767, 768, 772, 781, 787, 795, 796, 808, 809, 819, 837, 845, 854, 862, 875, 884, 932, 939, 952, 958, 963, 967, 981, 990] rfl
set_option maxRecDepth 100000 in
theorem inx_D : ∀ w ∈ nD.map (fun t => Cond.declares t), w ∈ lw_tbl := sub_of [661, 898] rfl
set_option maxRecDepth 100000 in
theorem inx_Y : ∀ w ∈ nY.map (fun t => Cond.castable t.1 t.2), w ∈ lw_tbl := sub_of [1407, 1408, 1409, 1410, 1411, 1412, 1413, 1414] rfl
set_option maxRecDepth 100000 in
theorem inx_R : ∀ w ∈ (List.range 8).map (fun i => Cond.stringRef "FenceYards$Reader" (sIx.getD i 0) (sTx.getD i "")), w ∈ lw_tbl := sub_of [453, 522, 535, 544, 545, 546, 547, 548] rfl
set_option maxRecDepth 100000 in
theorem gl_X11_init : GoodIn lw_tbl wsX11_init := goodIn_r _ [129, 130, 131, 132, 133, 134, 106, 314, 156, 157, 108, 315, 191, 192, 109, 316, 249, 250, 110, 317, 263, 264, 111, 318, 319, 320, 321, 136, 137, 138, 139, 155, 144, 146, 147, 141, 142, 107, 143, 159, 160, 161, 190, 162, 194, 195, 196, 197, 198, 248, 199, 201, 202, 203, 204, 205, 206, 252, 253, 254, 255, 266, 267, 268, 269, 271, 272, 273, 274, 275, 148, 150, 152, 323, 325, 327, 329, 331, 333, 335, 337, 339, 173, 175, 177, 179, 181, 183, 185, 187, 215, 217, 219, 221, 223, 225, 227, 229, 231, 233, 235, 237, 239, 241, 243, 245, 258, 260, 291, 293, 295, 297, 299, 301, 303, 305, 307, 309, 311] rfl (by decide +kernel)
set_option maxRecDepth 100000 in
theorem gl_X12_init : GoodIn lw_tbl wsX12_init := goodIn_r _ [1003, 1004, 131, 132, 155, 1006, 1007, 248, 1008, 1009, 1010, 1011, 1013, 1022, 1085, 1023, 1024, 1025, 1026, 1027, 1028, 1030, 1005, 1032, 1034, 1036, 1038, 1040, 1042, 1044, 1046, 1048, 1050, 1052, 1054, 1056, 1058, 1060, 1062, 1064, 1066, 1068, 1070, 1072, 1074, 1076, 1078, 1080, 1082] rfl (by decide +kernel)
/-- the heap that both constructors leave -/
def σ00 : Hp := (fun q k => if q = 12 then (if k < 8 then (-1) else 0) else if q = 55 then (if k < 8 then (-1000000) else 0) else 0, fun _ _ => 0, fun _ _ => none, fun _ => 99, 67)
theorem WF00 : WF σ00 := ⟨Nat.le_refl 67, Or.inr (Or.inr (Or.inl rfl)), Or.inr (Or.inr (Or.inr rfl)), fun _ _ => rfl⟩
def wdF (G : GT) : va_W := [(G.1 + 0, .inr (10, [.ref (G.1 + 1), .ref (G.1 + 13), .ref (G.1 + 15), .ref (G.1 + 25), .ref (G.1 + 27), .ref (G.1 + 33), .ref (G.1 + 39), .ref (G.1 + 45), .int 0])), (G.1 + 1, .inr (6, [.ref (G.1 + 2), .ref (G.1 + 11), .ref (G.1 + 12)])), (G.1 + 2, .inl (G.2.2.1 5, 8, .inr (.inr (.inr (.inr (fun k => if k < 8 then some (G.1 + (3 + k)) else none)))))), (G.1 + 3, .inl (G.2.2.1 1, 40, .inl (fun _ => 0))), (G.1 + 4, .inl (G.2.2.1 1, 40, .inl (fun _ => 0))), (G.1 + 5, .inl (G.2.2.1 1, 40, .inl (fun _ => 0))), (G.1 + 6, .inl (G.2.2.1 1, 40, .inl (fun _ => 0))), (G.1 + 7, .inl (G.2.2.1 1, 40, .inl (fun _ => 0))), (G.1 + 8, .inl (G.2.2.1 1, 40, .inl (fun _ => 0))), (G.1 + 9, .inl (G.2.2.1 1, 40, .inl (fun _ => 0))), (G.1 + 10, .inl (G.2.2.1 1, 40, .inl (fun _ => 0))), (G.1 + 11, .inl (G.2.2.1 1, 8, .inl (fun _ => 0))), (G.1 + 12, .inl (G.2.2.1 1, 8, .inl (fun k => if k < 8 then (-1) else 0))), (G.1 + 13, .inr (5, [.ref (G.1 + 14), .int 0, .int 0, .int 0, .int 0, .int 0, .int 0, .int 0])), (G.1 + 14, .inl (G.2.2.1 0, 400, .inl (fun _ => 0))), (G.1 + 15, .inr (8, [.ref (G.1 + 16), .ref (G.1 + 17), .ref (G.1 + 18), .int 0, .ref (G.1 + 19), .ref (G.1 + 20), .ref (G.1 + 21), .ref (G.1 + 22), .ref (G.1 + 23), .ref (G.1 + 24), .int 0, .int 0, .int 0, .int 0, .int 0, .int 0])), (G.1 + 16, .inl (G.2.2.1 1, 12, .inl (fun _ => 0))), (G.1 + 17, .inl (G.2.2.1 1, 12, .inl (fun _ => 0))), (G.1 + 18, .inl (G.2.2.1 3, 12, .inl (fun _ => 0))), (G.1 + 19, .inl (G.2.2.1 1, 169, .inl (fun _ => 0))), (G.1 + 20, .inl (G.2.2.1 1, 169, .inl (fun _ => 0))), (G.1 + 21, .inl (G.2.2.1 1, 169, .inl (fun _ => 0))), (G.1 + 22, .inl (G.2.2.1 1, 12, .inl (fun _ => 0))), (G.1 + 23, .inl (G.2.2.1 1, 156, .inl (fun _ => 0))), (G.1 + 24, .inl (G.2.2.1 1, 12, .inl (fun _ => 0))), (G.1 + 25, .inr (9, [.ref (G.1 + 26), .int 0])), (G.1 + 26, .inl (G.2.2.1 1, 16, .inl (fun _ => 0))), (G.1 + 27, .inr (4, [.ref (G.1 + 28), .ref (G.1 + 29), .ref (G.1 + 30), .ref (G.1 + 31), .ref (G.1 + 32), .int 0, .int 0, .int 0, .int 0, .int 0, .int 0])), (G.1 + 28, .inl (G.2.2.1 4, 12, .inr (.inr (.inr (.inr (fun _ => none)))))), (G.1 + 29, .inl (G.2.2.1 1, 13, .inl (fun _ => 0))), (G.1 + 30, .inl (G.2.2.1 1, 13, .inl (fun _ => 0))), (G.1 + 31, .inl (G.2.2.1 1, 13, .inl (fun _ => 0))), (G.1 + 32, .inl (G.2.2.1 1, 13, .inl (fun _ => 0))), (G.1 + 33, .inr (4, [.ref (G.1 + 34), .ref (G.1 + 35), .ref (G.1 + 36), .ref (G.1 + 37), .ref (G.1 + 38), .int 0, .int 0, .int 0, .int 0, .int 0, .int 0])), (G.1 + 34, .inl (G.2.2.1 4, 12, .inr (.inr (.inr (.inr (fun _ => none)))))), (G.1 + 35, .inl (G.2.2.1 1, 13, .inl (fun _ => 0))), (G.1 + 36, .inl (G.2.2.1 1, 13, .inl (fun _ => 0))), (G.1 + 37, .inl (G.2.2.1 1, 13, .inl (fun _ => 0))), (G.1 + 38, .inl (G.2.2.1 1, 13, .inl (fun _ => 0))), (G.1 + 39, .inr (4, [.ref (G.1 + 40), .ref (G.1 + 41), .ref (G.1 + 42), .ref (G.1 + 43), .ref (G.1 + 44), .int 0, .int 0, .int 0, .int 0, .int 0, .int 0])), (G.1 + 40, .inl (G.2.2.1 4, 12, .inr (.inr (.inr (.inr (fun _ => none)))))), (G.1 + 41, .inl (G.2.2.1 1, 13, .inl (fun _ => 0))), (G.1 + 42, .inl (G.2.2.1 1, 13, .inl (fun _ => 0))), (G.1 + 43, .inl (G.2.2.1 1, 13, .inl (fun _ => 0))), (G.1 + 44, .inl (G.2.2.1 1, 13, .inl (fun _ => 0))), (G.1 + 45, .inr (4, [.ref (G.1 + 46), .ref (G.1 + 47), .ref (G.1 + 48), .ref (G.1 + 49), .ref (G.1 + 50), .int 0, .int 0, .int 0, .int 0, .int 0, .int 0])), (G.1 + 46, .inl (G.2.2.1 4, 12, .inr (.inr (.inr (.inr (fun _ => none)))))), (G.1 + 47, .inl (G.2.2.1 1, 13, .inl (fun _ => 0))), (G.1 + 48, .inl (G.2.2.1 1, 13, .inl (fun _ => 0))), (G.1 + 49, .inl (G.2.2.1 1, 13, .inl (fun _ => 0))), (G.1 + 50, .inl (G.2.2.1 1, 13, .inl (fun _ => 0)))]
def wdM (G : GT) : va_W := [(G.1 + 51, .inr (11, [.ref (G.1 + 52), .ref (G.1 + 53), .ref (G.1 + 54), .ref (G.1 + 55), .ref (G.1 + 56), .ref (G.1 + 57), .int 0, .ref (G.1 + 58), .int 0, .int 0, .int 0, .int 0, .int 0, .long 0, .int 0, .int 0, .ref (G.1 + 59), .ref (G.1 + 60), .ref (G.1 + 61), .ref (G.1 + 62), .ref (G.1 + 63), .ref (G.1 + 64), .ref (G.1 + 65), .int 0, .ref (G.1 + 66), .int 0])), (G.1 + 52, .inl (G.2.2.1 1, 78, .inl (fun _ => 0))), (G.1 + 53, .inl (G.2.2.1 1, 156, .inl (fun _ => 0))), (G.1 + 54, .inl (G.2.2.1 3, 2, .inl (fun _ => 0))), (G.1 + 55, .inl (G.2.2.1 1, 8, .inl (fun k => if k < 8 then (-1000000) else 0))), (G.1 + 56, .inl (G.2.2.1 1, 8, .inl (fun _ => 0))), (G.1 + 57, .inl (G.2.2.1 1, 320, .inl (fun _ => 0))), (G.1 + 58, .inl (G.2.2.1 1, 400, .inl (fun _ => 0))), (G.1 + 59, .inl (G.2.2.1 1, 78, .inl (fun _ => 0))), (G.1 + 60, .inl (G.2.2.1 2, 169, .inr (.inl (fun _ => 0)))), (G.1 + 61, .inl (G.2.2.1 2, 169, .inr (.inl (fun _ => 0)))), (G.1 + 62, .inl (G.2.2.1 2, 169, .inr (.inl (fun _ => 0)))), (G.1 + 63, .inl (G.2.2.1 1, 12, .inl (fun _ => 0))), (G.1 + 64, .inl (G.2.2.1 2, 169, .inr (.inl (fun _ => 0)))), (G.1 + 65, .inl (G.2.2.1 1, 12, .inl (fun _ => 0))), (G.1 + 66, .inl (G.2.2.1 1, 16, .inl (fun _ => 0)))]
set_option maxRecDepth 100000 in
theorem wd00 (G : GT) : wdF G ++ wdM G = wd G.1 G.2.2.1 σ00 := by
  apply List.ext_getElem?
  intro x
  rcases Nat.lt_or_ge x 67 with h | h
  · rw [wd_at (σ := σ00) (show x < 67 from h)]
    match x, h with
    | 0, _ => rfl
    | 1, _ => rfl
    | 2, _ => rfl
    | 3, _ => rfl
    | 4, _ => rfl
    | 5, _ => rfl
    | 6, _ => rfl
    | 7, _ => rfl
    | 8, _ => rfl
    | 9, _ => rfl
    | 10, _ => rfl
    | 11, _ => rfl
    | 12, _ => rfl
    | 13, _ => rfl
    | 14, _ => rfl
    | 15, _ => rfl
    | 16, _ => rfl
    | 17, _ => rfl
    | 18, _ => rfl
    | 19, _ => rfl
    | 20, _ => rfl
    | 21, _ => rfl
    | 22, _ => rfl
    | 23, _ => rfl
    | 24, _ => rfl
    | 25, _ => rfl
    | 26, _ => rfl
    | 27, _ => rfl
    | 28, _ => rfl
    | 29, _ => rfl
    | 30, _ => rfl
    | 31, _ => rfl
    | 32, _ => rfl
    | 33, _ => rfl
    | 34, _ => rfl
    | 35, _ => rfl
    | 36, _ => rfl
    | 37, _ => rfl
    | 38, _ => rfl
    | 39, _ => rfl
    | 40, _ => rfl
    | 41, _ => rfl
    | 42, _ => rfl
    | 43, _ => rfl
    | 44, _ => rfl
    | 45, _ => rfl
    | 46, _ => rfl
    | 47, _ => rfl
    | 48, _ => rfl
    | 49, _ => rfl
    | 50, _ => rfl
    | 51, _ => rfl
    | 52, _ => rfl
    | 53, _ => rfl
    | 54, _ => rfl
    | 55, _ => rfl
    | 56, _ => rfl
    | 57, _ => rfl
    | 58, _ => rfl
    | 59, _ => rfl
    | 60, _ => rfl
    | 61, _ => rfl
    | 62, _ => rfl
    | 63, _ => rfl
    | 64, _ => rfl
    | 65, _ => rfl
    | 66, _ => rfl
    | x + 67, h => exact absurd h (by omega)
  · rw [wd_out (σ := σ00) (show ¬ x < 67 by omega), List.getElem?_eq_none (by show 67 ≤ x; exact h)]
set_option maxRecDepth 100000 in
set_option maxHeartbeats 16000000 in
theorem start_open {p : Program} {e : Env} {s : State} {m : MethodId} {below : List Frame} {meth : Method} {c : Code} (l : Launch) {b L : Nat} {xs : Nat → Int32} (hp : f_law xs L 513 σ00 0 = some ()) (C0 : lw_At p s m meth c b L xs) : W p l e room_1 s m #[Value.ref b] below meth c s.heap [] 0 0 (lw_Z below #[Value.ref b] s) (entryFrame m ([Value.ref b] : List Value).toArray 4) := by
  obtain ⟨hx, hb, hr, hml, hown, hts, hX, hbl, hlk, hgv⟩ := id C0
  have hown : s.vm.findClass RL = some m.cls := hown
  have hA : ∀ a : Nat, a < s.heap.size → ¬ (fun q : Nat => s.heap.size ≤ q) a := fun a h => Nat.not_le.mpr h
  have hs := flat_of_before _ hgv
  obtain ⟨cc0, ii0, kk0⟩ := u_known (C := RX0) (T := TX0) (N := 3) (n := 3) hts inx_0 (hts (.instantiable RX0 3) (List.mem_of_getElem? (i := 591) rfl))
  obtain ⟨cc1, ii1, kk1⟩ := u_known (C := RX1) (T := TX1) (N := 3) (n := 3) hts inx_1 (hts (.instantiable RX1 3) (List.mem_of_getElem? (i := 553) rfl))
  obtain ⟨cc2, ii2, kk2⟩ := u_known (C := RX2) (T := TX2) (N := 3) (n := 3) hts inx_2 (hts (.instantiable RX2 3) (List.mem_of_getElem? (i := 621) rfl))
  obtain ⟨cc3, ii3, kk3⟩ := u_known (C := RX3) (T := TX3) (N := 3) (n := 3) hts inx_3 (hts (.instantiable RX3 3) (List.mem_of_getElem? (i := 611) rfl))
  obtain ⟨cc4, ii4, kk4⟩ := u_known (C := RX4) (T := TX4) (N := 11) (n := 11) hts inx_4 (hts (.instantiable RX4 11) (List.mem_of_getElem? (i := 264) rfl))
  obtain ⟨cc5, ii5, kk5⟩ := u_known (C := RX5) (T := TX5) (N := 8) (n := 8) hts inx_5 (hts (.instantiable RX5 8) (List.mem_of_getElem? (i := 157) rfl))
  obtain ⟨cc6, ii6, kk6⟩ := u_known (C := RX6) (T := TX6) (N := 3) (n := 3) hts inx_6 (hts (.instantiable RX6 3) (List.mem_of_getElem? (i := 134) rfl))
  obtain ⟨cc7, ii7, kk7⟩ := u_known (C := RX7) (T := TX7) (N := 3) (n := 3) hts inx_7 (hts (.instantiable RX7 3) (List.mem_of_getElem? (i := 601) rfl))
  obtain ⟨cc8, ii8, kk8⟩ := u_known (C := RX8) (T := TX8) (N := 16) (n := 16) hts inx_8 (hts (.instantiable RX8 16) (List.mem_of_getElem? (i := 192) rfl))
  obtain ⟨cc9, ii9, kk9⟩ := u_known (C := RX10) (T := TX10) (N := 2) (n := 2) hts inx_9 (hts (.instantiable RX10 2) (List.mem_of_getElem? (i := 250) rfl))
  obtain ⟨cc10, ii10, kk10⟩ := u_known (C := RX11) (T := TX11) (N := 9) (n := 9) hts inx_10 (hts (.instantiable RX11 9) (List.mem_of_getElem? (i := 126) rfl))
  obtain ⟨cc11, ii11, kk11⟩ := u_known (C := RX12) (T := TX12) (N := 26) (n := 26) hts inx_11 (hts (.instantiable RX12 26) (List.mem_of_getElem? (i := 1000) rfl))
  obtain ⟨dC, dI, hKc⟩ : ∃ (dC : Nat → ClassId) (dI : Nat → Nat → Nat), ∀ (k : Nat) (q : vw_C), vwCl[k]? = some q → u_Kn s q.1 q.2.1 q.2.2 (dC k) (dI k) := by
    refine ⟨fun k => if k = 0 then cc0 else if k = 1 then cc1 else if k = 2 then cc2 else if k = 3 then cc3 else if k = 4 then cc4 else if k = 5 then cc5 else if k = 6 then cc6 else if k = 7 then cc7 else if k = 8 then cc8 else if k = 9 then cc9 else if k = 10 then cc10 else cc11, fun k => if k = 0 then ii0 else if k = 1 then ii1 else if k = 2 then ii2 else if k = 3 then ii3 else if k = 4 then ii4 else if k = 5 then ii5 else if k = 6 then ii6 else if k = 7 then ii7 else if k = 8 then ii8 else if k = 9 then ii9 else if k = 10 then ii10 else ii11, ?_⟩
    intro k q hq
    match k, hq with
    | 0, hq => cases hq; exact kk0
    | 1, hq => cases hq; exact kk1
    | 2, hq => cases hq; exact kk2
    | 3, hq => cases hq; exact kk3
    | 4, hq => cases hq; exact kk4
    | 5, hq => cases hq; exact kk5
    | 6, hq => cases hq; exact kk6
    | 7, hq => cases hq; exact kk7
    | 8, hq => cases hq; exact kk8
    | 9, hq => cases hq; exact kk9
    | 10, hq => cases hq; exact kk10
    | 11, hq => cases hq; exact kk11
    | k + 12, hq => simp [vwCl] at hq
  obtain ⟨aB, kB, mB, fB, gB, hB⟩ := Cond.arrayClass_spec (hts (.arrayClass .byte) (List.mem_of_getElem? (i := 190) rfl))
  obtain ⟨aI, kI, mI, fI, gI, hI⟩ := Cond.arrayClass_spec (hts (.arrayClass .int) (List.mem_of_getElem? (i := 155) rfl))
  obtain ⟨aJ, kJ, mJ, fJ, gJ, hJ⟩ := Cond.arrayClass_spec (hts (.arrayClass .long) (List.mem_of_getElem? (i := 1085) rfl))
  obtain ⟨aZ, kZ, mZ, fZ, gZ, hZ⟩ := Cond.arrayClass_spec (hts (.arrayClass .boolean) (List.mem_of_getElem? (i := 248) rfl))
  obtain ⟨mS, aS, kS, e1S, e2S, e3S, e4S, e5S⟩ := Cond.arrayOver_spec (hts (.arrayOver (.object "FenceYards$Strip")) (List.mem_of_getElem? (i := 270) rfl))
  obtain ⟨mW, aW, kW, e1W, e2W, e3W, e4W, e5W⟩ := arrayOver_specB (hts (.arrayOver (.array .int)) (List.mem_of_getElem? (i := 140) rfl))
  obtain ⟨cy, hy0, hy1, hy2, hy3, hy4, hy5⟩ : ∃ cy : Nat → ClassId, cy 0 = aB ∧ cy 1 = aI ∧ cy 2 = aJ ∧ cy 3 = aZ ∧ cy 4 = aS ∧ cy 5 = aW := ⟨fun k => if k = 0 then aB else if k = 1 then aI else if k = 2 then aJ else if k = 3 then aZ else if k = 4 then aS else aW, rfl, rfl, rfl, rfl, rfl, rfl⟩
  have hK : va_K (dC, dI) vwCl (tys cy) s := by
    refine ⟨hKc, fun k q hq => ?_⟩
    match k, hq with
    | 0, hq => cases hq; rw [hy0]; exact ⟨fun _ _ => ⟨(fun _ h => by cases h), kB, gB, mB, hB⟩, fB⟩
    | 1, hq => cases hq; rw [hy1]; exact ⟨fun _ _ => ⟨(fun _ h => by cases h), kI, gI, mI, hI⟩, fI⟩
    | 2, hq => cases hq; rw [hy2]; exact ⟨fun _ _ => ⟨(fun _ h => by cases h), kJ, gJ, mJ, hJ⟩, fJ⟩
    | 3, hq => cases hq; rw [hy3]; exact ⟨fun _ _ => ⟨(fun _ h => by cases h), kZ, gZ, mZ, hZ⟩, fZ⟩
    | 4, hq => cases hq; rw [hy4]; exact ⟨fun _ _ => ⟨(fun _ h => by cases h), kS, e3S, mS, e4S⟩, kS, mS, e3S, e4S, e1S, e5S⟩
    | 5, hq => cases hq; rw [hy5]; exact ⟨fun _ _ => ⟨(fun _ h => by cases h), kW, e3W, mW, e4W⟩, e5W⟩
    | k + 6, hq => simp [tys] at hq
  obtain ⟨tH, hTe, hTT⟩ := va_Tof (args := #[Value.ref b]) (s := s) (tm := .static "FenceYards" "HALF_YARD" "[I") (ty := .int) (N := 13) (f := hyV) (A := fun q : Nat => s.heap.size ≤ q) (by decide) (hs _ (by decide +kernel)) (va_eqt (hs _ (by decide +kernel))) (fun j hj => va_eqt (z := hyI j) (hs _ ((by decide +kernel : ∀ j, j < 13 → Cond.eq (.elem (.static "FenceYards" "HALF_YARD" "[I") (.int (Int32.ofNat j))) (.int (hyI j)) ∈ flatC (Jvm.Cond.and given_1 narrow_1)) j hj))) hA
  have hZ := va_Zof (A := fun q : Nat => s.heap.size ≤ q) (hts (.laysStatic "FenceYards" "HALF_YARD" "[I") (List.mem_of_getElem? (i := 702) rfl)) (hts (.initialized "FenceYards") (List.mem_of_getElem? (i := 105) rfl)) hTe hA
  have hZc := va_Zof (A := fun q : Nat => s.heap.size ≤ q) (hts (.laysStatic "java/lang/String" "COMPACT_STRINGS" "Z") (List.mem_of_getElem? (i := 467) rfl)) (hts (.initialized "java/lang/String") (List.mem_of_getElem? (i := 114) rfl)) (va_eqi (z := 1) (hs _ (by decide +kernel))) hA
  have hZs := va_Zqof (A := fun q : Nat => s.heap.size ≤ q) (hts (.laysStatic "jdk/internal/util/Preconditions" "SIOOBE_FORMATTER" "Ljava/util/function/BiFunction;") (List.mem_of_getElem? (i := 483) rfl)) (hts (.initialized "jdk/internal/util/Preconditions") (List.mem_of_getElem? (i := 116) rfl)) (hs _ (by decide +kernel)) hA
  obtain ⟨adK, adV, hSS, hSe⟩ := vk_Sof (args := #[Value.ref b]) (s := s) (N := 8) (tm := fun i => Term.string "FenceYards$Reader" (sIx.getD i 0)) (len := sLn) (byt := sBy) (A := fun q : Nat => s.heap.size ≤ q) (by decide +kernel) (fun i hi => hs _ ((by decide +kernel : ∀ i, i < 8 → Cond.exactly (Term.string "FenceYards$Reader" (sIx.getD i 0)) "java/lang/String" ∈ flatC (Jvm.Cond.and given_1 narrow_1)) i hi)) (fun i hi => hs _ ((by decide +kernel : ∀ i, i < 8 → Cond.eq (.field (Term.string "FenceYards$Reader" (sIx.getD i 0)) "java/lang/String" "coder" "B") (.int 0) ∈ flatC (Jvm.Cond.and given_1 narrow_1)) i hi)) (fun i hi => hs _ ((by decide +kernel : ∀ i, i < 8 → Cond.arrayOf (.field (Term.string "FenceYards$Reader" (sIx.getD i 0)) "java/lang/String" "value" "[B") .byte ∈ flatC (Jvm.Cond.and given_1 narrow_1)) i hi)) (fun i hi => hs _ ((by decide +kernel : ∀ i, i < 8 → Cond.eq (.length (.field (Term.string "FenceYards$Reader" (sIx.getD i 0)) "java/lang/String" "value" "[B")) (.int (Int32.ofNat (sLn.getD i 0))) ∈ flatC (Jvm.Cond.and given_1 narrow_1)) i hi)) (fun i hi j hj => hs _ ((by decide +kernel : ∀ i, i < 8 → ∀ j, j < sLn.getD i 0 → Cond.eq (.elem (.field (Term.string "FenceYards$Reader" (sIx.getD i 0)) "java/lang/String" "value" "[B") (.int (Int32.ofNat j))) (.int ((sBy.getD i []).getD j 0)) ∈ flatC (Jvm.Cond.and given_1 narrow_1)) i hi j hj)) (fun i j hi hj hij => ((by decide +kernel : ∀ i, i < 8 → ∀ j, j < 8 → i ≠ j → (Cond.not (Cond.eq (Term.string "FenceYards$Reader" (sIx.getD i 0)) (Term.string "FenceYards$Reader" (sIx.getD j 0))) ∈ flatC (Jvm.Cond.and given_1 narrow_1) ∨ Cond.not (Cond.eq (Term.string "FenceYards$Reader" (sIx.getD j 0)) (Term.string "FenceYards$Reader" (sIx.getD i 0))) ∈ flatC (Jvm.Cond.and given_1 narrow_1))) i hi j hj hij).elim (fun h => Or.inl (hs _ h)) (fun h => Or.inr (hs _ h))) hA
  obtain ⟨G, hGe⟩ : ∃ G : GT, G = (s.heap.size, (dC, dI), cy, adK, adV, tH) := ⟨_, rfl⟩
  have hG : Gl G s := by
    subst hGe
    refine ⟨⟨fun t ht => va_Nw.of rfl (hts _ (inx_F _ (List.mem_map.mpr ⟨t, ht, rfl⟩))), fun t ht => va_Nw.of rfl (hts _ (inx_M _ (List.mem_map.mpr ⟨t, ht, rfl⟩))), fun t ht => va_Nw.of rfl (hts _ (inx_D _ (List.mem_map.mpr ⟨t, ht, rfl⟩))), fun t ht => va_Nw.of rfl (hts _ (inx_Y _ (List.mem_map.mpr ⟨t, ht, rfl⟩))), fun t ht => ?_, fun C hC => ?_⟩, fun i hi => vk_R.of (hts _ (inx_R _ (List.mem_map.mpr ⟨i, List.mem_range.mpr hi, rfl⟩))) (hSe i hi), hZ, hTT, hSS, hZc, hZs⟩
    · have := hs _ ((by decide +kernel : ∀ t ∈ nN, Cond.not (Cond.castable t.1 t.2) ∈ flatC (Jvm.Cond.and given_1 narrow_1)) t ht)
      exact va_Nc.of this
    · rw [List.mem_singleton.mp hC]
      exact va_AO.of (hts (.arrayOver (.object "FenceYards$Strip")) (List.mem_of_getElem? (i := 270) rfl))
  have hAO : va_AOI s := arrayOver_alikeB (Vm.Alike.refl _) (hts (.arrayOver (.array .int)) (List.mem_of_getElem? (i := 140) rfl))
  have hKG : va_K G.2.1 vwCl (tys G.2.2.1) s := by subst hGe; exact hK
  have hG1 : G.1 = s.heap.size := by rw [hGe]
  have CX : Cx G code RL lw_tbl 4 ret p s m #[Value.ref b] meth c := ⟨hx, hb, hr, hml, hown, hts, hlk, hKG, hG⟩
  have hI : Inv0 G s [] s.heap [] := ⟨fun k q h => by simp at h, ⟨fun i j p q h => by simp at h, fun k q h => by simp at h⟩, by rw [hG1]; rfl, va_S.rf⟩
  have hl := lv_entry ([.ref b]) (n := 4) (Nat.le_of_ble_eq_true rfl)
  rw [lg_entry_eq]
  generalize (lg_sl ([.ref b]) ++ List.replicate (4 - (lg_sl ([.ref b])).length) Slot.unset).toArray = ls at hl ⊢
  have hl : lv_has ls 4 [(0, .ref b)] := hl
  refine y_new (C := RX11) (T := TX11) (N := 9) (ci := 10) (fs := [.null, .null, .null, .null, .null, .null, .null, .null, .int 0]) (ad := G.1 + 0) hx hb hts inx_10 tyX11 tyX11_ok hown (hts (.classLink RL 7 RX11) (List.mem_of_getElem? (i := 125) rfl)) (hts (.instantiable RX11 9) (List.mem_of_getElem? (i := 126) rfl)) (hts (.initialized RX11) (List.mem_of_getElem? (i := 105) rfl)) hKG hI rfl (fun j hj => by rcases (show j = 0 ∨ j = 1 ∨ j = 2 ∨ j = 3 ∨ j = 4 ∨ j = 5 ∨ j = 6 ∨ j = 7 ∨ j = 8 by omega) with rfl | rfl | rfl | rfl | rfl | rfl | rfl | rfl | rfl <;> rfl) (Nat.le_of_ble_eq_true rfl) (Nat.le_of_ble_eq_true rfl) rfl dL_law_0 (fun H locs hI => ?_)
  refine lv_dup hx hb dL_law_3 rfl ?_
  refine y_call hI (va_runI (As := []) (rest := [.ref (G.1 + 0)]) ⟨hx, hb, hml, hown, hts⟩ (m_X11_init G l (ws0 := []) (q := 0) rfl) (cwI 0 hts gl_X11_init rfl rfl rfl (hts (.initialized RX11) (List.mem_of_getElem? (i := 105) rfl)) (hts (.methodLink RL 9 yX11_init) (List.mem_of_getElem? (i := 127) rfl)) (hts (.instanceMethod yX11_init) (List.mem_of_getElem? (i := 128) rfl)) rfl (by decide +kernel) ⟨(Nat.le_of_ble_eq_true rfl), (Nat.le_of_ble_eq_true rfl)⟩) (y_pre hKG ⟨hG, hAO⟩ hI) rfl rfl hl.1 rfl (lv_room (Nat.le_of_ble_eq_true rfl)) dL_law_4 ⟨(Nat.le_of_ble_eq_true rfl), (Nat.le_of_ble_eq_true rfl)⟩) (fun H locs hI => ?_)
  refine lv_astore_n (lv' := [(1, .ref (G.1 + 0)), (0, .ref b)]) hx hb dL_law_7 rfl hl (by decide) rfl (fun ls hl => ?_)
  have hI : Inv0 G s (wdF G) H locs := hI
  refine y_new (C := RX12) (T := TX12) (N := 26) (ci := 11) (fs := [.null, .null, .null, .null, .null, .null, .int 0, .null, .int 0, .int 0, .int 0, .int 0, .int 0, .long 0, .int 0, .int 0, .null, .null, .null, .null, .null, .null, .null, .int 0, .null, .int 0]) (ad := G.1 + 51) hx hb hts inx_11 tyX12 tyX12_ok hown (hts (.classLink RL 10 RX12) (List.mem_of_getElem? (i := 999) rfl)) (hts (.instantiable RX12 26) (List.mem_of_getElem? (i := 1000) rfl)) (hts (.initialized RX12) (List.mem_of_getElem? (i := 112) rfl)) hKG hI rfl (fun j hj => by rcases (show j = 0 ∨ j = 1 ∨ j = 2 ∨ j = 3 ∨ j = 4 ∨ j = 5 ∨ j = 6 ∨ j = 7 ∨ j = 8 ∨ j = 9 ∨ j = 10 ∨ j = 11 ∨ j = 12 ∨ j = 13 ∨ j = 14 ∨ j = 15 ∨ j = 16 ∨ j = 17 ∨ j = 18 ∨ j = 19 ∨ j = 20 ∨ j = 21 ∨ j = 22 ∨ j = 23 ∨ j = 24 ∨ j = 25 by omega) with rfl | rfl | rfl | rfl | rfl | rfl | rfl | rfl | rfl | rfl | rfl | rfl | rfl | rfl | rfl | rfl | rfl | rfl | rfl | rfl | rfl | rfl | rfl | rfl | rfl | rfl <;> rfl) (Nat.le_of_ble_eq_true rfl) (Nat.le_of_ble_eq_true rfl) rfl dL_law_8 (fun H locs hI => ?_)
  refine lv_dup hx hb dL_law_11 rfl ?_
  refine y_call hI (va_runI (As := []) (rest := [.ref (G.1 + 51)]) ⟨hx, hb, hml, hown, hts⟩ (m_X12_init G l (ws0 := wdF G) (q := 51) rfl) (cwI 0 hts gl_X12_init rfl rfl rfl (hts (.initialized RX12) (List.mem_of_getElem? (i := 112) rfl)) (hts (.methodLink RL 12 yX12_init) (List.mem_of_getElem? (i := 1001) rfl)) (hts (.instanceMethod yX12_init) (List.mem_of_getElem? (i := 1002) rfl)) rfl (by decide +kernel) ⟨(Nat.le_of_ble_eq_true rfl), (Nat.le_of_ble_eq_true rfl)⟩) (y_pre hKG ⟨hG, hAO⟩ hI) rfl rfl hl.1 rfl (lv_room (Nat.le_of_ble_eq_true rfl)) dL_law_12 ⟨(Nat.le_of_ble_eq_true rfl), (Nat.le_of_ble_eq_true rfl)⟩) (fun H locs hI => ?_)
  refine lv_astore_n (lv' := [(2, .ref (G.1 + 51)), (1, .ref (G.1 + 0)), (0, .ref b)]) hx hb dL_law_15 rfl hl (by decide) rfl (fun ls hl => ?_)
  refine lv_iconst (v := 0) hx hb dL_law_16 (by decide) ?_
  refine lv_istore_n (lv' := [(3, .int 0), (2, .ref (G.1 + 51)), (1, .ref (G.1 + 0)), (0, .ref b)]) hx hb dL_law_17 rfl hl (by decide) rfl (fun ls hl => ?_)
  refine W.widen (k := 67) (n := 3700) (Nat.le_of_ble_eq_true rfl) (Nat.le_of_ble_eq_true rfl) ?_
  have hJ : Inv G s σ00 H locs := by
    obtain ⟨j1, j2, j3, j4⟩ := hI
    refine ⟨?_, j3, j4, WF00⟩
    exact (wd00 G) ▸ j1
  exact w_law CX hX hbl (by show ¬ G.1 ≤ b; rw [hG1]; omega) (by rw [hG1]; exact Nat.le_refl _) 513 σ00 0 hp 67 3700 (by decide) (by decide) _ _ hJ _ (lv_sub hl [3, 2, 1, 0] rfl)
