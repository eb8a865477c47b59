/-! THE TABLES ARE THE STATEMENT'S -/
def im_Ts : List u_T := [TX0, TX1, TX2, TX3, TX4, TX5, TX6, TX7, TX8, TX9, TX10]
def im_T (ci : Nat) : u_T := im_Ts.getD ci TX0
theorem im_find {α : Type} {l : List (Nat × Nat × α)} {o x : Nat} {q : α} (h : (l.find? (fun e => e.1 == o && e.2.1 == x)).map (fun e => e.2.2) = some q) : (o, x, q) ∈ l := by
  cases hf : l.find? (fun e => e.1 == o && e.2.1 == x) with
  | none => rw [hf] at h; cases h
  | some e =>
    rw [hf] at h
    have h1 := List.mem_of_find?_eq_some hf
    have h2 := List.find?_some hf
    obtain ⟨a, b, c⟩ := e
    simp at h h2
    obtain ⟨rfl, rfl⟩ := h2
    subst h
    exact h1
theorem im_inW {w : Cond} (h1 : w ∈ lw_tbl) (h2 : goodWord w = true) : w ∈ im_W := List.mem_filter.mpr ⟨h1, h2⟩
theorem im_W_good : GoodIn im_W im_W := fun w hw => ⟨hw, good_of_word (List.mem_filter.mp hw).2⟩
theorem im_cls : ∀ ci, ci < 11 → vwCl[ci]? = some (im_cn ci, im_T ci, im_szs.getD ci 0) := by
  intro ci h
  rcases (show ci = 0 ∨ ci = 1 ∨ ci = 2 ∨ ci = 3 ∨ ci = 4 ∨ ci = 5 ∨ ci = 6 ∨ ci = 7 ∨ ci = 8 ∨ ci = 9 ∨ ci = 10 by omega) with rfl | rfl | rfl | rfl | rfl | rfl | rfl | rfl | rfl | rfl | rfl <;> rfl
theorem im_clW : ∀ ci, ci < 11 → ∀ w ∈ u_ws (im_cn ci) (im_T ci) (im_szs.getD ci 0), w ∈ im_W := by
  have h : ∀ ci : Fin 11, ∀ w ∈ u_ws (im_cn ci) (im_T ci) (im_szs.getD ci 0), w ∈ im_W := by decide +kernel
  exact fun ci hc => h ⟨ci, hc⟩
theorem im_tyW : ∀ ci, ci < 11 → ∀ k, k < im_szs.getD ci 0 → parseFieldDescriptor (im_T ci k).2.2.1 = some (im_ty ci k) := by
  intro ci h
  rcases (show ci = 0 ∨ ci = 1 ∨ ci = 2 ∨ ci = 3 ∨ ci = 4 ∨ ci = 5 ∨ ci = 6 ∨ ci = 7 ∨ ci = 8 ∨ ci = 9 ∨ ci = 10 by omega) with rfl | rfl | rfl | rfl | rfl | rfl | rfl | rfl | rfl | rfl | rfl
  · exact tyX0_ok
  · exact tyX1_ok
  · exact tyX2_ok
  · exact tyX3_ok
  · exact tyX4_ok
  · exact tyX5_ok
  · exact tyX6_ok
  · exact tyX7_ok
  · exact tyX8_ok
  · exact tyX9_ok
  · exact tyX10_ok
theorem im_nmW : ∀ ci, ci < 11 → ∀ a, a < im_szs.getD ci 0 → ∀ b, b < im_szs.getD ci 0 → a ≠ b → (im_T ci a).2.1 ≠ (im_T ci b).2.1 := by
  intro ci h
  rcases (show ci = 0 ∨ ci = 1 ∨ ci = 2 ∨ ci = 3 ∨ ci = 4 ∨ ci = 5 ∨ ci = 6 ∨ ci = 7 ∨ ci = 8 ∨ ci = 9 ∨ ci = 10 by omega) with rfl | rfl | rfl | rfl | rfl | rfl | rfl | rfl | rfl | rfl | rfl
  · exact nmX0
  · exact nmX1
  · exact nmX2
  · exact nmX3
  · exact nmX4
  · exact nmX5
  · exact nmX6
  · exact nmX7
  · exact nmX8
  · exact nmX9
  · exact nmX10
theorem im_ownW : ∀ ci, ci < 11 → ∀ k, k < im_szs.getD ci 0 → (im_T ci k).1 = im_cn ci := by
  have h : ∀ ci : Fin 11, ∀ k : Fin (im_szs.getD ci 0), (im_T ci k).1 = im_cn ci := by decide +kernel
  exact fun ci hc k hk => h ⟨ci, hc⟩ ⟨k, hk⟩
def im_flB (e : Nat × Nat × Nat × Nat × Bool) : Bool :=
  decide (Cond.fieldLink (im_cn e.1) e.2.1 (im_cn e.2.2.1) (im_T e.2.2.1 e.2.2.2.1).2.1 (im_T e.2.2.1 e.2.2.2.1).2.2.1 ∈ im_W) && decide (e.2.2.1 < 11) && decide (e.2.2.2.1 < im_szs.getD e.2.2.1 0) && ((im_T e.2.2.1 e.2.2.2.1).2.2.2 == e.2.2.2.2)
theorem im_flsB : im_fls.all im_flB = true := by decide +kernel
theorem im_flW {o x ci k : Nat} {b : Bool} (h : im_fl o x = some (ci, k, b)) : Cond.fieldLink (im_cn o) x (im_cn ci) (im_T ci k).2.1 (im_T ci k).2.2.1 ∈ im_W ∧ ci < 11 ∧ k < im_szs.getD ci 0 ∧ (im_T ci k).2.2.2 = b := by
  have h1 := List.all_eq_true.mp im_flsB _ (im_find h)
  simp only [im_flB, Bool.and_eq_true, decide_eq_true_eq, beq_iff_eq] at h1
  exact ⟨h1.1.1.1, h1.1.1.2, h1.1.2, h1.2⟩
def im_lkh : List (List Nat) := [[60, 81, 82], [84], [61, 89, 90], [92], [62, 96], [98], [63, 111], [113], [64, 130], [132], [65, 146], [148], [66, 162], [164], [67, 272], [274], [64, 130], [68, 299], [301], [69, 324], [326], [60, 365, 366, 367], [60, 369, 370], [60, 372, 374, 0], [62, 377, 378, 379], [60, 370], [62, 382, 383, 384], [60, 386, 387, 388], [61, 390, 391], [60, 370], [61, 395, 396, 397], [61, 399, 400, 401], [60, 403, 404, 405], [61, 407, 408, 409], [61, 411, 412, 413], [61, 415, 416, 417], [71, 419, 420], [62, 422, 423, 424], [62, 426, 378, 379], [61, 427, 428, 429], [71, 431, 432], [61, 434, 435, 436], [61, 438, 439, 440], [61, 442, 443, 444], [61, 446, 447, 448], [64, 450, 451, 452], [64, 454, 455, 456], [64, 458, 459], [60, 462], [71, 464, 465], [71, 467, 432], [61, 468, 469, 470], [60, 472, 473, 474], [62, 476, 477, 478], [60, 480, 481, 482], [60, 484, 485, 486], [61, 488, 489, 490], [60, 492, 493, 494], [66, 496, 497, 498], [66, 500, 501, 502], [60, 504, 505, 506], [61, 508, 509, 510], [61, 512, 513, 514], [61, 516, 517, 518], [66, 520, 521, 522], [61, 524, 525, 526], [63, 528, 529, 530], [60, 370], [63, 533, 534], [63, 536, 537, 538], [71, 540, 432], [66, 541, 542, 543], [66, 545, 547, 1], [60, 462], [60, 550, 551, 552], [60, 554, 555, 556], [66, 558, 501, 502], [60, 559, 560, 561], [66, 563, 564, 565], [60, 370], [60, 570, 571, 572], [66, 574, 542, 543], [60, 575, 576, 577], [61, 579, 525, 526], [60, 580, 581, 582], [65, 584, 585, 586], [60, 588, 589, 590], [67, 594, 595, 596], [64, 598, 599, 600], [67, 602, 604, 2], [67, 606, 608, 3], [67, 610, 612, 4], [67, 614, 616, 5], [67, 618, 620, 6], [67, 622, 624, 7], [67, 626, 628, 8], [65, 630, 631, 632], [60, 370], [72, 635, 636, 637], [72, 639, 640, 641], [72, 643, 644, 645], [72, 649, 650, 651], [72, 653, 654, 655], [73, 657, 658], [73, 660, 661], [71, 663, 432], [71, 664, 465], [73, 665, 666], [74, 668, 669], [71, 671, 432], [71, 672, 465], [74, 674, 675], [74, 677, 678], [74, 680, 681], [72, 683, 684], [75, 688, 689], [74, 691, 692], [74, 694, 695], [74, 703, 704], [76, 706, 707], [76, 709, 710], [76, 713, 714], [60, 370], [67, 718, 720, 9], [64, 722, 723, 724], [67, 726, 728, 10], [64, 730, 731, 732], [734], [60, 737, 738, 739], [61, 741, 447, 448], [61, 742, 743, 744], [60, 746, 747, 748], [60, 750, 752, 11], [61, 754, 755, 756], [62, 759, 378, 379], [62, 760, 383, 384], [61, 761, 762, 763], [66, 765, 766, 767], [66, 769, 521, 522], [71, 770, 465], [63, 771, 772, 773], [61, 775, 743, 744], [71, 776, 465], [60, 778, 779, 780], [60, 782, 783, 784], [60, 786, 788, 12], [61, 790, 791, 792], [62, 794, 795, 796], [798], [63, 799, 800, 801], [803], [64, 804, 731, 732], [65, 805, 806, 807], [809], [66, 810, 811, 812], [814], [60, 815, 816, 817], [60, 819, 820, 821], [61, 823, 443, 444], [60, 824, 825, 826], [60, 828, 829, 830], [63, 832, 529, 530], [63, 833, 537, 538], [60, 834, 835, 836], [60, 838, 840, 13], [60, 842, 843, 844], [60, 846, 847, 848], [60, 850, 851, 852], [68, 854, 855, 856], [68, 858, 860, 14], [68, 862, 863], [60, 370], [68, 869, 871, 15], [60, 873, 874, 875], [60, 877, 878, 879], [60, 881, 883, 16], [69, 885, 886, 887], [60, 462], [78, 890, 891], [60, 893, 894, 895], [69, 897, 898, 899], [69, 901, 902, 903], [60, 906, 907, 908], [69, 910, 911, 912], [914], [60, 915, 916, 917], [60, 919, 920, 921], [61, 923, 435, 436], [61, 924, 469, 470], [60, 925, 926, 927], [60, 929, 930, 931], [60, 933, 934, 935], [60, 937, 938, 939], [60, 941, 942, 943], [61, 945, 946, 947], [61, 949, 950, 951], [60, 953, 954, 955], [70, 959, 960], [962], [70, 1021, 1022, 1023], [70, 1026, 1027], [70, 1029, 1031, 17], [70, 1035, 1036, 1037], [70, 1039, 1041, 18], [70, 1043, 1045, 19], [70, 1047, 1049, 20], [70, 1051, 1053, 21], [70, 1055, 1057, 22], [70, 1059, 1061, 23], [70, 1063, 1065, 24], [70, 1067, 1069, 25], [70, 1071, 1073, 26], [70, 1075, 1077, 27], [70, 1079, 1081, 28], [70, 1085, 1086, 1087], [70, 1089, 1091, 29], [70, 1093, 1094], [70, 1096, 1097], [70, 1099, 1100], [70, 1102, 1103, 1104], [70, 1109, 1111, 30], [70, 1113, 1114, 1115], [70, 1121, 1122, 1123], [70, 1126, 1128, 31], [70, 1130, 1132, 32], [70, 1134, 1136, 33], [70, 1138, 1140, 34], [70, 1142, 1144, 35], [70, 1146, 1148, 36], [70, 1150, 1151, 1152], [70, 1154, 1155, 1156], [70, 1158, 1159, 1160], [70, 1162, 1163, 1164], [70, 1168, 1170, 37], [70, 1172, 1173, 1174], [70, 1176, 1178, 38], [70, 1181, 1183, 39], [70, 1185, 1187, 40], [70, 1189, 1191, 41], [70, 1193, 1195, 42], [70, 1197, 1199, 43], [70, 1201, 1202], [70, 1204, 1206, 44], [70, 1208, 1209, 1210], [70, 1213, 1214, 1215], [70, 1217, 1218, 1219], [70, 1222, 1223], [70, 1225, 1226, 1227], [70, 1230, 1231, 1232], [70, 1234, 1235, 1236], [70, 1238, 1240, 45], [70, 1243, 1245, 46], [70, 1247, 1249, 47], [70, 1252, 1254, 48], [70, 1256, 1258, 49], [70, 1261, 1262, 1263], [70, 1265, 1266, 1267], [70, 1269, 1270], [70, 1272, 1274, 50], [70, 1276, 1277, 1278], [70, 1280, 1281, 1282], [70, 1284, 1285, 1286], [70, 1288, 1289, 1290], [70, 1292, 1293, 1294], [70, 1296, 1298, 51], [70, 1300, 1301, 1302], [70, 1304, 1305, 1306], [70, 1308, 1309, 1310], [70, 1313, 1315, 52], [70, 1317, 1319, 53], [70, 1321, 1323, 54], [70, 1325, 1327, 55], [70, 1329, 1331, 56], [70, 1333, 1335, 57], [70, 1337, 1338, 1339], [70, 1341, 1342, 1343], [70, 1345, 1346], [70, 1348, 1349, 1350], [70, 1352, 1353, 1354], [70, 1356, 1357, 1358], [70, 1360, 1361, 1362], [70, 1364, 1365, 1366], [70, 1368, 1369, 1370], [70, 1372, 1373, 1374], [70, 1376, 1377, 1378], [70, 1380, 1381, 1382], [70, 1384, 1386, 58], [70, 1388, 1389, 1390]]
/-- the words of a call -/
def im_lkw (e : Nat × Nat × Nat × Nat × Nat) : List Cond :=
  if e.2.2.1 = 5 then [.methodLink (im_cn e.1) e.2.1 Lib.objectInit]
  else if e.2.2.1 = 6 then [.methodLink (im_cn e.1) e.2.1 arraycopyName]
  else [.initialized (im_y e.2.2.2.1).cls] ++
    (if e.2.2.1 = 0 then [.methodLink (im_cn e.1) e.2.1 (im_y e.2.2.2.1), .static (im_y e.2.2.2.1)]
     else if e.2.2.1 = 1 then [.methodLink (im_cn e.1) e.2.1 (im_y e.2.2.2.1), .instanceMethod (im_y e.2.2.2.1), .selects (im_y e.2.2.2.1).cls (im_y e.2.2.2.1) (im_y e.2.2.2.1)]
     else if e.2.2.1 = 2 then [.methodLink (im_cn e.1) e.2.1 (im_y e.2.2.2.1), .instanceMethod (im_y e.2.2.2.1)]
     else if e.2.2.1 = 3 then [.static (im_y e.2.2.2.1)]
     else if e.2.2.1 = 4 then [.instanceMethod (im_y e.2.2.2.1)]
     else [])
def im_chk (ws : List Cond) (ps : List Nat) : Bool := decide (ws.map some = ps.map (fun p => lw_tbl[p]?)) && ws.all goodWord
theorem im_chk_in {ws : List Cond} {ps : List Nat} (h : im_chk ws ps = true) : ∀ w ∈ ws, w ∈ im_W := by
  simp only [im_chk, Bool.and_eq_true, decide_eq_true_eq] at h
  intro w hw
  have h1 : some w ∈ ps.map (fun p => lw_tbl[p]?) := by rw [← h.1]; exact List.mem_map.mpr ⟨w, hw, rfl⟩
  obtain ⟨p, -, hp⟩ := List.mem_map.mp h1
  exact im_inW (List.mem_of_getElem? hp) (List.all_eq_true.mp h.2 w hw)
/-- what else is asked of a call -/
def im_lkB (e : Nat × Nat × Nat × Nat × Nat) : Bool := e.2.2.1 == 5 || e.2.2.1 == 6 ||
  (decide (e.2.2.2.1 < 238) && decide ((parseMethodDescriptor (im_y e.2.2.2.1).desc).map (fun d => d.parameters.length) = some e.2.2.2.2) && decide (im_ml e.2.2.2.1 ≤ 8) && (!(e.2.2.1 == 2 || e.2.2.1 == 4) || (decide ((im_y e.2.2.2.1).name = "<init>") && decide (im_rt e.2.2.2.1 = none))) && decide (e.2.2.1 < 5))
theorem im_lk_0 : List.all (List.zip ((im_lks.drop 0).take 48) ((im_lkh.drop 0).take 48)) (fun q => im_chk (im_lkw q.1) q.2 && im_lkB q.1) = true := by decide +kernel
theorem im_lk_48 : List.all (List.zip ((im_lks.drop 48).take 48) ((im_lkh.drop 48).take 48)) (fun q => im_chk (im_lkw q.1) q.2 && im_lkB q.1) = true := by decide +kernel
theorem im_lk_96 : List.all (List.zip ((im_lks.drop 96).take 48) ((im_lkh.drop 96).take 48)) (fun q => im_chk (im_lkw q.1) q.2 && im_lkB q.1) = true := by decide +kernel
theorem im_lk_144 : List.all (List.zip ((im_lks.drop 144).take 48) ((im_lkh.drop 144).take 48)) (fun q => im_chk (im_lkw q.1) q.2 && im_lkB q.1) = true := by decide +kernel
theorem im_lk_192 : List.all (List.zip ((im_lks.drop 192).take 48) ((im_lkh.drop 192).take 48)) (fun q => im_chk (im_lkw q.1) q.2 && im_lkB q.1) = true := by decide +kernel
theorem im_lk_240 : List.all (List.zip ((im_lks.drop 240).take 48) ((im_lkh.drop 240).take 48)) (fun q => im_chk (im_lkw q.1) q.2 && im_lkB q.1) = true := by decide +kernel
theorem im_lks_len : im_lks.length = im_lkh.length := by decide +kernel
theorem im_lk_at {α : Type} {β : Type} {l : List α} {h : List β} {f : α × β → Bool} (hl : l.length = h.length) {a n : Nat} (hf : (((l.drop a).take n).zip ((h.drop a).take n)).all f = true) {k : Nat} (h1 : a ≤ k) (h2 : k < a + n) {x : α} (hx : l[k]? = some x) : ∃ y, f (x, y) = true := by
  have hk : k < l.length := (List.getElem?_eq_some_iff.mp hx).1
  have hy : h[k]? = some (h[k]'(by omega)) := List.getElem?_eq_getElem (by omega)
  refine ⟨_, List.all_eq_true.mp hf (x, h[k]'(by omega)) (List.mem_of_getElem? (i := k - a) ?_)⟩
  rw [List.getElem?_zip_eq_some]
  refine ⟨?_, ?_⟩
  · rw [List.getElem?_take_of_lt (by omega), List.getElem?_drop, show a + (k - a) = k by omega]; exact hx
  · rw [List.getElem?_take_of_lt (by omega), List.getElem?_drop, show a + (k - a) = k by omega]; exact hy
theorem im_lks_n : im_lks.length = 288 := by decide +kernel
theorem im_lkW {o x k j n : Nat} (h : im_lk o x = some (k, j, n)) : (∀ w ∈ im_lkw (o, x, k, j, n), w ∈ im_W) ∧ im_lkB (o, x, k, j, n) = true := by
  obtain ⟨i, hi⟩ := List.getElem?_of_mem (im_find h)
  have hn : i < 288 := by have := (List.getElem?_eq_some_iff.mp hi).1; rw [im_lks_n] at this; exact this
  have key : ∃ y, (im_chk (im_lkw (o, x, k, j, n)) y && im_lkB (o, x, k, j, n)) = true := by
    rcases (show (0 ≤ i ∧ i < 48) ∨ (48 ≤ i ∧ i < 96) ∨ (96 ≤ i ∧ i < 144) ∨ (144 ≤ i ∧ i < 192) ∨ (192 ≤ i ∧ i < 240) ∨ (240 ≤ i ∧ i < 288) by omega) with ⟨q1, q2⟩ | ⟨q1, q2⟩ | ⟨q1, q2⟩ | ⟨q1, q2⟩ | ⟨q1, q2⟩ | ⟨q1, q2⟩
    · exact im_lk_at im_lks_len im_lk_0 q1 q2 hi
    · exact im_lk_at im_lks_len im_lk_48 q1 q2 hi
    · exact im_lk_at im_lks_len im_lk_96 q1 q2 hi
    · exact im_lk_at im_lks_len im_lk_144 q1 q2 hi
    · exact im_lk_at im_lks_len im_lk_192 q1 q2 hi
    · exact im_lk_at im_lks_len im_lk_240 q1 q2 hi
  obtain ⟨y, hy⟩ := key
  rw [Bool.and_eq_true] at hy
  exact ⟨im_chk_in hy.1, hy.2⟩
set_option maxRecDepth 100000 in
theorem im_cd_0 : Cond.code (im_y 0) (im_cc 0) (im_ml 0) (im_rt 0) ∈ im_W := im_inW (List.mem_of_getElem? (i := 83) rfl) rfl
set_option maxRecDepth 100000 in
theorem im_cd_1 : Cond.code (im_y 1) (im_cc 1) (im_ml 1) (im_rt 1) ∈ im_W := im_inW (List.mem_of_getElem? (i := 91) rfl) rfl
set_option maxRecDepth 100000 in
theorem im_cd_2 : Cond.code (im_y 2) (im_cc 2) (im_ml 2) (im_rt 2) ∈ im_W := im_inW (List.mem_of_getElem? (i := 97) rfl) rfl
set_option maxRecDepth 100000 in
theorem im_cd_3 : Cond.code (im_y 3) (im_cc 3) (im_ml 3) (im_rt 3) ∈ im_W := im_inW (List.mem_of_getElem? (i := 112) rfl) rfl
set_option maxRecDepth 100000 in
theorem im_cd_4 : Cond.code (im_y 4) (im_cc 4) (im_ml 4) (im_rt 4) ∈ im_W := im_inW (List.mem_of_getElem? (i := 131) rfl) rfl
set_option maxRecDepth 100000 in
theorem im_cd_5 : Cond.code (im_y 5) (im_cc 5) (im_ml 5) (im_rt 5) ∈ im_W := im_inW (List.mem_of_getElem? (i := 147) rfl) rfl
set_option maxRecDepth 100000 in
theorem im_cd_6 : Cond.code (im_y 6) (im_cc 6) (im_ml 6) (im_rt 6) ∈ im_W := im_inW (List.mem_of_getElem? (i := 163) rfl) rfl
set_option maxRecDepth 100000 in
theorem im_cd_7 : Cond.code (im_y 7) (im_cc 7) (im_ml 7) (im_rt 7) ∈ im_W := im_inW (List.mem_of_getElem? (i := 273) rfl) rfl
set_option maxRecDepth 100000 in
theorem im_cd_8 : Cond.code (im_y 8) (im_cc 8) (im_ml 8) (im_rt 8) ∈ im_W := im_inW (List.mem_of_getElem? (i := 300) rfl) rfl
set_option maxRecDepth 100000 in
theorem im_cd_9 : Cond.code (im_y 9) (im_cc 9) (im_ml 9) (im_rt 9) ∈ im_W := im_inW (List.mem_of_getElem? (i := 325) rfl) rfl
set_option maxRecDepth 100000 in
theorem im_cd_10 : Cond.code (im_y 10) (im_cc 10) (im_ml 10) (im_rt 10) ∈ im_W := im_inW (List.mem_of_getElem? (i := 368) rfl) rfl
set_option maxRecDepth 100000 in
theorem im_cd_11 : Cond.code (im_y 11) (im_cc 11) (im_ml 11) (im_rt 11) ∈ im_W := im_inW (List.mem_of_getElem? (i := 371) rfl) rfl
set_option maxRecDepth 100000 in
theorem im_cd_12 : Cond.code (im_y 12) (im_cc 12) (im_ml 12) (im_rt 12) ∈ im_W := im_inW (List.mem_of_getElem? (i := 375) rfl) rfl
set_option maxRecDepth 100000 in
theorem im_cd_13 : Cond.code (im_y 13) (im_cc 13) (im_ml 13) (im_rt 13) ∈ im_W := im_inW (List.mem_of_getElem? (i := 380) rfl) rfl
set_option maxRecDepth 100000 in
theorem im_cd_14 : Cond.code (im_y 14) (im_cc 14) (im_ml 14) (im_rt 14) ∈ im_W := im_inW (List.mem_of_getElem? (i := 385) rfl) rfl
set_option maxRecDepth 100000 in
theorem im_cd_15 : Cond.code (im_y 15) (im_cc 15) (im_ml 15) (im_rt 15) ∈ im_W := im_inW (List.mem_of_getElem? (i := 389) rfl) rfl
set_option maxRecDepth 100000 in
theorem im_cd_16 : Cond.code (im_y 16) (im_cc 16) (im_ml 16) (im_rt 16) ∈ im_W := im_inW (List.mem_of_getElem? (i := 392) rfl) rfl
set_option maxRecDepth 100000 in
theorem im_cd_17 : Cond.code (im_y 17) (im_cc 17) (im_ml 17) (im_rt 17) ∈ im_W := im_inW (List.mem_of_getElem? (i := 398) rfl) rfl
set_option maxRecDepth 100000 in
theorem im_cd_18 : Cond.code (im_y 18) (im_cc 18) (im_ml 18) (im_rt 18) ∈ im_W := im_inW (List.mem_of_getElem? (i := 402) rfl) rfl
set_option maxRecDepth 100000 in
theorem im_cd_19 : Cond.code (im_y 19) (im_cc 19) (im_ml 19) (im_rt 19) ∈ im_W := im_inW (List.mem_of_getElem? (i := 406) rfl) rfl
set_option maxRecDepth 100000 in
theorem im_cd_20 : Cond.code (im_y 20) (im_cc 20) (im_ml 20) (im_rt 20) ∈ im_W := im_inW (List.mem_of_getElem? (i := 410) rfl) rfl
set_option maxRecDepth 100000 in
theorem im_cd_21 : Cond.code (im_y 21) (im_cc 21) (im_ml 21) (im_rt 21) ∈ im_W := im_inW (List.mem_of_getElem? (i := 414) rfl) rfl
set_option maxRecDepth 100000 in
theorem im_cd_22 : Cond.code (im_y 22) (im_cc 22) (im_ml 22) (im_rt 22) ∈ im_W := im_inW (List.mem_of_getElem? (i := 418) rfl) rfl
set_option maxRecDepth 100000 in
theorem im_cd_23 : Cond.code (im_y 23) (im_cc 23) (im_ml 23) (im_rt 23) ∈ im_W := im_inW (List.mem_of_getElem? (i := 421) rfl) rfl
set_option maxRecDepth 100000 in
theorem im_cd_24 : Cond.code (im_y 24) (im_cc 24) (im_ml 24) (im_rt 24) ∈ im_W := im_inW (List.mem_of_getElem? (i := 425) rfl) rfl
set_option maxRecDepth 100000 in
theorem im_cd_25 : Cond.code (im_y 25) (im_cc 25) (im_ml 25) (im_rt 25) ∈ im_W := im_inW (List.mem_of_getElem? (i := 430) rfl) rfl
set_option maxRecDepth 100000 in
theorem im_cd_26 : Cond.code (im_y 26) (im_cc 26) (im_ml 26) (im_rt 26) ∈ im_W := im_inW (List.mem_of_getElem? (i := 433) rfl) rfl
set_option maxRecDepth 100000 in
theorem im_cd_27 : Cond.code (im_y 27) (im_cc 27) (im_ml 27) (im_rt 27) ∈ im_W := im_inW (List.mem_of_getElem? (i := 437) rfl) rfl
set_option maxRecDepth 100000 in
theorem im_cd_28 : Cond.code (im_y 28) (im_cc 28) (im_ml 28) (im_rt 28) ∈ im_W := im_inW (List.mem_of_getElem? (i := 441) rfl) rfl
set_option maxRecDepth 100000 in
theorem im_cd_29 : Cond.code (im_y 29) (im_cc 29) (im_ml 29) (im_rt 29) ∈ im_W := im_inW (List.mem_of_getElem? (i := 445) rfl) rfl
set_option maxRecDepth 100000 in
theorem im_cd_30 : Cond.code (im_y 30) (im_cc 30) (im_ml 30) (im_rt 30) ∈ im_W := im_inW (List.mem_of_getElem? (i := 449) rfl) rfl
set_option maxRecDepth 100000 in
theorem im_cd_31 : Cond.code (im_y 31) (im_cc 31) (im_ml 31) (im_rt 31) ∈ im_W := im_inW (List.mem_of_getElem? (i := 453) rfl) rfl
set_option maxRecDepth 100000 in
theorem im_cd_32 : Cond.code (im_y 32) (im_cc 32) (im_ml 32) (im_rt 32) ∈ im_W := im_inW (List.mem_of_getElem? (i := 457) rfl) rfl
set_option maxRecDepth 100000 in
theorem im_cd_33 : Cond.code (im_y 33) (im_cc 33) (im_ml 33) (im_rt 33) ∈ im_W := im_inW (List.mem_of_getElem? (i := 460) rfl) rfl
set_option maxRecDepth 100000 in
theorem im_cd_34 : Cond.code (im_y 34) (im_cc 34) (im_ml 34) (im_rt 34) ∈ im_W := im_inW (List.mem_of_getElem? (i := 463) rfl) rfl
set_option maxRecDepth 100000 in
theorem im_cd_35 : Cond.code (im_y 35) (im_cc 35) (im_ml 35) (im_rt 35) ∈ im_W := im_inW (List.mem_of_getElem? (i := 466) rfl) rfl
set_option maxRecDepth 100000 in
theorem im_cd_36 : Cond.code (im_y 36) (im_cc 36) (im_ml 36) (im_rt 36) ∈ im_W := im_inW (List.mem_of_getElem? (i := 471) rfl) rfl
set_option maxRecDepth 100000 in
theorem im_cd_37 : Cond.code (im_y 37) (im_cc 37) (im_ml 37) (im_rt 37) ∈ im_W := im_inW (List.mem_of_getElem? (i := 475) rfl) rfl
set_option maxRecDepth 100000 in
theorem im_cd_38 : Cond.code (im_y 38) (im_cc 38) (im_ml 38) (im_rt 38) ∈ im_W := im_inW (List.mem_of_getElem? (i := 479) rfl) rfl
set_option maxRecDepth 100000 in
theorem im_cd_39 : Cond.code (im_y 39) (im_cc 39) (im_ml 39) (im_rt 39) ∈ im_W := im_inW (List.mem_of_getElem? (i := 483) rfl) rfl
set_option maxRecDepth 100000 in
theorem im_cd_40 : Cond.code (im_y 40) (im_cc 40) (im_ml 40) (im_rt 40) ∈ im_W := im_inW (List.mem_of_getElem? (i := 487) rfl) rfl
set_option maxRecDepth 100000 in
theorem im_cd_41 : Cond.code (im_y 41) (im_cc 41) (im_ml 41) (im_rt 41) ∈ im_W := im_inW (List.mem_of_getElem? (i := 491) rfl) rfl
set_option maxRecDepth 100000 in
theorem im_cd_42 : Cond.code (im_y 42) (im_cc 42) (im_ml 42) (im_rt 42) ∈ im_W := im_inW (List.mem_of_getElem? (i := 495) rfl) rfl
set_option maxRecDepth 100000 in
theorem im_cd_43 : Cond.code (im_y 43) (im_cc 43) (im_ml 43) (im_rt 43) ∈ im_W := im_inW (List.mem_of_getElem? (i := 499) rfl) rfl
set_option maxRecDepth 100000 in
theorem im_cd_44 : Cond.code (im_y 44) (im_cc 44) (im_ml 44) (im_rt 44) ∈ im_W := im_inW (List.mem_of_getElem? (i := 503) rfl) rfl
set_option maxRecDepth 100000 in
theorem im_cd_45 : Cond.code (im_y 45) (im_cc 45) (im_ml 45) (im_rt 45) ∈ im_W := im_inW (List.mem_of_getElem? (i := 507) rfl) rfl
set_option maxRecDepth 100000 in
theorem im_cd_46 : Cond.code (im_y 46) (im_cc 46) (im_ml 46) (im_rt 46) ∈ im_W := im_inW (List.mem_of_getElem? (i := 511) rfl) rfl
set_option maxRecDepth 100000 in
theorem im_cd_47 : Cond.code (im_y 47) (im_cc 47) (im_ml 47) (im_rt 47) ∈ im_W := im_inW (List.mem_of_getElem? (i := 515) rfl) rfl
set_option maxRecDepth 100000 in
theorem im_cd_48 : Cond.code (im_y 48) (im_cc 48) (im_ml 48) (im_rt 48) ∈ im_W := im_inW (List.mem_of_getElem? (i := 519) rfl) rfl
set_option maxRecDepth 100000 in
theorem im_cd_49 : Cond.code (im_y 49) (im_cc 49) (im_ml 49) (im_rt 49) ∈ im_W := im_inW (List.mem_of_getElem? (i := 523) rfl) rfl
set_option maxRecDepth 100000 in
theorem im_cd_50 : Cond.code (im_y 50) (im_cc 50) (im_ml 50) (im_rt 50) ∈ im_W := im_inW (List.mem_of_getElem? (i := 527) rfl) rfl
set_option maxRecDepth 100000 in
theorem im_cd_51 : Cond.code (im_y 51) (im_cc 51) (im_ml 51) (im_rt 51) ∈ im_W := im_inW (List.mem_of_getElem? (i := 531) rfl) rfl
set_option maxRecDepth 100000 in
theorem im_cd_52 : Cond.code (im_y 52) (im_cc 52) (im_ml 52) (im_rt 52) ∈ im_W := im_inW (List.mem_of_getElem? (i := 535) rfl) rfl
set_option maxRecDepth 100000 in
theorem im_cd_53 : Cond.code (im_y 53) (im_cc 53) (im_ml 53) (im_rt 53) ∈ im_W := im_inW (List.mem_of_getElem? (i := 539) rfl) rfl
set_option maxRecDepth 100000 in
theorem im_cd_54 : Cond.code (im_y 54) (im_cc 54) (im_ml 54) (im_rt 54) ∈ im_W := im_inW (List.mem_of_getElem? (i := 544) rfl) rfl
set_option maxRecDepth 100000 in
theorem im_cd_55 : Cond.code (im_y 55) (im_cc 55) (im_ml 55) (im_rt 55) ∈ im_W := im_inW (List.mem_of_getElem? (i := 548) rfl) rfl
set_option maxRecDepth 100000 in
theorem im_cd_56 : Cond.code (im_y 56) (im_cc 56) (im_ml 56) (im_rt 56) ∈ im_W := im_inW (List.mem_of_getElem? (i := 553) rfl) rfl
set_option maxRecDepth 100000 in
theorem im_cd_57 : Cond.code (im_y 57) (im_cc 57) (im_ml 57) (im_rt 57) ∈ im_W := im_inW (List.mem_of_getElem? (i := 557) rfl) rfl
set_option maxRecDepth 100000 in
theorem im_cd_58 : Cond.code (im_y 58) (im_cc 58) (im_ml 58) (im_rt 58) ∈ im_W := im_inW (List.mem_of_getElem? (i := 562) rfl) rfl
set_option maxRecDepth 100000 in
theorem im_cd_59 : Cond.code (im_y 59) (im_cc 59) (im_ml 59) (im_rt 59) ∈ im_W := im_inW (List.mem_of_getElem? (i := 566) rfl) rfl
set_option maxRecDepth 100000 in
theorem im_cd_60 : Cond.code (im_y 60) (im_cc 60) (im_ml 60) (im_rt 60) ∈ im_W := im_inW (List.mem_of_getElem? (i := 573) rfl) rfl
set_option maxRecDepth 100000 in
theorem im_cd_61 : Cond.code (im_y 61) (im_cc 61) (im_ml 61) (im_rt 61) ∈ im_W := im_inW (List.mem_of_getElem? (i := 578) rfl) rfl
set_option maxRecDepth 100000 in
theorem im_cd_62 : Cond.code (im_y 62) (im_cc 62) (im_ml 62) (im_rt 62) ∈ im_W := im_inW (List.mem_of_getElem? (i := 583) rfl) rfl
set_option maxRecDepth 100000 in
theorem im_cd_63 : Cond.code (im_y 63) (im_cc 63) (im_ml 63) (im_rt 63) ∈ im_W := im_inW (List.mem_of_getElem? (i := 587) rfl) rfl
set_option maxRecDepth 100000 in
theorem im_cd_64 : Cond.code (im_y 64) (im_cc 64) (im_ml 64) (im_rt 64) ∈ im_W := im_inW (List.mem_of_getElem? (i := 591) rfl) rfl
set_option maxRecDepth 100000 in
theorem im_cd_65 : Cond.code (im_y 65) (im_cc 65) (im_ml 65) (im_rt 65) ∈ im_W := im_inW (List.mem_of_getElem? (i := 597) rfl) rfl
set_option maxRecDepth 100000 in
theorem im_cd_66 : Cond.code (im_y 66) (im_cc 66) (im_ml 66) (im_rt 66) ∈ im_W := im_inW (List.mem_of_getElem? (i := 601) rfl) rfl
set_option maxRecDepth 100000 in
theorem im_cd_67 : Cond.code (im_y 67) (im_cc 67) (im_ml 67) (im_rt 67) ∈ im_W := im_inW (List.mem_of_getElem? (i := 605) rfl) rfl
set_option maxRecDepth 100000 in
theorem im_cd_68 : Cond.code (im_y 68) (im_cc 68) (im_ml 68) (im_rt 68) ∈ im_W := im_inW (List.mem_of_getElem? (i := 609) rfl) rfl
set_option maxRecDepth 100000 in
theorem im_cd_69 : Cond.code (im_y 69) (im_cc 69) (im_ml 69) (im_rt 69) ∈ im_W := im_inW (List.mem_of_getElem? (i := 613) rfl) rfl
set_option maxRecDepth 100000 in
theorem im_cd_70 : Cond.code (im_y 70) (im_cc 70) (im_ml 70) (im_rt 70) ∈ im_W := im_inW (List.mem_of_getElem? (i := 617) rfl) rfl
set_option maxRecDepth 100000 in
theorem im_cd_71 : Cond.code (im_y 71) (im_cc 71) (im_ml 71) (im_rt 71) ∈ im_W := im_inW (List.mem_of_getElem? (i := 621) rfl) rfl
set_option maxRecDepth 100000 in
theorem im_cd_72 : Cond.code (im_y 72) (im_cc 72) (im_ml 72) (im_rt 72) ∈ im_W := im_inW (List.mem_of_getElem? (i := 625) rfl) rfl
set_option maxRecDepth 100000 in
theorem im_cd_73 : Cond.code (im_y 73) (im_cc 73) (im_ml 73) (im_rt 73) ∈ im_W := im_inW (List.mem_of_getElem? (i := 629) rfl) rfl
set_option maxRecDepth 100000 in
theorem im_cd_74 : Cond.code (im_y 74) (im_cc 74) (im_ml 74) (im_rt 74) ∈ im_W := im_inW (List.mem_of_getElem? (i := 633) rfl) rfl
set_option maxRecDepth 100000 in
theorem im_cd_75 : Cond.code (im_y 75) (im_cc 75) (im_ml 75) (im_rt 75) ∈ im_W := im_inW (List.mem_of_getElem? (i := 638) rfl) rfl
set_option maxRecDepth 100000 in
theorem im_cd_76 : Cond.code (im_y 76) (im_cc 76) (im_ml 76) (im_rt 76) ∈ im_W := im_inW (List.mem_of_getElem? (i := 642) rfl) rfl
set_option maxRecDepth 100000 in
theorem im_cd_77 : Cond.code (im_y 77) (im_cc 77) (im_ml 77) (im_rt 77) ∈ im_W := im_inW (List.mem_of_getElem? (i := 646) rfl) rfl
set_option maxRecDepth 100000 in
theorem im_cd_78 : Cond.code (im_y 78) (im_cc 78) (im_ml 78) (im_rt 78) ∈ im_W := im_inW (List.mem_of_getElem? (i := 652) rfl) rfl
set_option maxRecDepth 100000 in
theorem im_cd_79 : Cond.code (im_y 79) (im_cc 79) (im_ml 79) (im_rt 79) ∈ im_W := im_inW (List.mem_of_getElem? (i := 656) rfl) rfl
set_option maxRecDepth 100000 in
theorem im_cd_80 : Cond.code (im_y 80) (im_cc 80) (im_ml 80) (im_rt 80) ∈ im_W := im_inW (List.mem_of_getElem? (i := 659) rfl) rfl
set_option maxRecDepth 100000 in
theorem im_cd_81 : Cond.code (im_y 81) (im_cc 81) (im_ml 81) (im_rt 81) ∈ im_W := im_inW (List.mem_of_getElem? (i := 662) rfl) rfl
set_option maxRecDepth 100000 in
theorem im_cd_82 : Cond.code (im_y 82) (im_cc 82) (im_ml 82) (im_rt 82) ∈ im_W := im_inW (List.mem_of_getElem? (i := 667) rfl) rfl
set_option maxRecDepth 100000 in
theorem im_cd_83 : Cond.code (im_y 83) (im_cc 83) (im_ml 83) (im_rt 83) ∈ im_W := im_inW (List.mem_of_getElem? (i := 670) rfl) rfl
set_option maxRecDepth 100000 in
theorem im_cd_84 : Cond.code (im_y 84) (im_cc 84) (im_ml 84) (im_rt 84) ∈ im_W := im_inW (List.mem_of_getElem? (i := 676) rfl) rfl
set_option maxRecDepth 100000 in
theorem im_cd_85 : Cond.code (im_y 85) (im_cc 85) (im_ml 85) (im_rt 85) ∈ im_W := im_inW (List.mem_of_getElem? (i := 679) rfl) rfl
set_option maxRecDepth 100000 in
theorem im_cd_86 : Cond.code (im_y 86) (im_cc 86) (im_ml 86) (im_rt 86) ∈ im_W := im_inW (List.mem_of_getElem? (i := 682) rfl) rfl
set_option maxRecDepth 100000 in
theorem im_cd_87 : Cond.code (im_y 87) (im_cc 87) (im_ml 87) (im_rt 87) ∈ im_W := im_inW (List.mem_of_getElem? (i := 685) rfl) rfl
set_option maxRecDepth 100000 in
theorem im_cd_88 : Cond.code (im_y 88) (im_cc 88) (im_ml 88) (im_rt 88) ∈ im_W := im_inW (List.mem_of_getElem? (i := 690) rfl) rfl
set_option maxRecDepth 100000 in
theorem im_cd_89 : Cond.code (im_y 89) (im_cc 89) (im_ml 89) (im_rt 89) ∈ im_W := im_inW (List.mem_of_getElem? (i := 693) rfl) rfl
set_option maxRecDepth 100000 in
theorem im_cd_90 : Cond.code (im_y 90) (im_cc 90) (im_ml 90) (im_rt 90) ∈ im_W := im_inW (List.mem_of_getElem? (i := 696) rfl) rfl
set_option maxRecDepth 100000 in
theorem im_cd_91 : Cond.code (im_y 91) (im_cc 91) (im_ml 91) (im_rt 91) ∈ im_W := im_inW (List.mem_of_getElem? (i := 705) rfl) rfl
set_option maxRecDepth 100000 in
theorem im_cd_92 : Cond.code (im_y 92) (im_cc 92) (im_ml 92) (im_rt 92) ∈ im_W := im_inW (List.mem_of_getElem? (i := 708) rfl) rfl
set_option maxRecDepth 100000 in
theorem im_cd_93 : Cond.code (im_y 93) (im_cc 93) (im_ml 93) (im_rt 93) ∈ im_W := im_inW (List.mem_of_getElem? (i := 711) rfl) rfl
set_option maxRecDepth 100000 in
theorem im_cd_94 : Cond.code (im_y 94) (im_cc 94) (im_ml 94) (im_rt 94) ∈ im_W := im_inW (List.mem_of_getElem? (i := 715) rfl) rfl
set_option maxRecDepth 100000 in
theorem im_cd_95 : Cond.code (im_y 95) (im_cc 95) (im_ml 95) (im_rt 95) ∈ im_W := im_inW (List.mem_of_getElem? (i := 721) rfl) rfl
set_option maxRecDepth 100000 in
theorem im_cd_96 : Cond.code (im_y 96) (im_cc 96) (im_ml 96) (im_rt 96) ∈ im_W := im_inW (List.mem_of_getElem? (i := 725) rfl) rfl
set_option maxRecDepth 100000 in
theorem im_cd_97 : Cond.code (im_y 97) (im_cc 97) (im_ml 97) (im_rt 97) ∈ im_W := im_inW (List.mem_of_getElem? (i := 729) rfl) rfl
set_option maxRecDepth 100000 in
theorem im_cd_98 : Cond.code (im_y 98) (im_cc 98) (im_ml 98) (im_rt 98) ∈ im_W := im_inW (List.mem_of_getElem? (i := 733) rfl) rfl
set_option maxRecDepth 100000 in
theorem im_cd_99 : Cond.code (im_y 99) (im_cc 99) (im_ml 99) (im_rt 99) ∈ im_W := im_inW (List.mem_of_getElem? (i := 740) rfl) rfl
set_option maxRecDepth 100000 in
theorem im_cd_100 : Cond.code (im_y 100) (im_cc 100) (im_ml 100) (im_rt 100) ∈ im_W := im_inW (List.mem_of_getElem? (i := 745) rfl) rfl
set_option maxRecDepth 100000 in
theorem im_cd_101 : Cond.code (im_y 101) (im_cc 101) (im_ml 101) (im_rt 101) ∈ im_W := im_inW (List.mem_of_getElem? (i := 749) rfl) rfl
set_option maxRecDepth 100000 in
theorem im_cd_102 : Cond.code (im_y 102) (im_cc 102) (im_ml 102) (im_rt 102) ∈ im_W := im_inW (List.mem_of_getElem? (i := 753) rfl) rfl
set_option maxRecDepth 100000 in
theorem im_cd_103 : Cond.code (im_y 103) (im_cc 103) (im_ml 103) (im_rt 103) ∈ im_W := im_inW (List.mem_of_getElem? (i := 757) rfl) rfl
set_option maxRecDepth 100000 in
theorem im_cd_104 : Cond.code (im_y 104) (im_cc 104) (im_ml 104) (im_rt 104) ∈ im_W := im_inW (List.mem_of_getElem? (i := 764) rfl) rfl
set_option maxRecDepth 100000 in
theorem im_cd_105 : Cond.code (im_y 105) (im_cc 105) (im_ml 105) (im_rt 105) ∈ im_W := im_inW (List.mem_of_getElem? (i := 768) rfl) rfl
set_option maxRecDepth 100000 in
theorem im_cd_106 : Cond.code (im_y 106) (im_cc 106) (im_ml 106) (im_rt 106) ∈ im_W := im_inW (List.mem_of_getElem? (i := 774) rfl) rfl
set_option maxRecDepth 100000 in
theorem im_cd_107 : Cond.code (im_y 107) (im_cc 107) (im_ml 107) (im_rt 107) ∈ im_W := im_inW (List.mem_of_getElem? (i := 781) rfl) rfl
set_option maxRecDepth 100000 in
theorem im_cd_108 : Cond.code (im_y 108) (im_cc 108) (im_ml 108) (im_rt 108) ∈ im_W := im_inW (List.mem_of_getElem? (i := 785) rfl) rfl
set_option maxRecDepth 100000 in
theorem im_cd_109 : Cond.code (im_y 109) (im_cc 109) (im_ml 109) (im_rt 109) ∈ im_W := im_inW (List.mem_of_getElem? (i := 789) rfl) rfl
set_option maxRecDepth 100000 in
theorem im_cd_110 : Cond.code (im_y 110) (im_cc 110) (im_ml 110) (im_rt 110) ∈ im_W := im_inW (List.mem_of_getElem? (i := 793) rfl) rfl
set_option maxRecDepth 100000 in
theorem im_cd_111 : Cond.code (im_y 111) (im_cc 111) (im_ml 111) (im_rt 111) ∈ im_W := im_inW (List.mem_of_getElem? (i := 797) rfl) rfl
set_option maxRecDepth 100000 in
theorem im_cd_112 : Cond.code (im_y 112) (im_cc 112) (im_ml 112) (im_rt 112) ∈ im_W := im_inW (List.mem_of_getElem? (i := 802) rfl) rfl
set_option maxRecDepth 100000 in
theorem im_cd_113 : Cond.code (im_y 113) (im_cc 113) (im_ml 113) (im_rt 113) ∈ im_W := im_inW (List.mem_of_getElem? (i := 808) rfl) rfl
set_option maxRecDepth 100000 in
theorem im_cd_114 : Cond.code (im_y 114) (im_cc 114) (im_ml 114) (im_rt 114) ∈ im_W := im_inW (List.mem_of_getElem? (i := 813) rfl) rfl
set_option maxRecDepth 100000 in
theorem im_cd_115 : Cond.code (im_y 115) (im_cc 115) (im_ml 115) (im_rt 115) ∈ im_W := im_inW (List.mem_of_getElem? (i := 818) rfl) rfl
set_option maxRecDepth 100000 in
theorem im_cd_116 : Cond.code (im_y 116) (im_cc 116) (im_ml 116) (im_rt 116) ∈ im_W := im_inW (List.mem_of_getElem? (i := 822) rfl) rfl
set_option maxRecDepth 100000 in
theorem im_cd_117 : Cond.code (im_y 117) (im_cc 117) (im_ml 117) (im_rt 117) ∈ im_W := im_inW (List.mem_of_getElem? (i := 827) rfl) rfl
set_option maxRecDepth 100000 in
theorem im_cd_118 : Cond.code (im_y 118) (im_cc 118) (im_ml 118) (im_rt 118) ∈ im_W := im_inW (List.mem_of_getElem? (i := 831) rfl) rfl
set_option maxRecDepth 100000 in
theorem im_cd_119 : Cond.code (im_y 119) (im_cc 119) (im_ml 119) (im_rt 119) ∈ im_W := im_inW (List.mem_of_getElem? (i := 837) rfl) rfl
set_option maxRecDepth 100000 in
theorem im_cd_120 : Cond.code (im_y 120) (im_cc 120) (im_ml 120) (im_rt 120) ∈ im_W := im_inW (List.mem_of_getElem? (i := 841) rfl) rfl
set_option maxRecDepth 100000 in
theorem im_cd_121 : Cond.code (im_y 121) (im_cc 121) (im_ml 121) (im_rt 121) ∈ im_W := im_inW (List.mem_of_getElem? (i := 845) rfl) rfl
set_option maxRecDepth 100000 in
theorem im_cd_122 : Cond.code (im_y 122) (im_cc 122) (im_ml 122) (im_rt 122) ∈ im_W := im_inW (List.mem_of_getElem? (i := 849) rfl) rfl
set_option maxRecDepth 100000 in
theorem im_cd_123 : Cond.code (im_y 123) (im_cc 123) (im_ml 123) (im_rt 123) ∈ im_W := im_inW (List.mem_of_getElem? (i := 853) rfl) rfl
set_option maxRecDepth 100000 in
theorem im_cd_124 : Cond.code (im_y 124) (im_cc 124) (im_ml 124) (im_rt 124) ∈ im_W := im_inW (List.mem_of_getElem? (i := 857) rfl) rfl
set_option maxRecDepth 100000 in
theorem im_cd_125 : Cond.code (im_y 125) (im_cc 125) (im_ml 125) (im_rt 125) ∈ im_W := im_inW (List.mem_of_getElem? (i := 861) rfl) rfl
set_option maxRecDepth 100000 in
theorem im_cd_126 : Cond.code (im_y 126) (im_cc 126) (im_ml 126) (im_rt 126) ∈ im_W := im_inW (List.mem_of_getElem? (i := 864) rfl) rfl
set_option maxRecDepth 100000 in
theorem im_cd_127 : Cond.code (im_y 127) (im_cc 127) (im_ml 127) (im_rt 127) ∈ im_W := im_inW (List.mem_of_getElem? (i := 872) rfl) rfl
set_option maxRecDepth 100000 in
theorem im_cd_128 : Cond.code (im_y 128) (im_cc 128) (im_ml 128) (im_rt 128) ∈ im_W := im_inW (List.mem_of_getElem? (i := 876) rfl) rfl
set_option maxRecDepth 100000 in
theorem im_cd_129 : Cond.code (im_y 129) (im_cc 129) (im_ml 129) (im_rt 129) ∈ im_W := im_inW (List.mem_of_getElem? (i := 880) rfl) rfl
set_option maxRecDepth 100000 in
theorem im_cd_130 : Cond.code (im_y 130) (im_cc 130) (im_ml 130) (im_rt 130) ∈ im_W := im_inW (List.mem_of_getElem? (i := 884) rfl) rfl
set_option maxRecDepth 100000 in
theorem im_cd_131 : Cond.code (im_y 131) (im_cc 131) (im_ml 131) (im_rt 131) ∈ im_W := im_inW (List.mem_of_getElem? (i := 888) rfl) rfl
set_option maxRecDepth 100000 in
theorem im_cd_132 : Cond.code (im_y 132) (im_cc 132) (im_ml 132) (im_rt 132) ∈ im_W := im_inW (List.mem_of_getElem? (i := 892) rfl) rfl
set_option maxRecDepth 100000 in
theorem im_cd_133 : Cond.code (im_y 133) (im_cc 133) (im_ml 133) (im_rt 133) ∈ im_W := im_inW (List.mem_of_getElem? (i := 896) rfl) rfl
set_option maxRecDepth 100000 in
theorem im_cd_134 : Cond.code (im_y 134) (im_cc 134) (im_ml 134) (im_rt 134) ∈ im_W := im_inW (List.mem_of_getElem? (i := 900) rfl) rfl
set_option maxRecDepth 100000 in
theorem im_cd_135 : Cond.code (im_y 135) (im_cc 135) (im_ml 135) (im_rt 135) ∈ im_W := im_inW (List.mem_of_getElem? (i := 904) rfl) rfl
set_option maxRecDepth 100000 in
theorem im_cd_136 : Cond.code (im_y 136) (im_cc 136) (im_ml 136) (im_rt 136) ∈ im_W := im_inW (List.mem_of_getElem? (i := 909) rfl) rfl
set_option maxRecDepth 100000 in
theorem im_cd_137 : Cond.code (im_y 137) (im_cc 137) (im_ml 137) (im_rt 137) ∈ im_W := im_inW (List.mem_of_getElem? (i := 913) rfl) rfl
set_option maxRecDepth 100000 in
theorem im_cd_138 : Cond.code (im_y 138) (im_cc 138) (im_ml 138) (im_rt 138) ∈ im_W := im_inW (List.mem_of_getElem? (i := 918) rfl) rfl
set_option maxRecDepth 100000 in
theorem im_cd_139 : Cond.code (im_y 139) (im_cc 139) (im_ml 139) (im_rt 139) ∈ im_W := im_inW (List.mem_of_getElem? (i := 922) rfl) rfl
set_option maxRecDepth 100000 in
theorem im_cd_140 : Cond.code (im_y 140) (im_cc 140) (im_ml 140) (im_rt 140) ∈ im_W := im_inW (List.mem_of_getElem? (i := 928) rfl) rfl
set_option maxRecDepth 100000 in
theorem im_cd_141 : Cond.code (im_y 141) (im_cc 141) (im_ml 141) (im_rt 141) ∈ im_W := im_inW (List.mem_of_getElem? (i := 932) rfl) rfl
set_option maxRecDepth 100000 in
theorem im_cd_142 : Cond.code (im_y 142) (im_cc 142) (im_ml 142) (im_rt 142) ∈ im_W := im_inW (List.mem_of_getElem? (i := 936) rfl) rfl
set_option maxRecDepth 100000 in
theorem im_cd_143 : Cond.code (im_y 143) (im_cc 143) (im_ml 143) (im_rt 143) ∈ im_W := im_inW (List.mem_of_getElem? (i := 940) rfl) rfl
set_option maxRecDepth 100000 in
theorem im_cd_144 : Cond.code (im_y 144) (im_cc 144) (im_ml 144) (im_rt 144) ∈ im_W := im_inW (List.mem_of_getElem? (i := 944) rfl) rfl
set_option maxRecDepth 100000 in
theorem im_cd_145 : Cond.code (im_y 145) (im_cc 145) (im_ml 145) (im_rt 145) ∈ im_W := im_inW (List.mem_of_getElem? (i := 948) rfl) rfl
set_option maxRecDepth 100000 in
theorem im_cd_146 : Cond.code (im_y 146) (im_cc 146) (im_ml 146) (im_rt 146) ∈ im_W := im_inW (List.mem_of_getElem? (i := 952) rfl) rfl
set_option maxRecDepth 100000 in
theorem im_cd_147 : Cond.code (im_y 147) (im_cc 147) (im_ml 147) (im_rt 147) ∈ im_W := im_inW (List.mem_of_getElem? (i := 956) rfl) rfl
set_option maxRecDepth 100000 in
theorem im_cd_148 : Cond.code (im_y 148) (im_cc 148) (im_ml 148) (im_rt 148) ∈ im_W := im_inW (List.mem_of_getElem? (i := 961) rfl) rfl
set_option maxRecDepth 100000 in
theorem im_cd_149 : Cond.code (im_y 149) (im_cc 149) (im_ml 149) (im_rt 149) ∈ im_W := im_inW (List.mem_of_getElem? (i := 1024) rfl) rfl
set_option maxRecDepth 100000 in
theorem im_cd_150 : Cond.code (im_y 150) (im_cc 150) (im_ml 150) (im_rt 150) ∈ im_W := im_inW (List.mem_of_getElem? (i := 1028) rfl) rfl
set_option maxRecDepth 100000 in
theorem im_cd_151 : Cond.code (im_y 151) (im_cc 151) (im_ml 151) (im_rt 151) ∈ im_W := im_inW (List.mem_of_getElem? (i := 1032) rfl) rfl
set_option maxRecDepth 100000 in
theorem im_cd_152 : Cond.code (im_y 152) (im_cc 152) (im_ml 152) (im_rt 152) ∈ im_W := im_inW (List.mem_of_getElem? (i := 1038) rfl) rfl
set_option maxRecDepth 100000 in
theorem im_cd_153 : Cond.code (im_y 153) (im_cc 153) (im_ml 153) (im_rt 153) ∈ im_W := im_inW (List.mem_of_getElem? (i := 1042) rfl) rfl
set_option maxRecDepth 100000 in
theorem im_cd_154 : Cond.code (im_y 154) (im_cc 154) (im_ml 154) (im_rt 154) ∈ im_W := im_inW (List.mem_of_getElem? (i := 1046) rfl) rfl
set_option maxRecDepth 100000 in
theorem im_cd_155 : Cond.code (im_y 155) (im_cc 155) (im_ml 155) (im_rt 155) ∈ im_W := im_inW (List.mem_of_getElem? (i := 1050) rfl) rfl
set_option maxRecDepth 100000 in
theorem im_cd_156 : Cond.code (im_y 156) (im_cc 156) (im_ml 156) (im_rt 156) ∈ im_W := im_inW (List.mem_of_getElem? (i := 1054) rfl) rfl
set_option maxRecDepth 100000 in
theorem im_cd_157 : Cond.code (im_y 157) (im_cc 157) (im_ml 157) (im_rt 157) ∈ im_W := im_inW (List.mem_of_getElem? (i := 1058) rfl) rfl
set_option maxRecDepth 100000 in
theorem im_cd_158 : Cond.code (im_y 158) (im_cc 158) (im_ml 158) (im_rt 158) ∈ im_W := im_inW (List.mem_of_getElem? (i := 1062) rfl) rfl
set_option maxRecDepth 100000 in
theorem im_cd_159 : Cond.code (im_y 159) (im_cc 159) (im_ml 159) (im_rt 159) ∈ im_W := im_inW (List.mem_of_getElem? (i := 1066) rfl) rfl
set_option maxRecDepth 100000 in
theorem im_cd_160 : Cond.code (im_y 160) (im_cc 160) (im_ml 160) (im_rt 160) ∈ im_W := im_inW (List.mem_of_getElem? (i := 1070) rfl) rfl
set_option maxRecDepth 100000 in
theorem im_cd_161 : Cond.code (im_y 161) (im_cc 161) (im_ml 161) (im_rt 161) ∈ im_W := im_inW (List.mem_of_getElem? (i := 1074) rfl) rfl
set_option maxRecDepth 100000 in
theorem im_cd_162 : Cond.code (im_y 162) (im_cc 162) (im_ml 162) (im_rt 162) ∈ im_W := im_inW (List.mem_of_getElem? (i := 1078) rfl) rfl
set_option maxRecDepth 100000 in
theorem im_cd_163 : Cond.code (im_y 163) (im_cc 163) (im_ml 163) (im_rt 163) ∈ im_W := im_inW (List.mem_of_getElem? (i := 1082) rfl) rfl
set_option maxRecDepth 100000 in
theorem im_cd_164 : Cond.code (im_y 164) (im_cc 164) (im_ml 164) (im_rt 164) ∈ im_W := im_inW (List.mem_of_getElem? (i := 1088) rfl) rfl
set_option maxRecDepth 100000 in
theorem im_cd_165 : Cond.code (im_y 165) (im_cc 165) (im_ml 165) (im_rt 165) ∈ im_W := im_inW (List.mem_of_getElem? (i := 1092) rfl) rfl
set_option maxRecDepth 100000 in
theorem im_cd_166 : Cond.code (im_y 166) (im_cc 166) (im_ml 166) (im_rt 166) ∈ im_W := im_inW (List.mem_of_getElem? (i := 1095) rfl) rfl
set_option maxRecDepth 100000 in
theorem im_cd_167 : Cond.code (im_y 167) (im_cc 167) (im_ml 167) (im_rt 167) ∈ im_W := im_inW (List.mem_of_getElem? (i := 1098) rfl) rfl
set_option maxRecDepth 100000 in
theorem im_cd_168 : Cond.code (im_y 168) (im_cc 168) (im_ml 168) (im_rt 168) ∈ im_W := im_inW (List.mem_of_getElem? (i := 1101) rfl) rfl
set_option maxRecDepth 100000 in
theorem im_cd_169 : Cond.code (im_y 169) (im_cc 169) (im_ml 169) (im_rt 169) ∈ im_W := im_inW (List.mem_of_getElem? (i := 1105) rfl) rfl
set_option maxRecDepth 100000 in
theorem im_cd_170 : Cond.code (im_y 170) (im_cc 170) (im_ml 170) (im_rt 170) ∈ im_W := im_inW (List.mem_of_getElem? (i := 1112) rfl) rfl
set_option maxRecDepth 100000 in
theorem im_cd_171 : Cond.code (im_y 171) (im_cc 171) (im_ml 171) (im_rt 171) ∈ im_W := im_inW (List.mem_of_getElem? (i := 1116) rfl) rfl
set_option maxRecDepth 100000 in
theorem im_cd_172 : Cond.code (im_y 172) (im_cc 172) (im_ml 172) (im_rt 172) ∈ im_W := im_inW (List.mem_of_getElem? (i := 1124) rfl) rfl
set_option maxRecDepth 100000 in
theorem im_cd_173 : Cond.code (im_y 173) (im_cc 173) (im_ml 173) (im_rt 173) ∈ im_W := im_inW (List.mem_of_getElem? (i := 1129) rfl) rfl
set_option maxRecDepth 100000 in
theorem im_cd_174 : Cond.code (im_y 174) (im_cc 174) (im_ml 174) (im_rt 174) ∈ im_W := im_inW (List.mem_of_getElem? (i := 1133) rfl) rfl
set_option maxRecDepth 100000 in
theorem im_cd_175 : Cond.code (im_y 175) (im_cc 175) (im_ml 175) (im_rt 175) ∈ im_W := im_inW (List.mem_of_getElem? (i := 1137) rfl) rfl
set_option maxRecDepth 100000 in
theorem im_cd_176 : Cond.code (im_y 176) (im_cc 176) (im_ml 176) (im_rt 176) ∈ im_W := im_inW (List.mem_of_getElem? (i := 1141) rfl) rfl
set_option maxRecDepth 100000 in
theorem im_cd_177 : Cond.code (im_y 177) (im_cc 177) (im_ml 177) (im_rt 177) ∈ im_W := im_inW (List.mem_of_getElem? (i := 1145) rfl) rfl
set_option maxRecDepth 100000 in
theorem im_cd_178 : Cond.code (im_y 178) (im_cc 178) (im_ml 178) (im_rt 178) ∈ im_W := im_inW (List.mem_of_getElem? (i := 1149) rfl) rfl
set_option maxRecDepth 100000 in
theorem im_cd_179 : Cond.code (im_y 179) (im_cc 179) (im_ml 179) (im_rt 179) ∈ im_W := im_inW (List.mem_of_getElem? (i := 1153) rfl) rfl
set_option maxRecDepth 100000 in
theorem im_cd_180 : Cond.code (im_y 180) (im_cc 180) (im_ml 180) (im_rt 180) ∈ im_W := im_inW (List.mem_of_getElem? (i := 1157) rfl) rfl
set_option maxRecDepth 100000 in
theorem im_cd_181 : Cond.code (im_y 181) (im_cc 181) (im_ml 181) (im_rt 181) ∈ im_W := im_inW (List.mem_of_getElem? (i := 1161) rfl) rfl
set_option maxRecDepth 100000 in
theorem im_cd_182 : Cond.code (im_y 182) (im_cc 182) (im_ml 182) (im_rt 182) ∈ im_W := im_inW (List.mem_of_getElem? (i := 1165) rfl) rfl
set_option maxRecDepth 100000 in
theorem im_cd_183 : Cond.code (im_y 183) (im_cc 183) (im_ml 183) (im_rt 183) ∈ im_W := im_inW (List.mem_of_getElem? (i := 1171) rfl) rfl
set_option maxRecDepth 100000 in
theorem im_cd_184 : Cond.code (im_y 184) (im_cc 184) (im_ml 184) (im_rt 184) ∈ im_W := im_inW (List.mem_of_getElem? (i := 1175) rfl) rfl
set_option maxRecDepth 100000 in
theorem im_cd_185 : Cond.code (im_y 185) (im_cc 185) (im_ml 185) (im_rt 185) ∈ im_W := im_inW (List.mem_of_getElem? (i := 1179) rfl) rfl
set_option maxRecDepth 100000 in
theorem im_cd_186 : Cond.code (im_y 186) (im_cc 186) (im_ml 186) (im_rt 186) ∈ im_W := im_inW (List.mem_of_getElem? (i := 1184) rfl) rfl
set_option maxRecDepth 100000 in
theorem im_cd_187 : Cond.code (im_y 187) (im_cc 187) (im_ml 187) (im_rt 187) ∈ im_W := im_inW (List.mem_of_getElem? (i := 1188) rfl) rfl
set_option maxRecDepth 100000 in
theorem im_cd_188 : Cond.code (im_y 188) (im_cc 188) (im_ml 188) (im_rt 188) ∈ im_W := im_inW (List.mem_of_getElem? (i := 1192) rfl) rfl
set_option maxRecDepth 100000 in
theorem im_cd_189 : Cond.code (im_y 189) (im_cc 189) (im_ml 189) (im_rt 189) ∈ im_W := im_inW (List.mem_of_getElem? (i := 1196) rfl) rfl
set_option maxRecDepth 100000 in
theorem im_cd_190 : Cond.code (im_y 190) (im_cc 190) (im_ml 190) (im_rt 190) ∈ im_W := im_inW (List.mem_of_getElem? (i := 1200) rfl) rfl
set_option maxRecDepth 100000 in
theorem im_cd_191 : Cond.code (im_y 191) (im_cc 191) (im_ml 191) (im_rt 191) ∈ im_W := im_inW (List.mem_of_getElem? (i := 1203) rfl) rfl
set_option maxRecDepth 100000 in
theorem im_cd_192 : Cond.code (im_y 192) (im_cc 192) (im_ml 192) (im_rt 192) ∈ im_W := im_inW (List.mem_of_getElem? (i := 1207) rfl) rfl
set_option maxRecDepth 100000 in
theorem im_cd_193 : Cond.code (im_y 193) (im_cc 193) (im_ml 193) (im_rt 193) ∈ im_W := im_inW (List.mem_of_getElem? (i := 1211) rfl) rfl
set_option maxRecDepth 100000 in
theorem im_cd_194 : Cond.code (im_y 194) (im_cc 194) (im_ml 194) (im_rt 194) ∈ im_W := im_inW (List.mem_of_getElem? (i := 1216) rfl) rfl
set_option maxRecDepth 100000 in
theorem im_cd_195 : Cond.code (im_y 195) (im_cc 195) (im_ml 195) (im_rt 195) ∈ im_W := im_inW (List.mem_of_getElem? (i := 1220) rfl) rfl
set_option maxRecDepth 100000 in
theorem im_cd_196 : Cond.code (im_y 196) (im_cc 196) (im_ml 196) (im_rt 196) ∈ im_W := im_inW (List.mem_of_getElem? (i := 1224) rfl) rfl
set_option maxRecDepth 100000 in
theorem im_cd_197 : Cond.code (im_y 197) (im_cc 197) (im_ml 197) (im_rt 197) ∈ im_W := im_inW (List.mem_of_getElem? (i := 1228) rfl) rfl
set_option maxRecDepth 100000 in
theorem im_cd_198 : Cond.code (im_y 198) (im_cc 198) (im_ml 198) (im_rt 198) ∈ im_W := im_inW (List.mem_of_getElem? (i := 1233) rfl) rfl
set_option maxRecDepth 100000 in
theorem im_cd_199 : Cond.code (im_y 199) (im_cc 199) (im_ml 199) (im_rt 199) ∈ im_W := im_inW (List.mem_of_getElem? (i := 1237) rfl) rfl
set_option maxRecDepth 100000 in
theorem im_cd_200 : Cond.code (im_y 200) (im_cc 200) (im_ml 200) (im_rt 200) ∈ im_W := im_inW (List.mem_of_getElem? (i := 1241) rfl) rfl
set_option maxRecDepth 100000 in
theorem im_cd_201 : Cond.code (im_y 201) (im_cc 201) (im_ml 201) (im_rt 201) ∈ im_W := im_inW (List.mem_of_getElem? (i := 1246) rfl) rfl
set_option maxRecDepth 100000 in
theorem im_cd_202 : Cond.code (im_y 202) (im_cc 202) (im_ml 202) (im_rt 202) ∈ im_W := im_inW (List.mem_of_getElem? (i := 1250) rfl) rfl
set_option maxRecDepth 100000 in
theorem im_cd_203 : Cond.code (im_y 203) (im_cc 203) (im_ml 203) (im_rt 203) ∈ im_W := im_inW (List.mem_of_getElem? (i := 1255) rfl) rfl
set_option maxRecDepth 100000 in
theorem im_cd_204 : Cond.code (im_y 204) (im_cc 204) (im_ml 204) (im_rt 204) ∈ im_W := im_inW (List.mem_of_getElem? (i := 1259) rfl) rfl
set_option maxRecDepth 100000 in
theorem im_cd_205 : Cond.code (im_y 205) (im_cc 205) (im_ml 205) (im_rt 205) ∈ im_W := im_inW (List.mem_of_getElem? (i := 1264) rfl) rfl
set_option maxRecDepth 100000 in
theorem im_cd_206 : Cond.code (im_y 206) (im_cc 206) (im_ml 206) (im_rt 206) ∈ im_W := im_inW (List.mem_of_getElem? (i := 1268) rfl) rfl
set_option maxRecDepth 100000 in
theorem im_cd_207 : Cond.code (im_y 207) (im_cc 207) (im_ml 207) (im_rt 207) ∈ im_W := im_inW (List.mem_of_getElem? (i := 1271) rfl) rfl
set_option maxRecDepth 100000 in
theorem im_cd_208 : Cond.code (im_y 208) (im_cc 208) (im_ml 208) (im_rt 208) ∈ im_W := im_inW (List.mem_of_getElem? (i := 1275) rfl) rfl
set_option maxRecDepth 100000 in
theorem im_cd_209 : Cond.code (im_y 209) (im_cc 209) (im_ml 209) (im_rt 209) ∈ im_W := im_inW (List.mem_of_getElem? (i := 1279) rfl) rfl
set_option maxRecDepth 100000 in
theorem im_cd_210 : Cond.code (im_y 210) (im_cc 210) (im_ml 210) (im_rt 210) ∈ im_W := im_inW (List.mem_of_getElem? (i := 1283) rfl) rfl
set_option maxRecDepth 100000 in
theorem im_cd_211 : Cond.code (im_y 211) (im_cc 211) (im_ml 211) (im_rt 211) ∈ im_W := im_inW (List.mem_of_getElem? (i := 1287) rfl) rfl
set_option maxRecDepth 100000 in
theorem im_cd_212 : Cond.code (im_y 212) (im_cc 212) (im_ml 212) (im_rt 212) ∈ im_W := im_inW (List.mem_of_getElem? (i := 1291) rfl) rfl
set_option maxRecDepth 100000 in
theorem im_cd_213 : Cond.code (im_y 213) (im_cc 213) (im_ml 213) (im_rt 213) ∈ im_W := im_inW (List.mem_of_getElem? (i := 1295) rfl) rfl
set_option maxRecDepth 100000 in
theorem im_cd_214 : Cond.code (im_y 214) (im_cc 214) (im_ml 214) (im_rt 214) ∈ im_W := im_inW (List.mem_of_getElem? (i := 1299) rfl) rfl
set_option maxRecDepth 100000 in
theorem im_cd_215 : Cond.code (im_y 215) (im_cc 215) (im_ml 215) (im_rt 215) ∈ im_W := im_inW (List.mem_of_getElem? (i := 1303) rfl) rfl
set_option maxRecDepth 100000 in
theorem im_cd_216 : Cond.code (im_y 216) (im_cc 216) (im_ml 216) (im_rt 216) ∈ im_W := im_inW (List.mem_of_getElem? (i := 1307) rfl) rfl
set_option maxRecDepth 100000 in
theorem im_cd_217 : Cond.code (im_y 217) (im_cc 217) (im_ml 217) (im_rt 217) ∈ im_W := im_inW (List.mem_of_getElem? (i := 1311) rfl) rfl
set_option maxRecDepth 100000 in
theorem im_cd_218 : Cond.code (im_y 218) (im_cc 218) (im_ml 218) (im_rt 218) ∈ im_W := im_inW (List.mem_of_getElem? (i := 1316) rfl) rfl
set_option maxRecDepth 100000 in
theorem im_cd_219 : Cond.code (im_y 219) (im_cc 219) (im_ml 219) (im_rt 219) ∈ im_W := im_inW (List.mem_of_getElem? (i := 1320) rfl) rfl
set_option maxRecDepth 100000 in
theorem im_cd_220 : Cond.code (im_y 220) (im_cc 220) (im_ml 220) (im_rt 220) ∈ im_W := im_inW (List.mem_of_getElem? (i := 1324) rfl) rfl
set_option maxRecDepth 100000 in
theorem im_cd_221 : Cond.code (im_y 221) (im_cc 221) (im_ml 221) (im_rt 221) ∈ im_W := im_inW (List.mem_of_getElem? (i := 1328) rfl) rfl
set_option maxRecDepth 100000 in
theorem im_cd_222 : Cond.code (im_y 222) (im_cc 222) (im_ml 222) (im_rt 222) ∈ im_W := im_inW (List.mem_of_getElem? (i := 1332) rfl) rfl
set_option maxRecDepth 100000 in
theorem im_cd_223 : Cond.code (im_y 223) (im_cc 223) (im_ml 223) (im_rt 223) ∈ im_W := im_inW (List.mem_of_getElem? (i := 1336) rfl) rfl
set_option maxRecDepth 100000 in
theorem im_cd_224 : Cond.code (im_y 224) (im_cc 224) (im_ml 224) (im_rt 224) ∈ im_W := im_inW (List.mem_of_getElem? (i := 1340) rfl) rfl
set_option maxRecDepth 100000 in
theorem im_cd_225 : Cond.code (im_y 225) (im_cc 225) (im_ml 225) (im_rt 225) ∈ im_W := im_inW (List.mem_of_getElem? (i := 1344) rfl) rfl
set_option maxRecDepth 100000 in
theorem im_cd_226 : Cond.code (im_y 226) (im_cc 226) (im_ml 226) (im_rt 226) ∈ im_W := im_inW (List.mem_of_getElem? (i := 1347) rfl) rfl
set_option maxRecDepth 100000 in
theorem im_cd_227 : Cond.code (im_y 227) (im_cc 227) (im_ml 227) (im_rt 227) ∈ im_W := im_inW (List.mem_of_getElem? (i := 1351) rfl) rfl
set_option maxRecDepth 100000 in
theorem im_cd_228 : Cond.code (im_y 228) (im_cc 228) (im_ml 228) (im_rt 228) ∈ im_W := im_inW (List.mem_of_getElem? (i := 1355) rfl) rfl
set_option maxRecDepth 100000 in
theorem im_cd_229 : Cond.code (im_y 229) (im_cc 229) (im_ml 229) (im_rt 229) ∈ im_W := im_inW (List.mem_of_getElem? (i := 1359) rfl) rfl
set_option maxRecDepth 100000 in
theorem im_cd_230 : Cond.code (im_y 230) (im_cc 230) (im_ml 230) (im_rt 230) ∈ im_W := im_inW (List.mem_of_getElem? (i := 1363) rfl) rfl
set_option maxRecDepth 100000 in
theorem im_cd_231 : Cond.code (im_y 231) (im_cc 231) (im_ml 231) (im_rt 231) ∈ im_W := im_inW (List.mem_of_getElem? (i := 1367) rfl) rfl
set_option maxRecDepth 100000 in
theorem im_cd_232 : Cond.code (im_y 232) (im_cc 232) (im_ml 232) (im_rt 232) ∈ im_W := im_inW (List.mem_of_getElem? (i := 1371) rfl) rfl
set_option maxRecDepth 100000 in
theorem im_cd_233 : Cond.code (im_y 233) (im_cc 233) (im_ml 233) (im_rt 233) ∈ im_W := im_inW (List.mem_of_getElem? (i := 1375) rfl) rfl
set_option maxRecDepth 100000 in
theorem im_cd_234 : Cond.code (im_y 234) (im_cc 234) (im_ml 234) (im_rt 234) ∈ im_W := im_inW (List.mem_of_getElem? (i := 1379) rfl) rfl
set_option maxRecDepth 100000 in
theorem im_cd_235 : Cond.code (im_y 235) (im_cc 235) (im_ml 235) (im_rt 235) ∈ im_W := im_inW (List.mem_of_getElem? (i := 1383) rfl) rfl
set_option maxRecDepth 100000 in
theorem im_cd_236 : Cond.code (im_y 236) (im_cc 236) (im_ml 236) (im_rt 236) ∈ im_W := im_inW (List.mem_of_getElem? (i := 1387) rfl) rfl
set_option maxRecDepth 100000 in
theorem im_cd_237 : Cond.code (im_y 237) (im_cc 237) (im_ml 237) (im_rt 237) ∈ im_W := im_inW (List.mem_of_getElem? (i := 1391) rfl) rfl
theorem im_cdW : ∀ j, j < 238 → Cond.code (im_y j) (im_cc j) (im_ml j) (im_rt j) ∈ im_W := by
  intro j hj
  match j, hj with
  | 0, _ => exact im_cd_0
  | 1, _ => exact im_cd_1
  | 2, _ => exact im_cd_2
  | 3, _ => exact im_cd_3
  | 4, _ => exact im_cd_4
  | 5, _ => exact im_cd_5
  | 6, _ => exact im_cd_6
  | 7, _ => exact im_cd_7
  | 8, _ => exact im_cd_8
  | 9, _ => exact im_cd_9
  | 10, _ => exact im_cd_10
  | 11, _ => exact im_cd_11
  | 12, _ => exact im_cd_12
  | 13, _ => exact im_cd_13
  | 14, _ => exact im_cd_14
  | 15, _ => exact im_cd_15
  | 16, _ => exact im_cd_16
  | 17, _ => exact im_cd_17
  | 18, _ => exact im_cd_18
  | 19, _ => exact im_cd_19
  | 20, _ => exact im_cd_20
  | 21, _ => exact im_cd_21
  | 22, _ => exact im_cd_22
  | 23, _ => exact im_cd_23
  | 24, _ => exact im_cd_24
  | 25, _ => exact im_cd_25
  | 26, _ => exact im_cd_26
  | 27, _ => exact im_cd_27
  | 28, _ => exact im_cd_28
  | 29, _ => exact im_cd_29
  | 30, _ => exact im_cd_30
  | 31, _ => exact im_cd_31
  | 32, _ => exact im_cd_32
  | 33, _ => exact im_cd_33
  | 34, _ => exact im_cd_34
  | 35, _ => exact im_cd_35
  | 36, _ => exact im_cd_36
  | 37, _ => exact im_cd_37
  | 38, _ => exact im_cd_38
  | 39, _ => exact im_cd_39
  | 40, _ => exact im_cd_40
  | 41, _ => exact im_cd_41
  | 42, _ => exact im_cd_42
  | 43, _ => exact im_cd_43
  | 44, _ => exact im_cd_44
  | 45, _ => exact im_cd_45
  | 46, _ => exact im_cd_46
  | 47, _ => exact im_cd_47
  | 48, _ => exact im_cd_48
  | 49, _ => exact im_cd_49
  | 50, _ => exact im_cd_50
  | 51, _ => exact im_cd_51
  | 52, _ => exact im_cd_52
  | 53, _ => exact im_cd_53
  | 54, _ => exact im_cd_54
  | 55, _ => exact im_cd_55
  | 56, _ => exact im_cd_56
  | 57, _ => exact im_cd_57
  | 58, _ => exact im_cd_58
  | 59, _ => exact im_cd_59
  | 60, _ => exact im_cd_60
  | 61, _ => exact im_cd_61
  | 62, _ => exact im_cd_62
  | 63, _ => exact im_cd_63
  | 64, _ => exact im_cd_64
  | 65, _ => exact im_cd_65
  | 66, _ => exact im_cd_66
  | 67, _ => exact im_cd_67
  | 68, _ => exact im_cd_68
  | 69, _ => exact im_cd_69
  | 70, _ => exact im_cd_70
  | 71, _ => exact im_cd_71
  | 72, _ => exact im_cd_72
  | 73, _ => exact im_cd_73
  | 74, _ => exact im_cd_74
  | 75, _ => exact im_cd_75
  | 76, _ => exact im_cd_76
  | 77, _ => exact im_cd_77
  | 78, _ => exact im_cd_78
  | 79, _ => exact im_cd_79
  | 80, _ => exact im_cd_80
  | 81, _ => exact im_cd_81
  | 82, _ => exact im_cd_82
  | 83, _ => exact im_cd_83
  | 84, _ => exact im_cd_84
  | 85, _ => exact im_cd_85
  | 86, _ => exact im_cd_86
  | 87, _ => exact im_cd_87
  | 88, _ => exact im_cd_88
  | 89, _ => exact im_cd_89
  | 90, _ => exact im_cd_90
  | 91, _ => exact im_cd_91
  | 92, _ => exact im_cd_92
  | 93, _ => exact im_cd_93
  | 94, _ => exact im_cd_94
  | 95, _ => exact im_cd_95
  | 96, _ => exact im_cd_96
  | 97, _ => exact im_cd_97
  | 98, _ => exact im_cd_98
  | 99, _ => exact im_cd_99
  | 100, _ => exact im_cd_100
  | 101, _ => exact im_cd_101
  | 102, _ => exact im_cd_102
  | 103, _ => exact im_cd_103
  | 104, _ => exact im_cd_104
  | 105, _ => exact im_cd_105
  | 106, _ => exact im_cd_106
  | 107, _ => exact im_cd_107
  | 108, _ => exact im_cd_108
  | 109, _ => exact im_cd_109
  | 110, _ => exact im_cd_110
  | 111, _ => exact im_cd_111
  | 112, _ => exact im_cd_112
  | 113, _ => exact im_cd_113
  | 114, _ => exact im_cd_114
  | 115, _ => exact im_cd_115
  | 116, _ => exact im_cd_116
  | 117, _ => exact im_cd_117
  | 118, _ => exact im_cd_118
  | 119, _ => exact im_cd_119
  | 120, _ => exact im_cd_120
  | 121, _ => exact im_cd_121
  | 122, _ => exact im_cd_122
  | 123, _ => exact im_cd_123
  | 124, _ => exact im_cd_124
  | 125, _ => exact im_cd_125
  | 126, _ => exact im_cd_126
  | 127, _ => exact im_cd_127
  | 128, _ => exact im_cd_128
  | 129, _ => exact im_cd_129
  | 130, _ => exact im_cd_130
  | 131, _ => exact im_cd_131
  | 132, _ => exact im_cd_132
  | 133, _ => exact im_cd_133
  | 134, _ => exact im_cd_134
  | 135, _ => exact im_cd_135
  | 136, _ => exact im_cd_136
  | 137, _ => exact im_cd_137
  | 138, _ => exact im_cd_138
  | 139, _ => exact im_cd_139
  | 140, _ => exact im_cd_140
  | 141, _ => exact im_cd_141
  | 142, _ => exact im_cd_142
  | 143, _ => exact im_cd_143
  | 144, _ => exact im_cd_144
  | 145, _ => exact im_cd_145
  | 146, _ => exact im_cd_146
  | 147, _ => exact im_cd_147
  | 148, _ => exact im_cd_148
  | 149, _ => exact im_cd_149
  | 150, _ => exact im_cd_150
  | 151, _ => exact im_cd_151
  | 152, _ => exact im_cd_152
  | 153, _ => exact im_cd_153
  | 154, _ => exact im_cd_154
  | 155, _ => exact im_cd_155
  | 156, _ => exact im_cd_156
  | 157, _ => exact im_cd_157
  | 158, _ => exact im_cd_158
  | 159, _ => exact im_cd_159
  | 160, _ => exact im_cd_160
  | 161, _ => exact im_cd_161
  | 162, _ => exact im_cd_162
  | 163, _ => exact im_cd_163
  | 164, _ => exact im_cd_164
  | 165, _ => exact im_cd_165
  | 166, _ => exact im_cd_166
  | 167, _ => exact im_cd_167
  | 168, _ => exact im_cd_168
  | 169, _ => exact im_cd_169
  | 170, _ => exact im_cd_170
  | 171, _ => exact im_cd_171
  | 172, _ => exact im_cd_172
  | 173, _ => exact im_cd_173
  | 174, _ => exact im_cd_174
  | 175, _ => exact im_cd_175
  | 176, _ => exact im_cd_176
  | 177, _ => exact im_cd_177
  | 178, _ => exact im_cd_178
  | 179, _ => exact im_cd_179
  | 180, _ => exact im_cd_180
  | 181, _ => exact im_cd_181
  | 182, _ => exact im_cd_182
  | 183, _ => exact im_cd_183
  | 184, _ => exact im_cd_184
  | 185, _ => exact im_cd_185
  | 186, _ => exact im_cd_186
  | 187, _ => exact im_cd_187
  | 188, _ => exact im_cd_188
  | 189, _ => exact im_cd_189
  | 190, _ => exact im_cd_190
  | 191, _ => exact im_cd_191
  | 192, _ => exact im_cd_192
  | 193, _ => exact im_cd_193
  | 194, _ => exact im_cd_194
  | 195, _ => exact im_cd_195
  | 196, _ => exact im_cd_196
  | 197, _ => exact im_cd_197
  | 198, _ => exact im_cd_198
  | 199, _ => exact im_cd_199
  | 200, _ => exact im_cd_200
  | 201, _ => exact im_cd_201
  | 202, _ => exact im_cd_202
  | 203, _ => exact im_cd_203
  | 204, _ => exact im_cd_204
  | 205, _ => exact im_cd_205
  | 206, _ => exact im_cd_206
  | 207, _ => exact im_cd_207
  | 208, _ => exact im_cd_208
  | 209, _ => exact im_cd_209
  | 210, _ => exact im_cd_210
  | 211, _ => exact im_cd_211
  | 212, _ => exact im_cd_212
  | 213, _ => exact im_cd_213
  | 214, _ => exact im_cd_214
  | 215, _ => exact im_cd_215
  | 216, _ => exact im_cd_216
  | 217, _ => exact im_cd_217
  | 218, _ => exact im_cd_218
  | 219, _ => exact im_cd_219
  | 220, _ => exact im_cd_220
  | 221, _ => exact im_cd_221
  | 222, _ => exact im_cd_222
  | 223, _ => exact im_cd_223
  | 224, _ => exact im_cd_224
  | 225, _ => exact im_cd_225
  | 226, _ => exact im_cd_226
  | 227, _ => exact im_cd_227
  | 228, _ => exact im_cd_228
  | 229, _ => exact im_cd_229
  | 230, _ => exact im_cd_230
  | 231, _ => exact im_cd_231
  | 232, _ => exact im_cd_232
  | 233, _ => exact im_cd_233
  | 234, _ => exact im_cd_234
  | 235, _ => exact im_cd_235
  | 236, _ => exact im_cd_236
  | 237, _ => exact im_cd_237
  | j + 238, h => exact absurd h (by omega)
def im_mB (i : Nat) : Bool := decide ((im_y i).cls = im_cn (im_ow i)) && plainFor (im_y i) && decide ((im_y i).cls ≠ "java/lang/invoke/MethodHandle") && decide ((im_y i).cls ≠ "java/lang/invoke/VarHandle")
theorem im_msB : (List.range 239).all im_mB = true := by decide +kernel
def im_one : List Cond := [.instanceMethod Lib.objectInit, .code Lib.objectInit ⟨#[0xb1]⟩ 1 none, .native arraycopyName, .static arraycopyName, .initialized "java/lang/System", .arrayClass .int, .fieldLink "java/lang/String" 9 "java/lang/String" "value" "[B", .fieldLink "java/lang/String" 15 "java/lang/String" "coder" "B", .fieldLink "java/lang/String" 38 "java/lang/String" "COMPACT_STRINGS" "Z"]
theorem im_oneW : ∀ w ∈ im_one, w ∈ im_W := im_chk_in (ps := [85, 86, 736, 735, 77, 107, 1394, 1393, 647]) (by decide +kernel)
theorem im_nwB : ∀ w ∈ im_nws.flatMap (fun e => [Cond.classLink (im_cn e.1) e.2.1 (im_cn e.2.2), .instantiable (im_cn e.2.2) (im_szs.getD e.2.2 0), .initialized (im_cn e.2.2)]), w ∈ im_W := im_chk_in (ps := [79, 80, 60, 87, 88, 61, 93, 94, 62, 108, 109, 63, 127, 128, 64, 143, 144, 65, 158, 160, 66, 269, 270, 67, 275, 128, 64, 296, 297, 68, 320, 322, 69, 957, 958, 70]) (by decide +kernel)
theorem im_nwC : im_nws.all (fun e => decide (e.2.2 < 11)) = true := by decide +kernel
theorem im_kcB : ∀ w ∈ im_kcs.map (fun e => Cond.constant (im_cn e.1) e.2.1 e.2.2), w ∈ im_W := im_chk_in (ps := [376, 394, 673, 712, 716, 758, 777, 905, 1033, 1251, 1260]) (by decide +kernel)
theorem im_klB : ∀ w ∈ im_kls.map (fun e => Cond.constantLong (im_cn e.1) e.2.1 e.2.2), w ∈ im_W := im_chk_in (ps := [1025, 1034, 1083, 1084, 1106, 1107, 1108, 1117, 1118, 1119, 1120, 1125, 1166, 1167, 1180, 1212, 1221, 1229, 1242, 1312, 1392]) (by decide +kernel)
