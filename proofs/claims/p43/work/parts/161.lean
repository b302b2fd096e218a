theorem ggX11_finish_X0_isOpen : GoodIn wsX11_finish wsX0_isOpen := goodIn_r _ [10, 11, 1027, 1028, 1029, 1030, 1031, 1032, 1033, 1034, 1035, 1036, 1037, 1038, 1039, 1040, 1041, 1042, 1043, 1044, 1045, 1046, 1047] (by decide +kernel) (by decide +kernel)
set_option maxRecDepth 20000 in
theorem gX11_finish_X0_isOpen : GoodIn wsX11_finish (wsV RX11 324 RX0 yX0_isOpen wsX0_isOpen) := goodIn_app (goodIn_of _ (by decide +kernel)) ggX11_finish_X0_isOpen
set_option maxRecDepth 20000 in
theorem ggX11_finish_X0_codePicture : GoodIn wsX11_finish wsX0_codePicture := goodIn_r _ [15, 11, 16, 17, 18, 19, 20, 21, 22, 23, 24, 25, 9, 26, 27, 28, 29, 30, 31, 32, 33, 34, 35, 36, 37, 38, 39, 40, 41, 42, 43, 44, 45, 46, 47, 48, 49, 50, 51, 52, 53, 54, 55, 56, 57, 58, 59, 60, 61, 62, 63, 64, 65, 66, 67, 68, 69, 70, 71, 72, 73, 74, 75, 76, 77, 78, 79, 80, 81, 82, 83, 84, 85, 86, 87, 88, 89, 90, 91, 92, 93, 94, 95, 96, 97, 98, 99, 100, 101, 102, 103, 104, 105, 106, 107, 108, 109, 110, 111, 112, 113, 114, 115, 116, 117, 118, 119, 120, 121, 122, 123, 124, 125, 126, 127, 128, 129, 130, 131, 132, 133, 134, 135, 136, 137, 138, 139, 140, 141, 142, 143, 144, 145, 146, 147, 148, 149, 150, 151, 152, 153, 154, 155, 156, 157, 158, 159, 160, 161, 162, 163, 164, 165, 166, 167, 168, 169, 170, 171, 172, 173, 174, 175, 176, 177, 178, 179, 180, 181, 182, 183, 184, 185, 186, 187, 188, 189, 190, 191, 192, 193, 194, 195, 196, 197, 198, 199, 200, 201, 202, 203, 204, 205, 206, 207, 208, 209, 210, 211, 212, 213, 214, 215, 216, 217, 218, 219, 220, 221, 222, 223, 224, 225, 226, 227, 228, 229, 230, 231, 232, 233, 234, 235, 236, 237, 238, 239, 240, 241, 242, 243, 244, 245, 246, 247, 248, 249, 250, 251, 252, 253, 254, 255, 256, 257, 258, 259, 260, 261, 262, 263, 264, 265, 266, 267, 268, 269, 270, 271, 272, 273, 274, 275, 276, 277, 278, 279, 280, 281, 282, 283, 284, 285, 286, 287, 288, 289, 290, 291, 292, 293, 294, 295, 296, 297, 298, 299, 300, 301, 302, 303, 304, 305, 306, 307, 308, 309, 310, 311, 312, 313, 314, 315, 316, 317, 318, 319, 320, 321, 322, 323, 324, 325, 326, 327, 328, 329, 330, 331, 332, 333, 334, 335, 336, 337, 338, 339, 340, 341, 342, 343, 344, 345, 346, 347, 348, 349, 350, 351, 352, 353, 354, 355, 356, 357, 358, 359, 360, 361, 362, 363, 364, 365, 366, 367, 368, 369, 370, 371, 372, 373, 374, 375, 376, 377, 378, 379, 380, 381, 382, 383, 384, 385, 386, 387, 388, 389, 390, 391, 392, 393, 394, 395, 396, 397, 398, 399, 400, 401, 402, 403, 404, 405, 406, 407, 408, 409, 410, 411, 412, 413, 414, 415, 416, 417, 418, 419, 420, 421, 422, 423, 424, 425, 426, 427, 428, 429, 430, 431, 432, 433, 434, 435, 436, 437, 438, 439, 440, 441, 442, 443, 444, 445, 446, 447, 448, 449, 450, 451, 452, 453, 454, 455, 456, 457, 458, 459, 460, 461, 462, 463, 464, 465, 466, 467, 468, 469, 470, 471, 472, 473, 474, 475, 476, 477, 478, 479, 480, 481, 482, 483, 484, 485, 486, 487, 488, 489, 490, 491, 492, 493, 494, 495, 496, 497, 498, 499, 500, 501, 502, 503, 504, 505, 506, 507, 508, 509, 510, 511, 512, 513, 514, 515, 516, 517, 518, 519, 520, 521, 522, 523, 524, 525, 526, 527, 528, 529, 530, 531, 532, 533, 534, 535, 536, 537, 538, 539, 540, 541, 542, 543, 544, 545, 546, 547, 548, 549, 550, 551, 552, 553, 554, 555, 556, 557, 558, 559, 560, 561, 562, 563, 564, 565, 566, 567, 568, 569, 570, 571, 572, 573, 574, 575, 576, 577, 578, 579, 580, 581, 582, 583, 584, 585, 586, 587, 588, 589, 590, 591, 592, 593, 594, 595, 596, 597, 598, 599, 600, 601, 602, 603, 604, 605, 606, 607, 608, 609, 610, 611, 612, 613, 614, 615, 616, 617, 618, 619, 620, 621, 622, 623, 624, 625, 626, 627, 628, 629, 630, 631, 632, 633, 634, 635, 636, 637, 638, 639, 640, 641, 642, 643, 644, 645, 646, 647, 648, 649, 650, 651, 652, 653, 654, 655, 656, 657, 658, 659, 660, 661, 662, 663, 664, 665, 666, 667, 668, 669, 670, 671, 672, 673, 674, 675, 676, 677, 678, 679, 680, 681, 682, 683, 684, 685, 686, 687, 688, 689, 690, 691, 692, 693, 694, 695, 696, 697, 698, 699, 700, 701, 702, 703, 704, 705, 706, 707, 708, 709, 710, 711, 712, 713, 714, 715, 716, 717, 718, 719, 720, 721, 722, 723, 724, 725, 726, 727, 728, 729, 730, 731, 732, 733, 734, 735, 736, 737, 738, 739, 740, 741, 742, 743, 744, 745, 746, 747, 748, 749, 750, 751, 752, 753, 754, 755, 756, 757, 758, 759, 760, 761, 762, 763, 764, 765, 766, 767, 768, 769, 770, 771, 772, 773, 774, 775, 776, 777, 778, 779, 780, 781, 782, 783, 784, 785, 786, 787, 788, 789, 790, 791, 792, 793, 794, 795, 796, 797, 798, 799, 800, 801, 802, 803, 804, 805, 806, 807, 808, 809, 810, 811, 812, 813, 814, 815, 816, 817, 818, 819, 820, 821, 822, 823, 824, 825, 826, 827, 828, 829, 830, 831, 832, 833, 834, 835, 836, 837, 838, 839, 840, 841, 842, 843, 844, 845, 846, 847, 848, 849, 850, 851, 852, 853, 854, 855, 856, 857, 858, 859, 860, 861, 862, 863, 864, 865, 866, 867, 868, 869, 870, 871, 872, 873, 874, 875, 876, 877, 878, 879, 880, 881, 882, 883, 884, 885, 886, 887, 888, 889, 890, 891, 892, 893, 894, 895, 896, 897, 898, 899, 900, 901, 902, 903, 904, 905, 906, 907, 908, 909, 910, 911, 912, 913, 914, 915, 916, 917, 918, 919, 920, 921, 922, 923, 924, 925, 926, 927, 928, 929, 930, 931, 932, 933, 934, 935, 936, 937, 938, 939, 940, 941, 942, 943, 944, 945, 946, 947, 948, 949, 950, 951, 952, 953, 954, 955, 956, 957, 958, 959, 960, 961, 962, 963, 964, 965, 966, 967, 968, 969, 970, 971, 972, 973, 974, 975, 976, 977, 978, 979, 980, 981, 982, 983, 984, 985, 986, 987, 988, 989, 990, 991, 992, 993, 994, 995, 996, 997, 998, 999, 1000, 1001, 1002, 1003, 1004, 1005, 1006, 1007, 1008, 1009, 1010, 1011, 1012, 1013, 1014, 1015, 1016, 1017, 1018, 1019, 1020, 1021, 1027, 1028, 1029, 1030, 1031, 1032, 1033, 1034, 1035, 1036, 1037, 1038, 1039, 1040, 1041, 1042, 1043, 1044, 1045, 1046, 1047, 1048, 1049, 1050, 1051, 1052, 1053, 1054, 1055, 1056, 1057, 1058, 1059, 1060, 1061, 1062, 1063, 1064, 1065, 1066, 1067, 1068, 1069, 1070, 1071, 1072, 1073, 1074, 1075, 1076, 1077, 1078, 1079, 1080, 1081, 1082, 1083, 1084, 1085, 1086, 1087, 1088, 1089, 1090, 1091, 1092, 1093, 1094, 1095, 1096, 1097, 1098, 1099, 1100, 1101, 1102, 1103, 1104, 1105, 1106, 1107, 1108, 1109, 1110, 1111, 1112, 1113, 1114, 1115, 1116, 1117, 1118, 1119, 1120, 1121, 1122, 1123, 1124, 1125, 1126, 1127, 1128, 1129, 1130, 1131, 1132, 1133, 1134, 1135, 1136, 1137, 1138, 1139, 1140, 1141, 1142, 1143, 1144, 1145, 1146, 1147, 1148, 1149, 1150, 1151] (by decide +kernel) (by decide +kernel)
set_option maxRecDepth 20000 in
theorem gX11_finish_X0_codePicture : GoodIn wsX11_finish (wsV RX11 364 RX0 yX0_codePicture wsX0_codePicture) := goodIn_app (goodIn_of _ (by decide +kernel)) ggX11_finish_X0_codePicture
theorem dX11_finish_0 : decode cX11_finish 0 = .ok (.aload_n 0, 1) := by decide +kernel
theorem dX11_finish_1 : decode cX11_finish 1 = .ok (.getfield 31, 3) := by decide +kernel
theorem dX11_finish_4 : decode cX11_finish 4 = .ok (.invokevirtual 324, 3) := by decide +kernel
theorem dX11_finish_7 : decode cX11_finish 7 = .ok (.ifCond .ne 14, 3) := by decide +kernel
theorem dX11_finish_10 : decode cX11_finish 10 = .ok (.new 40, 3) := by decide +kernel
theorem dX11_finish_13 : decode cX11_finish 13 = .ok (.dup, 1) := by decide +kernel
theorem dX11_finish_14 : decode cX11_finish 14 = .ok (.ldc_w 328, 3) := by decide +kernel
theorem dX11_finish_17 : decode cX11_finish 17 = .ok (.invokespecial 44, 3) := by decide +kernel
theorem dX11_finish_20 : decode cX11_finish 20 = .ok (.athrow, 1) := by decide +kernel
theorem dX11_finish_21 : decode cX11_finish 21 = .ok (.iconst 0, 1) := by decide +kernel
theorem dX11_finish_22 : decode cX11_finish 22 = .ok (.istore_n 1, 1) := by decide +kernel
theorem dX11_finish_23 : decode cX11_finish 23 = .ok (.iload_n 1, 1) := by decide +kernel
theorem dX11_finish_24 : decode cX11_finish 24 = .ok (.aload_n 0, 1) := by decide +kernel
theorem dX11_finish_25 : decode cX11_finish 25 = .ok (.getfield 31, 3) := by decide +kernel
theorem dX11_finish_28 : decode cX11_finish 28 = .ok (.getfield 361, 3) := by decide +kernel
theorem dX11_finish_31 : decode cX11_finish 31 = .ok (.if_icmp .ge 18, 3) := by decide +kernel
theorem dX11_finish_34 : decode cX11_finish 34 = .ok (.aload_n 0, 1) := by decide +kernel
theorem dX11_finish_35 : decode cX11_finish 35 = .ok (.getfield 31, 3) := by decide +kernel
theorem dX11_finish_38 : decode cX11_finish 38 = .ok (.iload_n 1, 1) := by decide +kernel
theorem dX11_finish_39 : decode cX11_finish 39 = .ok (.iconst 0, 1) := by decide +kernel
theorem dX11_finish_40 : decode cX11_finish 40 = .ok (.invokevirtual 364, 3) := by decide +kernel
theorem dX11_finish_43 : decode cX11_finish 43 = .ok (.iinc 1 1, 3) := by decide +kernel
theorem dX11_finish_46 : decode cX11_finish 46 = .ok (.goto (-23), 3) := by decide +kernel
theorem dX11_finish_49 : decode cX11_finish 49 = .ok (.aload_n 0, 1) := by decide +kernel
theorem dX11_finish_50 : decode cX11_finish 50 = .ok (.getfield 31, 3) := by decide +kernel
theorem dX11_finish_53 : decode cX11_finish 53 = .ok (.iconst 0, 1) := by decide +kernel
theorem dX11_finish_54 : decode cX11_finish 54 = .ok (.putfield 361, 3) := by decide +kernel
theorem dX11_finish_57 : decode cX11_finish 57 = .ok (.aload_n 0, 1) := by decide +kernel
theorem dX11_finish_58 : decode cX11_finish 58 = .ok (.getfield 31, 3) := by decide +kernel
theorem dX11_finish_61 : decode cX11_finish 61 = .ok (.getfield 370, 3) := by decide +kernel
theorem dX11_finish_64 : decode cX11_finish 64 = .ok (.ireturn, 1) := by decide +kernel
noncomputable def FX11_finish (G : GG) (M : DD) (a : Nat)  : Option (NN × DD × Int32) :=
  dr (xt G []) 0 ((M.2 a 4)) fun b2 =>
  bnd (FX0_isOpen (xt G []) M b2) fun y3 =>
  bnd (if y3.2 = ((0 : Int32)) then (none) else
  (some ())) fun (y4 : Unit) =>
  bnd (itrA (fun (s6 : NN × Int32 × DD) => ((dr (xt G s6.1) 0 ((s6.2.2.2 a 4)) fun b19 =>
  ltt (s6.2.2.1 b19 10) fun x20 =>
  if x20 ≤ s6.2.1 then (some ([], .inr ((s6.2.1, s6.2.2)))) else
  (bnd (FX0_codePicture (xt G s6.1) s6.2.2 b19 s6.2.1 ((0 : Int32))) fun y22 =>
  app y22.1 <|
  ltt (s6.1 ++ y22.1) fun L24 =>
  ltt (s6.2.1 + (1 : Int32)) fun x27 =>
  some ([], .inl (L24, (x27, y22.2))))) : Option (NN × ((NN × Int32 × DD) ⊕ (Int32 × DD))))) 1000000 ([], ((0 : Int32), y3.1))) fun (y5 : NN × Int32 × DD) =>
  app y5.1 <|
  ltt ([] ++ y5.1) fun L8 =>
  dr (xt G L8) 0 ((y5.2.2.2 a 4)) fun b10 =>
  ltt (uI y5.2.2 b10 10 ((0 : Int32))) fun M11 =>
  dr (xt G L8) 0 ((M11.2 a 4)) fun b12 =>
  ltt (M11.1 b12 16) fun x13 =>
  some ([], (M11, x13))
set_option maxHeartbeats 4000000 in
set_option maxRecDepth 100000 in
theorem kX11_finish (l : Launch) (D : va_G) (ct : CT) (ad : Nat → Nat) (Z : Nat → Nat) (G : GG) (M : DD) (sz : Nat) (a : Nat)  (y : NN × DD × Int32) (hc : a < G.1) (hk : G.2.1 a = 11) (hF : FX11_finish G M a  = some y) : Met l yX11_finish wsX11_finish ({ frames := 9, cells := y.1.length, slots := wt y.1, locals := 272 }) (va_Pc [.ref (ad a)] (kB D ct ad Z G M sz)) (va_Qi (fun (q : Int32) (u : Nat → Nat) => q = y.2.2 ∧ agr G.1 ad u) (fun u t => kE D ct u (xt G y.1) (wA ad G sz) y.2.1 t) (wA ad G sz)) y.1.length (wt y.1) (wA ad G sz) := by
  refine Met.ofW (cc := cX11_finish) (maxL := 2) (ret := (some .int)) (by decide) rfl ?_
  intro p e s m args below meth c s₁ B hml hv
  obtain ⟨rfl, hsz, hP, hK, hD0, hZ, hN⟩ := hv
  have hx := B.exec
  have hb := B.bytes
  have hr := B.returns
  have hts := atoms_spec (ws := wsX11_finish) B.pre
  have hown : s.vm.findClass RX11 = some m.cls := findClass_of_methodNamed B.named
  have hlocks := B.notSynchronized
  subst hsz
  have hD := wD_self (sz := s.heap.size) hD0
  have hA9 : ∀ q, s.heap.size ≤ q → wA ad G s.heap.size q := fun q h => Or.inr h
  generalize hAe : wA ad G s.heap.size = A at hD hA9 hZ ⊢
  have hS : va_S A s.heap s.heap [] := va_S.rf
  have hl := lv_entry ([.ref (ad a)]) (n := 2) (Nat.le_of_ble_eq_true rfl)
  rw [lg_entry_eq]
  generalize (lg_sl ([.ref (ad a)]) ++ List.replicate (2 - (lg_sl ([.ref (ad a)])).length) Slot.unset).toArray = ls at hl ⊢
  have hl : lv_has ls 2 [(0, .ref (ad a))] := hl
  unfold FX11_finish at hF
  rw [← wld_0 ct ad G M] at hP hD
  have hk := xt_k0 hc hk
  have hc := xt_l0 hc
  have hag := agr_rf G.1 ad
  obtain ⟨w0, hw0⟩ : ∃ z, z = y := ⟨_, rfl⟩
  rw [← hw0] at hF
  have hT : y.1 = [] ++ w0.1 := by rw [hw0]; rfl
  have h2 : y.2 = w0.2 := by rw [hw0]
  have hbl : y.1.length ≤ y.1.length ∧ wt y.1 ≤ wt y.1 := ⟨Nat.le_refl _, Nat.le_refl _⟩
  refine lv_aload_n hx hb dX11_finish_0 rfl (lv_at hl 0 rfl) ?_
  refine va_get (D := D) (ci := 11) (v := va_re ad (M.2 a 4)) (C := RX11) (T := TX11) (N := 5) hx hb hts (by decide +kernel) hown hK hP a (wld_o ct ad (xt G []) M hc hk (by decide)) rfl 4 (by decide) (hts (.fieldLink RX11 31 "VideoSuite" "coder" "LVideoSuite$Coder;") (by decide +kernel)) (fun _ h9 => h9) rfl dX11_finish_1 ?_
  obtain ⟨b2, ho2, hc2, hk2, hF⟩ := dr_some hF
  refine W_st (st' := [.ref (ad b2)]) (by rw [va_some ho2]) ?_
  obtain ⟨y3, hy3, hF⟩ := bnd_some hF
  have hf9 := wA_in hD hA9 hS
  refine va_calli (va_runV (As := []) (rest := []) ⟨hx, hb, hml, hown, hts⟩ (kX0_isOpen l D ct ad Z (xt G []) M s.heap.size b2 y3 hc2 hk2 hy3) (cwV 0 hts gX11_finish_X0_isOpen rfl rfl rfl (by decide +kernel) ⟨Nat.le_of_ble_eq_true rfl, Nat.le_of_ble_eq_true rfl⟩) ⟨fun a U g mk q => by obtain ⟨q0, q1, qP, qK, qD, qZ, qN⟩ := q; exact ⟨q0, q1, qP, va_K.moved (u := U) (U := U.calling g mk a) (Vm.Alike.refl U.vm) qK, qD, sF.moved (u := U) (U := U.calling g mk a) (Vm.Alike.refl U.vm) qZ, nF.same rfl qN⟩, va_recv hK hP (ci := 0) (q0 := b2) rfl (wld_o ct ad (xt G []) M hc2 hk2 (by decide)), fun U hU hW => ⟨rfl, by rw [hU], by rw [hU]; exact hP, va_K.moved hW.alike hK, hD.weaken (fun _ _ _ _ => trivial), by rw [hU]; exact ((hZ.kept hS.2.1).narrow hf9).moved hW.alike, hN.warm hW⟩⟩ rfl rfl hl.1 rfl (lv_room (Nat.le_of_ble_eq_true rfl)) dX11_finish_4 (room_d hT hbl)) hS (fun q _ h => hf9 q h) hf9 (fun r u t H locs ht hvm hw hB hz1 hk1 hS => ?_)
  obtain ⟨hP, hK9, hD9⟩ := hB
  rw [ht] at hP
  try dsimp only at hw
  subst hw
  refine W_cs (k := ([] : NN).length) (n := wt []) rfl rfl ?_
  have hD := hD9.weaken (fun _ q _ h => hf9 q.1 h)
  obtain ⟨y4, hy4, hF⟩ := bnd_some hF
  have J4 : ∀ (H : Heap) (locs : List Loc) (ls : Array Slot), va_P D classes (wld ct ad (xt G []) y3.1) H → va_D A (wld ct ad (xt G []) y3.1) → va_S A s.heap H locs → lv_has ls 2 [(0, .ref (ad a))] → W p l e (headSpec wsX11_finish ({ frames := 9, cells := y.1.length, slots := wt y.1, locals := 272 })).room s m ([.ref (ad a)] : List Value).toArray below meth c H locs ([] : NN).length (wt []) (MQ below (va_Qi (fun (q : Int32) (u : Nat → Nat) => q = y.2.2 ∧ agr G.1 ad u) (fun u t => kE D ct u (xt G y.1) A y.2.1 t) A) ([.ref (ad a)] : List Value).toArray s y.1.length (wt y.1) A) (F0 m 21 ls []) := by
    intro H locs ls hP hD hS hl
    refine lv_iconst (v := (0 : Int32)) hx hb dX11_finish_21 (by decide) ?_
    refine lv_istore_n (lv' := [(1, .int (0 : Int32)), (0, .ref (ad a))]) hx hb dX11_finish_22 rfl hl (by decide) rfl (fun ls hl => ?_)
    obtain ⟨y5, hy5, hF⟩ := bnd_some hF
    obtain ⟨w7, hF, ew7⟩ := app_some hF
    obtain ⟨L8, eL8, hF⟩ := ltt_some hF
    have hT8 : y.1 = ([] ++ y5.1) ++ w7.1 := by rw [hT, ew7]; simp only [List.append_assoc]
    have hbl8 : L8.length ≤ y.1.length ∧ wt L8 ≤ wt y.1 := by rw [eL8]; exact room_d hT8 hbl
    have K5 : ∀ (ad9 : Nat → Nat), agr G.1 ad ad9 → ∀ (H : Heap) (locs : List Loc) (ls : Array Slot), va_P D classes (wld ct ad9 (xt G L8) y5.2.2) H → va_D A (wld ct ad9 (xt G L8) y5.2.2) → va_S A s.heap H locs → lv_has ls 2 [(0, .ref (ad9 a))] → W p l e (headSpec wsX11_finish ({ frames := 9, cells := y.1.length, slots := wt y.1, locals := 272 })).room s m ([.ref (ad a)] : List Value).toArray below meth c H locs (L8 : NN).length (wt L8) (MQ below (va_Qi (fun (q : Int32) (u : Nat → Nat) => q = y.2.2 ∧ agr G.1 ad u) (fun u t => kE D ct u (xt G y.1) A y.2.1 t) A) ([.ref (ad a)] : List Value).toArray s y.1.length (wt y.1) A) (F0 m 49 ls []) := by
      intro ad9 hag H locs ls hP hD hS hl
      have hT : y.1 = L8 ++ w7.1 := by rw [hT8, eL8]
      have h2 : y.2 = w7.2 := by rw [h2, ew7]
      have hk : (xt G L8).2.1 a = 11 := by rw [eL8]; exact xt_k _ hc hk
      have hc : a < (xt G L8).1 := by rw [eL8]; exact xt_l _ hc
      have hk2 : (xt G L8).2.1 b2 = 0 := by rw [eL8]; exact xt_k _ hc2 hk2
      have hc2 : b2 < (xt G L8).1 := by rw [eL8]; exact xt_l _ hc2
      refine lv_aload_n hx hb dX11_finish_49 rfl (lv_at hl 0 rfl) ?_
      refine va_get (D := D) (ci := 11) (v := va_re ad9 (y5.2.2.2 a 4)) (C := RX11) (T := TX11) (N := 5) hx hb hts (by decide +kernel) hown hK hP a (wld_o ct ad9 (xt G L8) y5.2.2 hc hk (by decide)) rfl 4 (by decide) (hts (.fieldLink RX11 31 "VideoSuite" "coder" "LVideoSuite$Coder;") (by decide +kernel)) (fun _ h9 => h9) rfl dX11_finish_50 ?_
      refine lv_iconst (v := (0 : Int32)) hx hb dX11_finish_53 (by decide) ?_
      obtain ⟨b10, ho10, hc10, hk10, hF⟩ := dr_some hF
      refine W_st (st' := [.int (0 : Int32), .ref (ad9 b10)]) (by rw [va_some ho10]) ?_
      refine va_put (D := D) (ci := 0) (v := .int (0 : Int32)) (ty := .int) (C := RX0) (T := TX0) (N := 21) hx hb hts (by decide +kernel) tyX0 tyX0_ok nmX0 hown hK hP hD hS b10 (wld_o ct ad9 (xt G L8) y5.2.2 hc10 hk10 (by decide)) rfl 10 (by decide) (hts (.fieldLink RX11 361 "VideoSuite$Coder" "waiting" "I") (by decide +kernel)) (fun _ h9 => h9) rfl (by decide +kernel) rfl rfl (Nat.le_of_ble_eq_true rfl) dX11_finish_54 (fun H locs hP hD hS => ?_)
      obtain ⟨M11, eM11, hF⟩ := ltt_some hF
      rw [set_oI ct ad9 (xt G L8) y5.2.2 hc10 hk10 (by decide) (by rfl), ← eM11] at hP hD
      refine lv_aload_n hx hb dX11_finish_57 rfl (lv_at hl 0 rfl) ?_
      refine va_get (D := D) (ci := 11) (v := va_re ad9 (M11.2 a 4)) (C := RX11) (T := TX11) (N := 5) hx hb hts (by decide +kernel) hown hK hP a (wld_o ct ad9 (xt G L8) M11 hc hk (by decide)) rfl 4 (by decide) (hts (.fieldLink RX11 31 "VideoSuite" "coder" "LVideoSuite$Coder;") (by decide +kernel)) (fun _ h9 => h9) rfl dX11_finish_58 ?_
      obtain ⟨b12, ho12, hc12, hk12, hF⟩ := dr_some hF
      refine W_st (st' := [.ref (ad9 b12)]) (by rw [va_some ho12]) ?_
      refine va_get (D := D) (ci := 0) (v := .int (M11.1 b12 16)) (C := RX0) (T := TX0) (N := 21) hx hb hts (by decide +kernel) hown hK hP b12 (wld_o ct ad9 (xt G L8) M11 hc12 hk12 (by decide)) rfl 16 (by decide) (hts (.fieldLink RX11 370 "VideoSuite$Coder" "codedCount" "I") (by decide +kernel)) (fun _ h9 => h9) rfl dX11_finish_61 ?_
      obtain ⟨x13, ex13, hF⟩ := ltt_some hF
      refine lv_topi (fun zx13 ezx13 => ?_)
      obtain rfl : x13 = zx13 := ex13.trans ezx13.symm
      obtain rfl := Option.some.inj hF
      have e1 : y.1 = L8 := by rw [hT]; exact List.append_nil _
      have e2 : y.2 = (M11, x13) := h2
      refine W.widen (k := y.1.length) (n := wt y.1) (Nat.le_of_eq (by rw [e1])) (Nat.le_of_eq (by rw [e1])) ?_
      exact W.iret (v := x13) hx hb hr (fun t ht hW => ⟨⟨_, ad9, rfl, ⟨by rw [e2], hag⟩, (by unfold kE; rw [e1, e2]; exact ⟨by rw [ht]; exact hP, va_K.moved hW.alike hK, hD⟩)⟩, hS.F ht⟩) hS.2.2 dX11_finish_64
    clear hF
    refine itrA_rule (fun (s6 : NN × Int32 × DD) (r15 : NN) => (∃ t, s6.1 = [] ++ t) → L8 = s6.1 ++ r15 → ∀ (ad14 : Nat → Nat), agr G.1 ad ad14 → ∀ (H : Heap) (locs : List Loc) (ls : Array Slot), va_P D classes (wld ct ad14 (xt G s6.1) s6.2.2) H → va_D A (wld ct ad14 (xt G s6.1) s6.2.2) → va_S A s.heap H locs → lv_has ls 2 [(1, .int s6.2.1), (0, .ref (ad14 a))] → W p l e (headSpec wsX11_finish ({ frames := 9, cells := y.1.length, slots := wt y.1, locals := 272 })).room s m ([.ref (ad a)] : List Value).toArray below meth c H locs (s6.1 : NN).length (wt s6.1) (MQ below (va_Qi (fun (q : Int32) (u : Nat → Nat) => q = y.2.2 ∧ agr G.1 ad u) (fun u t => kE D ct u (xt G y.1) A y.2.1 t) A) ([.ref (ad a)] : List Value).toArray s y.1.length (wt y.1) A) (F0 m 23 ls [])) ?_ _ _ _ hy5 ⟨[], (List.append_nil _).symm⟩ eL8 _ hag _ _ _ hP hD hS (lv_sub hl [0, 1] rfl)
    rintro s6 r15 ⟨z16, hF, ⟨t5, et5⟩, hwz16⟩ ⟨u5, eu5⟩ eq5 ad14 hag H locs ls hP hD hS hl
    try dsimp only at hF
    obtain ⟨L17, eL17⟩ : ∃ x, x = s6.1 ++ z16.1 := ⟨_, rfl⟩
    obtain ⟨w18, hw18⟩ : ∃ x, x = z16 := ⟨_, rfl⟩
    rw [← hw18] at hF
    have hbl : L17.length ≤ y.1.length ∧ wt L17 ≤ wt y.1 := room_d (show L8 = L17 ++ t5 by rw [eq5, et5, eL17]; simp only [List.append_assoc]) hbl8
    have hT : L17 = s6.1 ++ w18.1 := by rw [eL17, hw18]
    have h2 : z16.2 = w18.2 := by rw [hw18]
    have hk : (xt G s6.1).2.1 a = 11 := by rw [eu5]; exact xt_k _ hc hk
    have hc : a < (xt G s6.1).1 := by rw [eu5]; exact xt_l _ hc
    have hk2 : (xt G s6.1).2.1 b2 = 0 := by rw [eu5]; exact xt_k _ hc2 hk2
    have hc2 : b2 < (xt G s6.1).1 := by rw [eu5]; exact xt_l _ hc2
    refine lv_iload_n hx hb dX11_finish_23 rfl (lv_at hl 0 rfl) ?_
    refine lv_aload_n hx hb dX11_finish_24 rfl (lv_at hl 1 rfl) ?_
    refine va_get (D := D) (ci := 11) (v := va_re ad14 (s6.2.2.2 a 4)) (C := RX11) (T := TX11) (N := 5) hx hb hts (by decide +kernel) hown hK hP a (wld_o ct ad14 (xt G s6.1) s6.2.2 hc hk (by decide)) rfl 4 (by decide) (hts (.fieldLink RX11 31 "VideoSuite" "coder" "LVideoSuite$Coder;") (by decide +kernel)) (fun _ h9 => h9) rfl dX11_finish_25 ?_
    obtain ⟨b19, ho19, hc19, hk19, hF⟩ := dr_some hF
    refine W_st (st' := [.ref (ad14 b19), .int s6.2.1]) (by rw [va_some ho19]) ?_
    refine va_get (D := D) (ci := 0) (v := .int (s6.2.2.1 b19 10)) (C := RX0) (T := TX0) (N := 21) hx hb hts (by decide +kernel) hown hK hP b19 (wld_o ct ad14 (xt G s6.1) s6.2.2 hc19 hk19 (by decide)) rfl 10 (by decide) (hts (.fieldLink RX11 361 "VideoSuite$Coder" "waiting" "I") (by decide +kernel)) (fun _ h9 => h9) rfl dX11_finish_28 ?_
    obtain ⟨x20, ex20, hF⟩ := ltt_some hF
    refine lv_topi (fun zx20 ezx20 => ?_)
    obtain rfl : x20 = zx20 := ex20.trans ezx20.symm
    refine lv_icmp_ge (tgt := 49) hx hb dX11_finish_31 (by decide) (fun c21 => ?_) (fun c21 => ?_)
    · rw [if_pos c21] at hF
      obtain rfl := Option.some.inj hF
      have e1 : L17 = s6.1 := by rw [hT]; exact List.append_nil _
      have e2 : z16.2 = .inr ((s6.2.1, s6.2.2)) := h2
      rw [e2] at hwz16
      obtain ⟨hw1, hw2⟩ := hwz16
      have e8 : L8 = s6.1 := by rw [eq5, hw2, ← eL17, e1]
      rw [e8] at K5
      try rw [← hw1] at K5
      exact K5 _ hag _ _ _ hP hD hS (lv_sub hl [1] rfl)
    · rw [if_neg c21] at hF
      refine lv_aload_n hx hb dX11_finish_34 rfl (lv_at hl 1 rfl) ?_
      refine va_get (D := D) (ci := 11) (v := va_re ad14 (s6.2.2.2 a 4)) (C := RX11) (T := TX11) (N := 5) hx hb hts (by decide +kernel) hown hK hP a (wld_o ct ad14 (xt G s6.1) s6.2.2 hc hk (by decide)) rfl 4 (by decide) (hts (.fieldLink RX11 31 "VideoSuite" "coder" "LVideoSuite$Coder;") (by decide +kernel)) (fun _ h9 => h9) rfl dX11_finish_35 ?_
      refine lv_iload_n hx hb dX11_finish_38 rfl (lv_at hl 0 rfl) ?_
      refine lv_iconst (v := (0 : Int32)) hx hb dX11_finish_39 (by decide) ?_
      refine W_st (st' := [.int (0 : Int32), .int s6.2.1, .ref (ad14 b19)]) (by rw [va_some ho19]) ?_
      obtain ⟨y22, hy22, hF⟩ := bnd_some hF
      obtain ⟨w23, hF, ew23⟩ := app_some hF
      obtain ⟨L24, eL24, hF⟩ := ltt_some hF
      have hT24 : L17 = (s6.1 ++ y22.1) ++ w23.1 := by rw [hT, ew23]; simp only [List.append_assoc]
      have hf9 := wA_in hD hA9 hS
      refine va_callv (va_runV (As := [.int s6.2.1, .int (0 : Int32)]) (rest := []) ⟨hx, hb, hml, hown, hts⟩ (kX0_codePicture l D ct ad14 Z (xt G s6.1) s6.2.2 _ b19 s6.2.1 ((0 : Int32)) y22 hc19 hk19 hy22) (cwV 2 hts gX11_finish_X0_codePicture rfl rfl rfl (by decide +kernel) ⟨Nat.le_of_ble_eq_true rfl, Nat.le_of_ble_eq_true rfl⟩) ⟨fun a U g mk q => by obtain ⟨q0, q1, qP, qK, qD, qZ, qN⟩ := q; exact ⟨q0, q1, qP, va_K.moved (u := U) (U := U.calling g mk a) (Vm.Alike.refl U.vm) qK, qD, sF.moved (u := U) (U := U.calling g mk a) (Vm.Alike.refl U.vm) qZ, nF.same rfl qN⟩, va_recv hK hP (ci := 0) (q0 := b19) rfl (wld_o ct ad14 (xt G s6.1) s6.2.2 hc19 hk19 (by decide)), fun U hU hW => ⟨rfl, by rw [hU], by rw [hU]; exact hP, va_K.moved hW.alike hK, hD.weaken (fun _ _ _ _ => trivial), by rw [hU]; exact ((hZ.kept hS.2.1).narrow hf9).moved hW.alike, hN.warm hW⟩⟩ rfl rfl hl.1 rfl (lv_room (Nat.le_of_ble_eq_true rfl)) dX11_finish_40 (room_s hT24 hbl)) hS (fun q _ h => hf9 q h) hf9 (fun ad25 t H locs ht hvm hw hB hz1 hk1 hS => ?_)
      have hn26 := hw
      obtain ⟨hP, hK9, hD9⟩ := hB
      rw [ht] at hP
      have hD := hD9.weaken (fun _ q _ h => hf9 q.1 h)
      rw [xt_xt, ← eL24] at hP hD
      refine W_cs (k := L24.length) (n := wt L24) (by rw [eL24]; exact (len_s s6.1 y22.1).symm) (by rw [eL24]; exact (wt_app s6.1 y22.1).symm) ?_
      have hT : L17 = L24 ++ w23.1 := by rw [hT24, eL24]
      have h2 : z16.2 = w23.2 := by rw [h2, ew23]
      have hl := lv_sub (l' := [(1, .int s6.2.1), (0, .ref (ad14 a))]) hl [0, 1] rfl
      have e9 : ([(1, .int s6.2.1), (0, .ref (ad14 a))] : List (Nat × Value)) = [(1, .int s6.2.1), (0, .ref (ad25 a))] := (by first | rfl | simp only [hn26 a hc])
      rw [e9] at hl
      clear e9
      have hk : (xt G L24).2.1 a = 11 := by rw [eL24]; exact xt_k _ hc hk
      have hc : a < (xt G L24).1 := by rw [eL24]; exact xt_l _ hc
      have hk2 : (xt G L24).2.1 b2 = 0 := by rw [eL24]; exact xt_k _ hc2 hk2
      have hc2 : b2 < (xt G L24).1 := by rw [eL24]; exact xt_l _ hc2
      have hk19 : (xt G L24).2.1 b19 = 0 := by rw [eL24]; exact xt_k _ hc19 hk19
      have hc19 : b19 < (xt G L24).1 := by rw [eL24]; exact xt_l _ hc19
      have hag := agr_t (xt_ge _ _) hag hn26
      obtain ⟨x27, ex27, hF⟩ := ltt_some hF
      refine lv_iinc (v := x27) (lv' := [(1, .int x27), (0, .ref (ad25 a))]) hx hb dX11_finish_43 hl (k := 0) rfl (by rw [ex27]; rfl) (by decide) rfl (fun ls hl => ?_)
      refine lv_goto (tgt := 23) hx hb dX11_finish_46 (by decide) ?_
      obtain rfl := Option.some.inj hF
      have e1 : L17 = L24 := by rw [hT]; exact List.append_nil _
      have e2 : z16.2 = .inl (L24, (x27, y22.2)) := h2
      rw [e2] at hwz16
      obtain ⟨r2, er2, hwz16⟩ := hwz16
      exact hwz16 ⟨u5 ++ z16.1, by show L24 = _; rw [← e1, eL17, eu5]; simp only [List.append_assoc]⟩ (by show L8 = L24 ++ r2; rw [eq5, er2, ← e1, eL17]; simp only [List.append_assoc]) _ hag _ _ _ hP hD hS (lv_sub hl [0, 1] rfl)
  clear hF
  have hF := hy4
  clear hy4
  refine lv_if_ne (tgt := 21) hx hb dX11_finish_7 (by decide) (fun c28 => ?_) (fun c28 => ?_)
  · rw [if_neg c28] at hF
    obtain rfl := Option.some.inj hF
    exact J4 _ _ _ hP hD hS (lv_sub hl [0] rfl)
  · rw [if_pos c28] at hF
    cases hF
theorem ggX11_flush_X1_endPicture : GoodIn wsX11_flush wsX1_endPicture := goodIn_r _ [8, 9, 10, 11, 12, 13, 14, 15, 16, 17, 18, 19, 20, 21, 22, 23, 24, 25, 26, 27, 28, 29, 30, 31, 32, 33, 34, 35, 36, 37, 38, 39, 40, 41, 42, 43, 44, 45, 46, 47, 48, 49, 50, 51, 52, 53, 54, 55, 56, 57, 58, 59, 60, 61, 62, 63, 64, 65, 66, 67, 68, 69, 70, 71, 72, 73, 74, 75, 76, 77, 78, 79, 80, 81, 82, 83, 84, 85, 86, 87, 88, 89, 90, 91, 92, 93, 94, 95, 96, 97, 98, 99, 100, 101, 102, 103, 104, 105, 106, 107, 108, 109, 110, 111, 112, 113, 114, 115, 116, 117, 118, 119, 120, 121, 122, 123, 124, 125, 126, 127, 128, 129, 130, 131, 132, 133, 134, 135, 136, 137, 138, 139, 140, 141, 142, 143, 144, 145, 146, 147, 148, 149, 150, 151, 152, 153, 154, 155, 156, 157, 158, 159, 160, 161, 162, 163, 164, 165, 166, 167, 168, 169, 170, 171, 172, 173, 174, 175, 176, 177, 178, 179, 180, 181, 182, 183, 184, 185, 186, 187, 188, 189, 190, 191, 192, 193, 194, 195, 196, 197, 198, 199, 200, 201, 202, 203, 204, 205, 206, 207, 208, 209, 210, 211, 212, 213, 214, 215, 216, 217, 218, 219, 220, 221, 222, 223, 224, 225, 226, 227, 228, 229, 230, 231, 232, 233, 234, 235, 236, 237, 238, 239, 240, 241, 242, 243, 244, 245, 246, 247, 248, 249, 250, 251, 252, 253, 254, 255, 256, 257, 258, 259, 260, 261, 262, 263, 264, 265, 266, 267, 268, 269, 270, 277, 278, 279, 280, 281, 282, 283, 284, 285, 286, 287, 288, 289, 290, 291, 292, 293, 294, 295, 296, 297, 298, 316, 317, 318, 319, 320, 321, 322, 323, 324, 325, 326, 327, 328, 329, 330, 331, 332, 333, 334, 335, 299, 300, 301, 302, 303, 304, 305, 306, 307, 308, 309, 310, 311, 312, 313, 314, 315, 336, 337, 338, 339, 340, 341, 342, 343, 344, 345, 346, 347, 348, 349, 350, 351, 352, 353, 354, 355, 356, 357, 358, 359, 360, 361, 362, 363, 364] (by decide +kernel) (by decide +kernel)
set_option maxRecDepth 20000 in
theorem gX11_flush_X1_endPicture : GoodIn wsX11_flush (wsV RX11 143 RX1 yX1_endPicture wsX1_endPicture) := goodIn_app (goodIn_of _ (by decide +kernel)) ggX11_flush_X1_endPicture
set_option maxRecDepth 20000 in
theorem ggX11_flush_X7_putOutAll : GoodIn wsX11_flush wsX7_putOutAll := goodIn_r _ [221, 222, 223, 224, 137, 225, 172, 173, 212, 144, 226, 227, 228, 229, 230, 231, 232, 233, 234, 235, 236, 237, 238, 239, 240, 241, 242, 243, 244, 245, 246, 247, 248, 249, 250, 251, 252, 253, 254, 255, 256, 257, 258, 259, 260, 261, 262, 59, 60, 34, 61, 36, 208, 209, 210, 211, 165, 299, 300, 301, 302, 303, 304, 305, 306, 307, 308, 309, 310, 311, 312, 313, 314, 315, 336, 337, 338, 339, 340, 341, 342, 343, 344, 345, 346, 347, 348, 349, 350, 351, 352, 353] (by decide +kernel) (by decide +kernel)
set_option maxRecDepth 20000 in
theorem gX11_flush_X7_putOutAll : GoodIn wsX11_flush (wsV RX11 150 RX7 yX7_putOutAll wsX7_putOutAll) := goodIn_app (goodIn_of _ (by decide +kernel)) ggX11_flush_X7_putOutAll
theorem dX11_flush_0 : decode cX11_flush 0 = .ok (.aload_n 0, 1) := by decide +kernel
theorem dX11_flush_1 : decode cX11_flush 1 = .ok (.getfield 24, 3) := by decide +kernel
theorem dX11_flush_4 : decode cX11_flush 4 = .ok (.invokevirtual 143, 3) := by decide +kernel
theorem dX11_flush_7 : decode cX11_flush 7 = .ok (.aload_n 0, 1) := by decide +kernel
theorem dX11_flush_8 : decode cX11_flush 8 = .ok (.getfield 24, 3) := by decide +kernel
theorem dX11_flush_11 : decode cX11_flush 11 = .ok (.getfield 146, 3) := by decide +kernel
theorem dX11_flush_14 : decode cX11_flush 14 = .ok (.invokevirtual 150, 3) := by decide +kernel
theorem dX11_flush_17 : decode cX11_flush 17 = .ok (.aload_n 0, 1) := by decide +kernel
theorem dX11_flush_18 : decode cX11_flush 18 = .ok (.getfield 24, 3) := by decide +kernel
theorem dX11_flush_21 : decode cX11_flush 21 = .ok (.getfield 146, 3) := by decide +kernel
theorem dX11_flush_24 : decode cX11_flush 24 = .ok (.getfield 155, 3) := by decide +kernel
theorem dX11_flush_27 : decode cX11_flush 27 = .ok (.ireturn, 1) := by decide +kernel
noncomputable def FX11_flush (G : GG) (M : DD) (a : Nat)  : Option (NN × DD × Int32) :=
  dr (xt G []) 1 ((M.2 a 3)) fun b2 =>
  bnd (FX1_endPicture (xt G []) M b2) fun y3 =>
  app y3.1 <|
  ltt ([] ++ y3.1) fun L5 =>
  dr (xt G L5) 1 ((y3.2.2 a 3)) fun b8 =>
  dr (xt G L5) 7 ((y3.2.2 b8 1)) fun b9 =>
  bnd (FX7_putOutAll (xt G L5) y3.2 b9) fun y10 =>
  app y10.1 <|
  ltt (L5 ++ y10.1) fun L12 =>
  dr (xt G L12) 1 ((y10.2.2 a 3)) fun b15 =>
  dr (xt G L12) 7 ((y10.2.2 b15 1)) fun b16 =>
  ltt (y10.2.1 b16 14) fun x17 =>
  some ([], (y10.2, x17))
set_option maxHeartbeats 4000000 in
set_option maxRecDepth 100000 in
theorem kX11_flush (l : Launch) (D : va_G) (ct : CT) (ad : Nat → Nat) (Z : Nat → Nat) (G : GG) (M : DD) (sz : Nat) (a : Nat)  (y : NN × DD × Int32) (hc : a < G.1) (hk : G.2.1 a = 11) (hF : FX11_flush G M a  = some y) : Met l yX11_flush wsX11_flush ({ frames := 6, cells := y.1.length, slots := wt y.1, locals := 199 }) (va_Pc [.ref (ad a)] (kB D ct ad Z G M sz)) (va_Qi (fun (q : Int32) (u : Nat → Nat) => q = y.2.2 ∧ agr G.1 ad u) (fun u t => kE D ct u (xt G y.1) (wA ad G sz) y.2.1 t) (wA ad G sz)) y.1.length (wt y.1) (wA ad G sz) := by
  refine Met.ofW (cc := cX11_flush) (maxL := 1) (ret := (some .int)) (by decide) rfl ?_
  intro p e s m args below meth c s₁ B hml hv
  obtain ⟨rfl, hsz, hP, hK, hD0, hZ, hN⟩ := hv
  have hx := B.exec
  have hb := B.bytes
  have hr := B.returns
  have hts := atoms_spec (ws := wsX11_flush) B.pre
  have hown : s.vm.findClass RX11 = some m.cls := findClass_of_methodNamed B.named
  have hlocks := B.notSynchronized
  subst hsz
  have hD := wD_self (sz := s.heap.size) hD0
  have hA9 : ∀ q, s.heap.size ≤ q → wA ad G s.heap.size q := fun q h => Or.inr h
  generalize hAe : wA ad G s.heap.size = A at hD hA9 hZ ⊢
  have hS : va_S A s.heap s.heap [] := va_S.rf
  have hl := lv_entry ([.ref (ad a)]) (n := 1) (Nat.le_of_ble_eq_true rfl)
  rw [lg_entry_eq]
  generalize (lg_sl ([.ref (ad a)]) ++ List.replicate (1 - (lg_sl ([.ref (ad a)])).length) Slot.unset).toArray = ls at hl ⊢
  have hl : lv_has ls 1 [(0, .ref (ad a))] := hl
  unfold FX11_flush at hF
  rw [← wld_0 ct ad G M] at hP hD
  have hk := xt_k0 hc hk
  have hc := xt_l0 hc
  have hag := agr_rf G.1 ad
  obtain ⟨w0, hw0⟩ : ∃ z, z = y := ⟨_, rfl⟩
  rw [← hw0] at hF
  have hT : y.1 = [] ++ w0.1 := by rw [hw0]; rfl
  have h2 : y.2 = w0.2 := by rw [hw0]
  have hbl : y.1.length ≤ y.1.length ∧ wt y.1 ≤ wt y.1 := ⟨Nat.le_refl _, Nat.le_refl _⟩
  refine lv_aload_n hx hb dX11_flush_0 rfl (lv_at hl 0 rfl) ?_
  refine va_get (D := D) (ci := 11) (v := va_re ad (M.2 a 3)) (C := RX11) (T := TX11) (N := 5) hx hb hts (by decide +kernel) hown hK hP a (wld_o ct ad (xt G []) M hc hk (by decide)) rfl 3 (by decide) (hts (.fieldLink RX11 24 "VideoSuite" "decoder" "LVideoSuite$Decoder;") (by decide +kernel)) (fun _ h9 => h9) rfl dX11_flush_1 ?_
  obtain ⟨b2, ho2, hc2, hk2, hF⟩ := dr_some hF
  refine W_st (st' := [.ref (ad b2)]) (by rw [va_some ho2]) ?_
  obtain ⟨y3, hy3, hF⟩ := bnd_some hF
  obtain ⟨w4, hF, ew4⟩ := app_some hF
  obtain ⟨L5, eL5, hF⟩ := ltt_some hF
  have hT5 : y.1 = ([] ++ y3.1) ++ w4.1 := by rw [hT, ew4]; simp only [List.append_assoc]
  have hf9 := wA_in hD hA9 hS
  refine va_callv (va_runV (As := []) (rest := []) ⟨hx, hb, hml, hown, hts⟩ (kX1_endPicture l D ct ad Z (xt G []) M _ b2 y3 hc2 hk2 hy3) (cwV 0 hts gX11_flush_X1_endPicture rfl rfl rfl (by decide +kernel) ⟨Nat.le_of_ble_eq_true rfl, Nat.le_of_ble_eq_true rfl⟩) ⟨fun a U g mk q => by obtain ⟨q0, q1, qP, qK, qD, qZ, qN⟩ := q; exact ⟨q0, q1, qP, va_K.moved (u := U) (U := U.calling g mk a) (Vm.Alike.refl U.vm) qK, qD, sF.moved (u := U) (U := U.calling g mk a) (Vm.Alike.refl U.vm) qZ, nF.same rfl qN⟩, va_recv hK hP (ci := 1) (q0 := b2) rfl (wld_o ct ad (xt G []) M hc2 hk2 (by decide)), fun U hU hW => ⟨rfl, by rw [hU], by rw [hU]; exact hP, va_K.moved hW.alike hK, hD.weaken (fun _ _ _ _ => trivial), by rw [hU]; exact ((hZ.kept hS.2.1).narrow hf9).moved hW.alike, hN.warm hW⟩⟩ rfl rfl hl.1 rfl (lv_room (Nat.le_of_ble_eq_true rfl)) dX11_flush_4 (room_s hT5 hbl)) hS (fun q _ h => hf9 q h) hf9 (fun ad6 t H locs ht hvm hw hB hz1 hk1 hS => ?_)
  have hn7 := hw
  obtain ⟨hP, hK9, hD9⟩ := hB
  rw [ht] at hP
  have hD := hD9.weaken (fun _ q _ h => hf9 q.1 h)
  rw [xt_xt, ← eL5] at hP hD
  refine W_cs (k := L5.length) (n := wt L5) (by rw [eL5]; exact (len_s [] y3.1).symm) (by rw [eL5]; exact (wt_app [] y3.1).symm) ?_
  have hT : y.1 = L5 ++ w4.1 := by rw [hT5, eL5]
  have h2 : y.2 = w4.2 := by rw [h2, ew4]
  have hl := lv_sub (l' := [(0, .ref (ad a))]) hl [0] rfl
  have e9 : ([(0, .ref (ad a))] : List (Nat × Value)) = [(0, .ref (ad6 a))] := (by first | rfl | simp only [hn7 a hc])
  rw [e9] at hl
  clear e9
  have hk : (xt G L5).2.1 a = 11 := by rw [eL5]; exact xt_k _ hc hk
  have hc : a < (xt G L5).1 := by rw [eL5]; exact xt_l _ hc
  have hk2 : (xt G L5).2.1 b2 = 1 := by rw [eL5]; exact xt_k _ hc2 hk2
  have hc2 : b2 < (xt G L5).1 := by rw [eL5]; exact xt_l _ hc2
  have hag := agr_t (xt_ge _ _) hag hn7
  refine lv_aload_n hx hb dX11_flush_7 rfl (lv_at hl 0 rfl) ?_
  refine va_get (D := D) (ci := 11) (v := va_re ad6 (y3.2.2 a 3)) (C := RX11) (T := TX11) (N := 5) hx hb hts (by decide +kernel) hown hK hP a (wld_o ct ad6 (xt G L5) y3.2 hc hk (by decide)) rfl 3 (by decide) (hts (.fieldLink RX11 24 "VideoSuite" "decoder" "LVideoSuite$Decoder;") (by decide +kernel)) (fun _ h9 => h9) rfl dX11_flush_8 ?_
  obtain ⟨b8, ho8, hc8, hk8, hF⟩ := dr_some hF
  refine W_st (st' := [.ref (ad6 b8)]) (by rw [va_some ho8]) ?_
  refine va_get (D := D) (ci := 1) (v := va_re ad6 (y3.2.2 b8 1)) (C := RX1) (T := TX1) (N := 22) hx hb hts (by decide +kernel) hown hK hP b8 (wld_o ct ad6 (xt G L5) y3.2 hc8 hk8 (by decide)) rfl 1 (by decide) (hts (.fieldLink RX11 146 "VideoSuite$Decoder" "store" "LVideoSuite$Store;") (by decide +kernel)) (fun _ h9 => h9) rfl dX11_flush_11 ?_
  obtain ⟨b9, ho9, hc9, hk9, hF⟩ := dr_some hF
  refine W_st (st' := [.ref (ad6 b9)]) (by rw [va_some ho9]) ?_
  obtain ⟨y10, hy10, hF⟩ := bnd_some hF
  obtain ⟨w11, hF, ew11⟩ := app_some hF
  obtain ⟨L12, eL12, hF⟩ := ltt_some hF
  have hT12 : y.1 = (L5 ++ y10.1) ++ w11.1 := by rw [hT, ew11]; simp only [List.append_assoc]
  have hf9 := wA_in hD hA9 hS
  refine va_callv (va_runV (As := []) (rest := []) ⟨hx, hb, hml, hown, hts⟩ (kX7_putOutAll l D ct ad6 Z (xt G L5) y3.2 _ b9 y10 hc9 hk9 hy10) (cwV 0 hts gX11_flush_X7_putOutAll rfl rfl rfl (by decide +kernel) ⟨Nat.le_of_ble_eq_true rfl, Nat.le_of_ble_eq_true rfl⟩) ⟨fun a U g mk q => by obtain ⟨q0, q1, qP, qK, qD, qZ, qN⟩ := q; exact ⟨q0, q1, qP, va_K.moved (u := U) (U := U.calling g mk a) (Vm.Alike.refl U.vm) qK, qD, sF.moved (u := U) (U := U.calling g mk a) (Vm.Alike.refl U.vm) qZ, nF.same rfl qN⟩, va_recv hK hP (ci := 7) (q0 := b9) rfl (wld_o ct ad6 (xt G L5) y3.2 hc9 hk9 (by decide)), fun U hU hW => ⟨rfl, by rw [hU], by rw [hU]; exact hP, va_K.moved hW.alike hK, hD.weaken (fun _ _ _ _ => trivial), by rw [hU]; exact ((hZ.kept hS.2.1).narrow hf9).moved hW.alike, hN.warm hW⟩⟩ rfl rfl hl.1 rfl (lv_room (Nat.le_of_ble_eq_true rfl)) dX11_flush_14 (room_s hT12 hbl)) hS (fun q _ h => hf9 q h) hf9 (fun ad13 t H locs ht hvm hw hB hz1 hk1 hS => ?_)
  have hn14 := hw
  obtain ⟨hP, hK9, hD9⟩ := hB
  rw [ht] at hP
  have hD := hD9.weaken (fun _ q _ h => hf9 q.1 h)
  rw [xt_xt, ← eL12] at hP hD
  refine W_cs (k := L12.length) (n := wt L12) (by rw [eL12]; exact (len_s L5 y10.1).symm) (by rw [eL12]; exact (wt_app L5 y10.1).symm) ?_
  have hT : y.1 = L12 ++ w11.1 := by rw [hT12, eL12]
  have h2 : y.2 = w11.2 := by rw [h2, ew11]
  have hl := lv_sub (l' := [(0, .ref (ad6 a))]) hl [0] rfl
  have e9 : ([(0, .ref (ad6 a))] : List (Nat × Value)) = [(0, .ref (ad13 a))] := (by first | rfl | simp only [hn14 a hc])
  rw [e9] at hl
  clear e9
  have hk : (xt G L12).2.1 a = 11 := by rw [eL12]; exact xt_k _ hc hk
  have hc : a < (xt G L12).1 := by rw [eL12]; exact xt_l _ hc
  have hk2 : (xt G L12).2.1 b2 = 1 := by rw [eL12]; exact xt_k _ hc2 hk2
  have hc2 : b2 < (xt G L12).1 := by rw [eL12]; exact xt_l _ hc2
  have hk8 : (xt G L12).2.1 b8 = 1 := by rw [eL12]; exact xt_k _ hc8 hk8
  have hc8 : b8 < (xt G L12).1 := by rw [eL12]; exact xt_l _ hc8
  have hk9 : (xt G L12).2.1 b9 = 7 := by rw [eL12]; exact xt_k _ hc9 hk9
  have hc9 : b9 < (xt G L12).1 := by rw [eL12]; exact xt_l _ hc9
  have hag := agr_t (xt_ge _ _) hag hn14
  refine lv_aload_n hx hb dX11_flush_17 rfl (lv_at hl 0 rfl) ?_
  refine va_get (D := D) (ci := 11) (v := va_re ad13 (y10.2.2 a 3)) (C := RX11) (T := TX11) (N := 5) hx hb hts (by decide +kernel) hown hK hP a (wld_o ct ad13 (xt G L12) y10.2 hc hk (by decide)) rfl 3 (by decide) (hts (.fieldLink RX11 24 "VideoSuite" "decoder" "LVideoSuite$Decoder;") (by decide +kernel)) (fun _ h9 => h9) rfl dX11_flush_18 ?_
  obtain ⟨b15, ho15, hc15, hk15, hF⟩ := dr_some hF
  refine W_st (st' := [.ref (ad13 b15)]) (by rw [va_some ho15]) ?_
  refine va_get (D := D) (ci := 1) (v := va_re ad13 (y10.2.2 b15 1)) (C := RX1) (T := TX1) (N := 22) hx hb hts (by decide +kernel) hown hK hP b15 (wld_o ct ad13 (xt G L12) y10.2 hc15 hk15 (by decide)) rfl 1 (by decide) (hts (.fieldLink RX11 146 "VideoSuite$Decoder" "store" "LVideoSuite$Store;") (by decide +kernel)) (fun _ h9 => h9) rfl dX11_flush_21 ?_
  obtain ⟨b16, ho16, hc16, hk16, hF⟩ := dr_some hF
  refine W_st (st' := [.ref (ad13 b16)]) (by rw [va_some ho16]) ?_
  refine va_get (D := D) (ci := 7) (v := .int (y10.2.1 b16 14)) (C := RX7) (T := TX7) (N := 17) hx hb hts (by decide +kernel) hown hK hP b16 (wld_o ct ad13 (xt G L12) y10.2 hc16 hk16 (by decide)) rfl 14 (by decide) (hts (.fieldLink RX11 155 "VideoSuite$Store" "outputs" "I") (by decide +kernel)) (fun _ h9 => h9) rfl dX11_flush_24 ?_
  obtain ⟨x17, ex17, hF⟩ := ltt_some hF
  refine lv_topi (fun zx17 ezx17 => ?_)
  obtain rfl : x17 = zx17 := ex17.trans ezx17.symm
  obtain rfl := Option.some.inj hF
  have e1 : y.1 = L12 := by rw [hT]; exact List.append_nil _
  have e2 : y.2 = (y10.2, x17) := h2
  refine W.widen (k := y.1.length) (n := wt y.1) (Nat.le_of_eq (by rw [e1])) (Nat.le_of_eq (by rw [e1])) ?_
  exact W.iret (v := x17) hx hb hr (fun t ht hW => ⟨⟨_, ad13, rfl, ⟨by rw [e2], hag⟩, (by unfold kE; rw [e1, e2]; exact ⟨by rw [ht]; exact hP, va_K.moved hW.alike hK, hD⟩)⟩, hS.F ht⟩) hS.2.2 dX11_flush_27
theorem ggX1_readHeader_J7_fill_53178 : GoodIn wsX1_readHeader wsJ7_fill_53178 := goodIn_r _ [15] (by decide +kernel) (by decide +kernel)
set_option maxRecDepth 20000 in
theorem gX1_readHeader_J7_fill_53178 : GoodIn wsX1_readHeader (va_wsS RX1 91 yJ7_fill_53178 wsJ7_fill_53178) := goodIn_app (goodIn_of _ (by decide +kernel)) ggX1_readHeader_J7_fill_53178
set_option maxRecDepth 20000 in
theorem ggX1_readHeader_X5_number : GoodIn wsX1_readHeader wsX5_number := goodIn_ca (goodIn_r _ [20, 21, 22, 23, 24, 25, 26, 19, 27, 28, 29, 30, 31, 32, 33, 34, 35, 36, 37, 38, 39, 40, 41, 42, 43, 44, 45, 46, 47, 48, 49, 50, 51, 130, 131, 132, 133, 134, 135, 136, 137, 138, 139, 140, 141, 142, 143, 144, 145, 146] (by decide +kernel) (by decide +kernel)) (goodIn_sub (fun _ h => List.mem_cons_of_mem _ (List.mem_append_right _ h)) (by decide +kernel))
set_option maxRecDepth 20000 in
theorem gX1_readHeader_X5_number : GoodIn wsX1_readHeader (wsV RX1 179 RX5 yX5_number wsX5_number) := goodIn_app (goodIn_of _ (by decide +kernel)) ggX1_readHeader_X5_number
set_option maxRecDepth 20000 in
theorem ggX1_readHeader_X1_unsigned : GoodIn wsX1_readHeader wsX1_unsigned := goodIn_ca (goodIn_r _ [56, 3, 16, 17, 18, 19, 20, 21, 22, 23, 24, 25, 26, 27, 28, 29, 30, 31, 32, 33, 34, 35, 36, 37, 38, 39, 40, 41, 42, 43, 44, 45, 46, 47, 48, 49, 50, 51, 104, 105, 106, 107, 108, 109, 110, 111, 112, 113, 114, 115, 116, 117, 118, 119, 120, 121, 122, 123, 124, 125, 130, 131, 132, 133, 134, 135, 136, 137, 138, 139, 140, 141, 142, 143, 144, 145, 146] (by decide +kernel) (by decide +kernel)) (goodIn_sub (fun _ h => List.mem_cons_of_mem _ (List.mem_append_right _ h)) (by decide +kernel))
set_option maxRecDepth 20000 in
theorem gX1_readHeader_X1_unsigned : GoodIn wsX1_readHeader (wsV RX1 186 RX1 yX1_unsigned wsX1_unsigned) := goodIn_app (goodIn_of _ (by decide +kernel)) ggX1_readHeader_X1_unsigned
set_option maxRecDepth 20000 in
theorem ggX1_readHeader_X5_fixed : GoodIn wsX1_readHeader wsX5_fixed := goodIn_ca (goodIn_r _ [61, 21, 22, 24, 25, 26, 19, 27, 28, 29, 30, 31, 32, 33, 34, 35, 36, 37, 38, 39, 40, 45, 46, 47, 48, 49, 50, 51, 130, 131, 132, 133, 134, 135, 136, 137, 138, 139, 140, 141, 142, 143, 144, 145, 146] (by decide +kernel) (by decide +kernel)) (goodIn_sub (fun _ h => List.mem_cons_of_mem _ (List.mem_append_right _ h)) (by decide +kernel))
set_option maxRecDepth 20000 in
theorem gX1_readHeader_X5_fixed : GoodIn wsX1_readHeader (wsV RX1 183 RX5 yX5_fixed wsX5_fixed) := goodIn_app (goodIn_of _ (by decide +kernel)) ggX1_readHeader_X5_fixed
set_option maxRecDepth 20000 in
theorem ggX1_readHeader_X1_readOrder : GoodIn wsX1_readHeader wsX1_readOrder := goodIn_ca (goodIn_r _ [65, 1, 2, 3, 58, 59, 60, 19, 61, 21, 22, 24, 25, 26, 27, 28, 29, 30, 31, 32, 33, 34, 35, 36, 37, 38, 39, 40, 45, 46, 47, 48, 49, 50, 51, 66, 67, 68, 55, 69, 16, 17, 18, 20, 23, 41, 42, 43, 44, 104, 105, 106, 107, 108, 109, 110, 111, 112, 113, 114, 115, 116, 117, 118, 119, 120, 121, 122, 123, 124, 125, 126, 127, 128, 129, 130, 131, 132, 133, 134, 135, 136, 137, 138, 139, 140, 141, 142, 143, 144, 145, 146] (by decide +kernel) (by decide +kernel)) (goodIn_sub (fun _ h => List.mem_cons_of_mem _ (List.mem_append_right _ h)) (by decide +kernel))
set_option maxRecDepth 20000 in
theorem gX1_readHeader_X1_readOrder : GoodIn wsX1_readHeader (wsV RX1 221 RX1 yX1_readOrder wsX1_readOrder) := goodIn_app (goodIn_of _ (by decide +kernel)) ggX1_readHeader_X1_readOrder
set_option maxRecDepth 20000 in
theorem ggX1_readHeader_X1_readRules : GoodIn wsX1_readHeader wsX1_readRules := goodIn_ca (goodIn_r _ [102, 1, 2, 103, 3, 5, 52, 53, 54, 55, 56, 16, 17, 18, 19, 20, 21, 22, 23, 24, 25, 26, 27, 28, 29, 30, 31, 32, 33, 34, 35, 36, 37, 38, 39, 40, 41, 42, 43, 44, 45, 46, 47, 48, 49, 50, 51, 57, 66, 67, 68, 69, 104, 105, 106, 107, 108, 109, 110, 111, 112, 113, 114, 115, 116, 117, 118, 119, 120, 121, 122, 123, 124, 125, 126, 127, 128, 129, 130, 131, 132, 133, 134, 135, 136, 137, 138, 139, 140, 141, 142, 143, 144, 145, 146] (by decide +kernel) (by decide +kernel)) (goodIn_sub (fun _ h => List.mem_cons_of_mem _ (List.mem_append_right _ h)) (by decide +kernel))
set_option maxRecDepth 20000 in
theorem gX1_readHeader_X1_readRules : GoodIn wsX1_readHeader (wsV RX1 231 RX1 yX1_readRules wsX1_readRules) := goodIn_app (goodIn_of _ (by decide +kernel)) ggX1_readHeader_X1_readRules
theorem ggX1_readHeader_X1_readMarks : GoodIn wsX1_readHeader wsX1_readMarks := goodIn_ca (goodIn_r _ [97, 1, 2, 3, 5, 98, 11, 58, 59, 60, 19, 61, 21, 22, 24, 25, 26, 27, 28, 29, 30, 31, 32, 33, 34, 35, 36, 37, 38, 39, 40, 45, 46, 47, 48, 49, 50, 51, 52, 53, 54, 55, 56, 16, 17, 18, 20, 23, 41, 42, 43, 44, 57, 104, 105, 106, 107, 108, 109, 110, 111, 112, 113, 114, 115, 116, 117, 118, 119, 120, 121, 122, 123, 124, 125, 126, 127, 128, 129, 130, 131, 132, 133, 134, 135, 136, 137, 138, 139, 140, 141, 142, 143, 144, 145, 146] (by decide +kernel) (by decide +kernel)) (goodIn_sub (fun _ h => List.mem_cons_of_mem _ (List.mem_append_right _ h)) (by decide +kernel))
set_option maxRecDepth 20000 in
theorem gX1_readHeader_X1_readMarks : GoodIn wsX1_readHeader (wsV RX1 228 RX1 yX1_readMarks wsX1_readMarks) := goodIn_app (goodIn_of _ (by decide +kernel)) ggX1_readHeader_X1_readMarks
set_option maxRecDepth 20000 in
theorem ggX1_readHeader_X1_readLists : GoodIn wsX1_readHeader wsX1_readLists := goodIn_ca (goodIn_r _ [73, 1, 2, 3, 58, 59, 60, 19, 61, 21, 22, 24, 25, 26, 27, 28, 29, 30, 31, 32, 33, 34, 35, 36, 37, 38, 39, 40, 45, 46, 47, 48, 49, 50, 51, 52, 53, 54, 55, 56, 16, 17, 18, 20, 23, 41, 42, 43, 44, 74, 75, 76, 77, 5, 78, 57, 79, 80, 81, 82, 83, 84, 85, 86, 87, 88, 89, 90, 91, 92, 93, 66, 67, 68, 69, 104, 105, 106, 107, 108, 109, 110, 111, 112, 113, 114, 115, 116, 117, 118, 119, 120, 121, 122, 123, 124, 125, 126, 127, 128, 129, 130, 131, 132, 133, 134, 135, 136, 137, 138, 139, 140, 141, 142, 143, 144, 145, 146] (by decide +kernel) (by decide +kernel)) (goodIn_sub (fun _ h => List.mem_cons_of_mem _ (List.mem_append_right _ h)) (by decide +kernel))
set_option maxRecDepth 20000 in
theorem gX1_readHeader_X1_readLists : GoodIn wsX1_readHeader (wsV RX1 225 RX1 yX1_readLists wsX1_readLists) := goodIn_app (goodIn_of _ (by decide +kernel)) ggX1_readHeader_X1_readLists
set_option maxRecDepth 20000 in
theorem dX1_readHeader_0 : decode cX1_readHeader 0 = .ok (.aload_n 0, 1) := by decide +kernel
theorem dX1_readHeader_1 : decode cX1_readHeader 1 = .ok (.getfield 68, 3) := by decide +kernel
theorem dX1_readHeader_4 : decode cX1_readHeader 4 = .ok (.getfield 212, 3) := by decide +kernel
theorem dX1_readHeader_7 : decode cX1_readHeader 7 = .ok (.astore_n 3, 1) := by decide +kernel
theorem dX1_readHeader_8 : decode cX1_readHeader 8 = .ok (.aload_n 3, 1) := by decide +kernel
theorem dX1_readHeader_9 : decode cX1_readHeader 9 = .ok (.iconst 0, 1) := by decide +kernel
theorem dX1_readHeader_10 : decode cX1_readHeader 10 = .ok (.invokestatic 91, 3) := by decide +kernel
theorem dX1_readHeader_13 : decode cX1_readHeader 13 = .ok (.aload_n 3, 1) := by decide +kernel
theorem dX1_readHeader_14 : decode cX1_readHeader 14 = .ok (.bipush 18, 2) := by decide +kernel
theorem dX1_readHeader_16 : decode cX1_readHeader 16 = .ok (.iload_n 1, 1) := by decide +kernel
theorem dX1_readHeader_17 : decode cX1_readHeader 17 = .ok (.iastore, 1) := by decide +kernel
theorem dX1_readHeader_18 : decode cX1_readHeader 18 = .ok (.aload_n 3, 1) := by decide +kernel
theorem dX1_readHeader_19 : decode cX1_readHeader 19 = .ok (.bipush 11, 2) := by decide +kernel
theorem dX1_readHeader_21 : decode cX1_readHeader 21 = .ok (.iload_n 2, 1) := by decide +kernel
theorem dX1_readHeader_22 : decode cX1_readHeader 22 = .ok (.iastore, 1) := by decide +kernel
theorem dX1_readHeader_23 : decode cX1_readHeader 23 = .ok (.aload_n 3, 1) := by decide +kernel
theorem dX1_readHeader_24 : decode cX1_readHeader 24 = .ok (.iconst 0, 1) := by decide +kernel
theorem dX1_readHeader_25 : decode cX1_readHeader 25 = .ok (.aload_n 0, 1) := by decide +kernel
theorem dX1_readHeader_26 : decode cX1_readHeader 26 = .ok (.getfield 12, 3) := by decide +kernel
theorem dX1_readHeader_29 : decode cX1_readHeader 29 = .ok (.iconst 0, 1) := by decide +kernel
theorem dX1_readHeader_30 : decode cX1_readHeader 30 = .ok (.iconst 0, 1) := by decide +kernel
theorem dX1_readHeader_31 : decode cX1_readHeader 31 = .ok (.lconst 0, 1) := by decide +kernel
theorem dX1_readHeader_32 : decode cX1_readHeader 32 = .ok (.ldc2_w 215, 3) := by decide +kernel
theorem dX1_readHeader_35 : decode cX1_readHeader 35 = .ok (.invokevirtual 179, 3) := by decide +kernel
theorem dX1_readHeader_38 : decode cX1_readHeader 38 = .ok (.iastore, 1) := by decide +kernel
theorem dX1_readHeader_39 : decode cX1_readHeader 39 = .ok (.aload_n 0, 1) := by decide +kernel
theorem dX1_readHeader_40 : decode cX1_readHeader 40 = .ok (.getfield 12, 3) := by decide +kernel
theorem dX1_readHeader_43 : decode cX1_readHeader 43 = .ok (.getfield 194, 3) := by decide +kernel
theorem dX1_readHeader_46 : decode cX1_readHeader 46 = .ok (.istore 4, 2) := by decide +kernel
theorem dX1_readHeader_48 : decode cX1_readHeader 48 = .ok (.aload_n 3, 1) := by decide +kernel
theorem dX1_readHeader_49 : decode cX1_readHeader 49 = .ok (.iconst 1, 1) := by decide +kernel
theorem dX1_readHeader_50 : decode cX1_readHeader 50 = .ok (.aload_n 0, 1) := by decide +kernel
theorem dX1_readHeader_51 : decode cX1_readHeader 51 = .ok (.bipush 9, 2) := by decide +kernel
theorem dX1_readHeader_53 : decode cX1_readHeader 53 = .ok (.invokevirtual 186, 3) := by decide +kernel
theorem dX1_readHeader_56 : decode cX1_readHeader 56 = .ok (.iconst 5, 1) := by decide +kernel
theorem dX1_readHeader_57 : decode cX1_readHeader 57 = .ok (.irem, 1) := by decide +kernel
theorem dX1_readHeader_58 : decode cX1_readHeader 58 = .ok (.iastore, 1) := by decide +kernel
theorem dX1_readHeader_59 : decode cX1_readHeader 59 = .ok (.aload_n 3, 1) := by decide +kernel
theorem dX1_readHeader_60 : decode cX1_readHeader 60 = .ok (.iconst 1, 1) := by decide +kernel
theorem dX1_readHeader_61 : decode cX1_readHeader 61 = .ok (.iaload, 1) := by decide +kernel
theorem dX1_readHeader_62 : decode cX1_readHeader 62 = .ok (.iconst 2, 1) := by decide +kernel
theorem dX1_readHeader_63 : decode cX1_readHeader 63 = .ok (.if_icmp .gt 15, 3) := by decide +kernel
theorem dX1_readHeader_66 : decode cX1_readHeader 66 = .ok (.iload_n 1, 1) := by decide +kernel
theorem dX1_readHeader_67 : decode cX1_readHeader 67 = .ok (.iconst 5, 1) := by decide +kernel
theorem dX1_readHeader_68 : decode cX1_readHeader 68 = .ok (.if_icmp .ne 25, 3) := by decide +kernel
theorem dX1_readHeader_71 : decode cX1_readHeader 71 = .ok (.aload_n 3, 1) := by decide +kernel
theorem dX1_readHeader_72 : decode cX1_readHeader 72 = .ok (.iconst 1, 1) := by decide +kernel
theorem dX1_readHeader_73 : decode cX1_readHeader 73 = .ok (.iaload, 1) := by decide +kernel
theorem dX1_readHeader_74 : decode cX1_readHeader 74 = .ok (.iconst 2, 1) := by decide +kernel
theorem dX1_readHeader_75 : decode cX1_readHeader 75 = .ok (.if_icmp .eq 18, 3) := by decide +kernel
theorem dX1_readHeader_78 : decode cX1_readHeader 78 = .ok (.aload_n 0, 1) := by decide +kernel
theorem dX1_readHeader_79 : decode cX1_readHeader 79 = .ok (.getfield 12, 3) := by decide +kernel
theorem dX1_readHeader_82 : decode cX1_readHeader 82 = .ok (.iconst 2, 1) := by decide +kernel
theorem dX1_readHeader_83 : decode cX1_readHeader 83 = .ok (.aload_n 0, 1) := by decide +kernel
theorem dX1_readHeader_84 : decode cX1_readHeader 84 = .ok (.getfield 12, 3) := by decide +kernel
theorem dX1_readHeader_87 : decode cX1_readHeader 87 = .ok (.getfield 194, 3) := by decide +kernel
theorem dX1_readHeader_90 : decode cX1_readHeader 90 = .ok (.invokevirtual 197, 3) := by decide +kernel
theorem dX1_readHeader_93 : decode cX1_readHeader 93 = .ok (.aload_n 3, 1) := by decide +kernel
theorem dX1_readHeader_94 : decode cX1_readHeader 94 = .ok (.iconst 2, 1) := by decide +kernel
theorem dX1_readHeader_95 : decode cX1_readHeader 95 = .ok (.aload_n 0, 1) := by decide +kernel
theorem dX1_readHeader_96 : decode cX1_readHeader 96 = .ok (.iconst 3, 1) := by decide +kernel
theorem dX1_readHeader_97 : decode cX1_readHeader 97 = .ok (.invokevirtual 186, 3) := by decide +kernel
theorem dX1_readHeader_100 : decode cX1_readHeader 100 = .ok (.iastore, 1) := by decide +kernel
theorem dX1_readHeader_101 : decode cX1_readHeader 101 = .ok (.aload_n 0, 1) := by decide +kernel
theorem dX1_readHeader_102 : decode cX1_readHeader 102 = .ok (.getfield 51, 3) := by decide +kernel
theorem dX1_readHeader_105 : decode cX1_readHeader 105 = .ok (.aload_n 3, 1) := by decide +kernel
theorem dX1_readHeader_106 : decode cX1_readHeader 106 = .ok (.iconst 2, 1) := by decide +kernel
theorem dX1_readHeader_107 : decode cX1_readHeader 107 = .ok (.iaload, 1) := by decide +kernel
theorem dX1_readHeader_108 : decode cX1_readHeader 108 = .ok (.aaload, 1) := by decide +kernel
theorem dX1_readHeader_109 : decode cX1_readHeader 109 = .ok (.astore 5, 2) := by decide +kernel
theorem dX1_readHeader_111 : decode cX1_readHeader 111 = .ok (.aload 5, 2) := by decide +kernel
theorem dX1_readHeader_113 : decode cX1_readHeader 113 = .ok (.iconst 0, 1) := by decide +kernel
theorem dX1_readHeader_114 : decode cX1_readHeader 114 = .ok (.iaload, 1) := by decide +kernel
theorem dX1_readHeader_115 : decode cX1_readHeader 115 = .ok (.istore 6, 2) := by decide +kernel
theorem dX1_readHeader_117 : decode cX1_readHeader 117 = .ok (.aload 5, 2) := by decide +kernel
theorem dX1_readHeader_119 : decode cX1_readHeader 119 = .ok (.bipush 11, 2) := by decide +kernel
theorem dX1_readHeader_121 : decode cX1_readHeader 121 = .ok (.iaload, 1) := by decide +kernel
theorem dX1_readHeader_122 : decode cX1_readHeader 122 = .ok (.ifCond .eq 30, 3) := by decide +kernel
theorem dX1_readHeader_125 : decode cX1_readHeader 125 = .ok (.aload_n 0, 1) := by decide +kernel
theorem dX1_readHeader_126 : decode cX1_readHeader 126 = .ok (.getfield 48, 3) := by decide +kernel
theorem dX1_readHeader_129 : decode cX1_readHeader 129 = .ok (.iload 6, 2) := by decide +kernel
theorem dX1_readHeader_131 : decode cX1_readHeader 131 = .ok (.aaload, 1) := by decide +kernel
theorem dX1_readHeader_132 : decode cX1_readHeader 132 = .ok (.bipush 23, 2) := by decide +kernel
theorem dX1_readHeader_134 : decode cX1_readHeader 134 = .ok (.iaload, 1) := by decide +kernel
theorem dX1_readHeader_135 : decode cX1_readHeader 135 = .ok (.ifCond .eq 17, 3) := by decide +kernel
theorem dX1_readHeader_138 : decode cX1_readHeader 138 = .ok (.iload_n 1, 1) := by decide +kernel
theorem dX1_readHeader_139 : decode cX1_readHeader 139 = .ok (.iconst 1, 1) := by decide +kernel
theorem dX1_readHeader_140 : decode cX1_readHeader 140 = .ok (.if_icmp .ne 27, 3) := by decide +kernel
theorem dX1_readHeader_143 : decode cX1_readHeader 143 = .ok (.aload_n 0, 1) := by decide +kernel
theorem dX1_readHeader_144 : decode cX1_readHeader 144 = .ok (.getfield 58, 3) := by decide +kernel
theorem dX1_readHeader_147 : decode cX1_readHeader 147 = .ok (.iload 6, 2) := by decide +kernel
theorem dX1_readHeader_149 : decode cX1_readHeader 149 = .ok (.if_icmp .eq 18, 3) := by decide +kernel
theorem dX1_readHeader_152 : decode cX1_readHeader 152 = .ok (.aload_n 0, 1) := by decide +kernel
theorem dX1_readHeader_153 : decode cX1_readHeader 153 = .ok (.getfield 12, 3) := by decide +kernel
theorem dX1_readHeader_156 : decode cX1_readHeader 156 = .ok (.iconst 3, 1) := by decide +kernel
theorem dX1_readHeader_157 : decode cX1_readHeader 157 = .ok (.aload_n 0, 1) := by decide +kernel
theorem dX1_readHeader_158 : decode cX1_readHeader 158 = .ok (.getfield 12, 3) := by decide +kernel
theorem dX1_readHeader_161 : decode cX1_readHeader 161 = .ok (.getfield 194, 3) := by decide +kernel
theorem dX1_readHeader_164 : decode cX1_readHeader 164 = .ok (.invokevirtual 197, 3) := by decide +kernel
theorem dX1_readHeader_167 : decode cX1_readHeader 167 = .ok (.iload_n 1, 1) := by decide +kernel
theorem dX1_readHeader_168 : decode cX1_readHeader 168 = .ok (.iconst 1, 1) := by decide +kernel
theorem dX1_readHeader_169 : decode cX1_readHeader 169 = .ok (.if_icmp .ne 10, 3) := by decide +kernel
theorem dX1_readHeader_172 : decode cX1_readHeader 172 = .ok (.aload_n 0, 1) := by decide +kernel
theorem dX1_readHeader_173 : decode cX1_readHeader 173 = .ok (.getfield 54, 3) := by decide +kernel
theorem dX1_readHeader_176 : decode cX1_readHeader 176 = .ok (.goto 10, 3) := by decide +kernel
theorem dX1_readHeader_179 : decode cX1_readHeader 179 = .ok (.aload_n 0, 1) := by decide +kernel
theorem dX1_readHeader_180 : decode cX1_readHeader 180 = .ok (.getfield 48, 3) := by decide +kernel
theorem dX1_readHeader_183 : decode cX1_readHeader 183 = .ok (.iload 6, 2) := by decide +kernel
theorem dX1_readHeader_185 : decode cX1_readHeader 185 = .ok (.aaload, 1) := by decide +kernel
theorem dX1_readHeader_186 : decode cX1_readHeader 186 = .ok (.astore 7, 2) := by decide +kernel
theorem dX1_readHeader_188 : decode cX1_readHeader 188 = .ok (.aload_n 3, 1) := by decide +kernel
theorem dX1_readHeader_189 : decode cX1_readHeader 189 = .ok (.iconst 0, 1) := by decide +kernel
theorem dX1_readHeader_190 : decode cX1_readHeader 190 = .ok (.iaload, 1) := by decide +kernel
theorem dX1_readHeader_191 : decode cX1_readHeader 191 = .ok (.ifCond .lt 18, 3) := by decide +kernel
theorem dX1_readHeader_194 : decode cX1_readHeader 194 = .ok (.aload_n 3, 1) := by decide +kernel
theorem dX1_readHeader_195 : decode cX1_readHeader 195 = .ok (.iconst 0, 1) := by decide +kernel
theorem dX1_readHeader_196 : decode cX1_readHeader 196 = .ok (.iaload, 1) := by decide +kernel
theorem dX1_readHeader_197 : decode cX1_readHeader 197 = .ok (.aload 7, 2) := by decide +kernel
theorem dX1_readHeader_199 : decode cX1_readHeader 199 = .ok (.iconst 0, 1) := by decide +kernel
theorem dX1_readHeader_200 : decode cX1_readHeader 200 = .ok (.iaload, 1) := by decide +kernel
theorem dX1_readHeader_201 : decode cX1_readHeader 201 = .ok (.aload 7, 2) := by decide +kernel
theorem dX1_readHeader_203 : decode cX1_readHeader 203 = .ok (.iconst 1, 1) := by decide +kernel
theorem dX1_readHeader_204 : decode cX1_readHeader 204 = .ok (.iaload, 1) := by decide +kernel
theorem dX1_readHeader_205 : decode cX1_readHeader 205 = .ok (.imul, 1) := by decide +kernel
theorem dX1_readHeader_206 : decode cX1_readHeader 206 = .ok (.if_icmp .lt 13, 3) := by decide +kernel
theorem dX1_readHeader_209 : decode cX1_readHeader 209 = .ok (.aload_n 0, 1) := by decide +kernel
theorem dX1_readHeader_210 : decode cX1_readHeader 210 = .ok (.getfield 12, 3) := by decide +kernel
theorem dX1_readHeader_213 : decode cX1_readHeader 213 = .ok (.iconst 2, 1) := by decide +kernel
theorem dX1_readHeader_214 : decode cX1_readHeader 214 = .ok (.iload 4, 2) := by decide +kernel
theorem dX1_readHeader_216 : decode cX1_readHeader 216 = .ok (.invokevirtual 197, 3) := by decide +kernel
theorem dX1_readHeader_219 : decode cX1_readHeader 219 = .ok (.aload_n 3, 1) := by decide +kernel
theorem dX1_readHeader_220 : decode cX1_readHeader 220 = .ok (.bipush 21, 2) := by decide +kernel
theorem dX1_readHeader_222 : decode cX1_readHeader 222 = .ok (.aload_n 0, 1) := by decide +kernel
theorem dX1_readHeader_223 : decode cX1_readHeader 223 = .ok (.getfield 12, 3) := by decide +kernel
theorem dX1_readHeader_226 : decode cX1_readHeader 226 = .ok (.getfield 217, 3) := by decide +kernel
theorem dX1_readHeader_229 : decode cX1_readHeader 229 = .ok (.iastore, 1) := by decide +kernel
theorem dX1_readHeader_230 : decode cX1_readHeader 230 = .ok (.aload_n 3, 1) := by decide +kernel
theorem dX1_readHeader_231 : decode cX1_readHeader 231 = .ok (.iconst 3, 1) := by decide +kernel
theorem dX1_readHeader_232 : decode cX1_readHeader 232 = .ok (.aload_n 0, 1) := by decide +kernel
theorem dX1_readHeader_233 : decode cX1_readHeader 233 = .ok (.getfield 12, 3) := by decide +kernel
theorem dX1_readHeader_236 : decode cX1_readHeader 236 = .ok (.iconst 0, 1) := by decide +kernel
theorem dX1_readHeader_237 : decode cX1_readHeader 237 = .ok (.aload 7, 2) := by decide +kernel
theorem dX1_readHeader_239 : decode cX1_readHeader 239 = .ok (.iconst 2, 1) := by decide +kernel
theorem dX1_readHeader_240 : decode cX1_readHeader 240 = .ok (.iaload, 1) := by decide +kernel
theorem dX1_readHeader_241 : decode cX1_readHeader 241 = .ok (.invokevirtual 183, 3) := by decide +kernel
theorem dX1_readHeader_244 : decode cX1_readHeader 244 = .ok (.iastore, 1) := by decide +kernel
theorem dX1_readHeader_245 : decode cX1_readHeader 245 = .ok (.iload_n 1, 1) := by decide +kernel
theorem dX1_readHeader_246 : decode cX1_readHeader 246 = .ok (.iconst 5, 1) := by decide +kernel
theorem dX1_readHeader_247 : decode cX1_readHeader 247 = .ok (.if_icmp .ne 33, 3) := by decide +kernel
theorem dX1_readHeader_250 : decode cX1_readHeader 250 = .ok (.aload_n 3, 1) := by decide +kernel
theorem dX1_readHeader_251 : decode cX1_readHeader 251 = .ok (.iconst 3, 1) := by decide +kernel
theorem dX1_readHeader_252 : decode cX1_readHeader 252 = .ok (.iaload, 1) := by decide +kernel
theorem dX1_readHeader_253 : decode cX1_readHeader 253 = .ok (.ifCond .eq 18, 3) := by decide +kernel
theorem dX1_readHeader_256 : decode cX1_readHeader 256 = .ok (.aload_n 0, 1) := by decide +kernel
theorem dX1_readHeader_257 : decode cX1_readHeader 257 = .ok (.getfield 12, 3) := by decide +kernel
theorem dX1_readHeader_260 : decode cX1_readHeader 260 = .ok (.iconst 2, 1) := by decide +kernel
theorem dX1_readHeader_261 : decode cX1_readHeader 261 = .ok (.aload_n 0, 1) := by decide +kernel
theorem dX1_readHeader_262 : decode cX1_readHeader 262 = .ok (.getfield 12, 3) := by decide +kernel
theorem dX1_readHeader_265 : decode cX1_readHeader 265 = .ok (.getfield 194, 3) := by decide +kernel
theorem dX1_readHeader_268 : decode cX1_readHeader 268 = .ok (.invokevirtual 197, 3) := by decide +kernel
theorem dX1_readHeader_271 : decode cX1_readHeader 271 = .ok (.aload_n 3, 1) := by decide +kernel
theorem dX1_readHeader_272 : decode cX1_readHeader 272 = .ok (.iconst 4, 1) := by decide +kernel
theorem dX1_readHeader_273 : decode cX1_readHeader 273 = .ok (.aload_n 0, 1) := by decide +kernel
theorem dX1_readHeader_274 : decode cX1_readHeader 274 = .ok (.ldc 220, 2) := by decide +kernel
theorem dX1_readHeader_276 : decode cX1_readHeader 276 = .ok (.invokevirtual 186, 3) := by decide +kernel
theorem dX1_readHeader_279 : decode cX1_readHeader 279 = .ok (.iastore, 1) := by decide +kernel
theorem dX1_readHeader_280 : decode cX1_readHeader 280 = .ok (.aload_n 0, 1) := by decide +kernel
theorem dX1_readHeader_281 : decode cX1_readHeader 281 = .ok (.aload 7, 2) := by decide +kernel
theorem dX1_readHeader_283 : decode cX1_readHeader 283 = .ok (.aload 5, 2) := by decide +kernel
theorem dX1_readHeader_285 : decode cX1_readHeader 285 = .ok (.invokevirtual 221, 3) := by decide +kernel
theorem dX1_readHeader_288 : decode cX1_readHeader 288 = .ok (.aload_n 3, 1) := by decide +kernel
theorem dX1_readHeader_289 : decode cX1_readHeader 289 = .ok (.iconst 1, 1) := by decide +kernel
theorem dX1_readHeader_290 : decode cX1_readHeader 290 = .ok (.iaload, 1) := by decide +kernel
theorem dX1_readHeader_291 : decode cX1_readHeader 291 = .ok (.iconst 2, 1) := by decide +kernel
theorem dX1_readHeader_292 : decode cX1_readHeader 292 = .ok (.if_icmp .eq 11, 3) := by decide +kernel
theorem dX1_readHeader_295 : decode cX1_readHeader 295 = .ok (.aload_n 0, 1) := by decide +kernel
theorem dX1_readHeader_296 : decode cX1_readHeader 296 = .ok (.aload 7, 2) := by decide +kernel
theorem dX1_readHeader_298 : decode cX1_readHeader 298 = .ok (.aload 5, 2) := by decide +kernel
theorem dX1_readHeader_300 : decode cX1_readHeader 300 = .ok (.invokevirtual 225, 3) := by decide +kernel
theorem dX1_readHeader_303 : decode cX1_readHeader 303 = .ok (.iload_n 2, 1) := by decide +kernel
theorem dX1_readHeader_304 : decode cX1_readHeader 304 = .ok (.ifCond .eq 8, 3) := by decide +kernel
theorem dX1_readHeader_307 : decode cX1_readHeader 307 = .ok (.aload_n 0, 1) := by decide +kernel
theorem dX1_readHeader_308 : decode cX1_readHeader 308 = .ok (.iload_n 1, 1) := by decide +kernel
theorem dX1_readHeader_309 : decode cX1_readHeader 309 = .ok (.invokevirtual 228, 3) := by decide +kernel
theorem dX1_readHeader_312 : decode cX1_readHeader 312 = .ok (.aload_n 0, 1) := by decide +kernel
theorem dX1_readHeader_313 : decode cX1_readHeader 313 = .ok (.aload 5, 2) := by decide +kernel
theorem dX1_readHeader_315 : decode cX1_readHeader 315 = .ok (.invokevirtual 231, 3) := by decide +kernel
theorem dX1_readHeader_318 : decode cX1_readHeader 318 = .ok (.return_, 1) := by decide +kernel
def FX1_readHeader (G : GG) (M : DD) (a : Nat) (p0 : Int32) (p1 : Int32) : Option (DD) :=
  dr G 3 ((M.2 a 10)) fun b2 =>
  bnd (FJ7_fill_53178 G M ((M.2 b2 0)) ((0 : Int32))) fun y3 =>
  dr G 13 ((M.2 b2 0)) fun b4 =>
  chk (¬ (((18 : Int32)) < 0 ∨ G.2.2 b4 ≤ ((18 : Int32)).toNatClampNeg)) <|
  ltt (uI y3 b4 ((18 : Int32)).toNatClampNeg p0) fun M5 =>
  chk (¬ (((11 : Int32)) < 0 ∨ G.2.2 b4 ≤ ((11 : Int32)).toNatClampNeg)) <|
  ltt (uI M5 b4 ((11 : Int32)).toNatClampNeg p1) fun M6 =>
  dr G 5 ((M6.2 a 0)) fun b7 =>
  bnd (FX5_number G M6 b7 ((0 : Int32)) ((0 : Int32)) ((0 : Int64)) ((4294967295 : Int64))) fun y8 =>
  chk (¬ (((0 : Int32)) < 0 ∨ G.2.2 b4 ≤ ((0 : Int32)).toNatClampNeg)) <|
  ltt (uI y8.1 b4 ((0 : Int32)).toNatClampNeg y8.2) fun M9 =>
  dr G 5 ((M9.2 a 0)) fun b10 =>
  ltt (M9.1 b10 4) fun x11 =>
  bnd (FX1_unsigned G M9 a ((9 : Int32))) fun y12 =>
  ltt (y12.2 - y12.2 / ((5 : Int32)) * ((5 : Int32))) fun x13 =>
  chk (¬ (((1 : Int32)) < 0 ∨ G.2.2 b4 ≤ ((1 : Int32)).toNatClampNeg)) <|
  ltt (uI y12.1 b4 ((1 : Int32)).toNatClampNeg x13) fun M14 =>
  chk (¬ (((1 : Int32)) < 0 ∨ G.2.2 b4 ≤ ((1 : Int32)).toNatClampNeg)) <|
  ltt (M14.1 b4 ((1 : Int32)).toNatClampNeg) fun x15 =>
  bnd (if ((2 : Int32)) < x15 then (dr G 5 ((M14.2 a 0)) fun b88 =>
  ltt (M14.1 b88 4) fun x89 =>
  none) else
  (some (M14))) fun (y16 : DD) =>
  bnd (if p0 = ((5 : Int32)) then (chk (¬ (((1 : Int32)) < 0 ∨ G.2.2 b4 ≤ ((1 : Int32)).toNatClampNeg)) <|
  ltt (y16.1 b4 ((1 : Int32)).toNatClampNeg) fun x82 =>
  bnd (if x82 = ((2 : Int32)) then (some (y16)) else
  (dr G 5 ((y16.2 a 0)) fun b85 =>
  ltt (y16.1 b85 4) fun x86 =>
  none)) fun (y83 : DD) =>
  some (y83)) else
  (some (y16))) fun (y17 : DD) =>
  bnd (FX1_unsigned G y17 a ((3 : Int32))) fun y18 =>
  chk (¬ (((2 : Int32)) < 0 ∨ G.2.2 b4 ≤ ((2 : Int32)).toNatClampNeg)) <|
  ltt (uI y18.1 b4 ((2 : Int32)).toNatClampNeg y18.2) fun M19 =>
  chk (¬ (((2 : Int32)) < 0 ∨ G.2.2 b4 ≤ ((2 : Int32)).toNatClampNeg)) <|
  ltt (M19.1 b4 ((2 : Int32)).toNatClampNeg) fun x20 =>
  dr G 15 ((M19.2 a 6)) fun b21 =>
  chk (¬ (x20 < 0 ∨ G.2.2 b21 ≤ x20.toNatClampNeg)) <|
  dr G 13 ((M19.2 b21 x20.toNatClampNeg)) fun b22 =>
  chk (¬ (((0 : Int32)) < 0 ∨ G.2.2 b22 ≤ ((0 : Int32)).toNatClampNeg)) <|
  ltt (M19.1 b22 ((0 : Int32)).toNatClampNeg) fun x23 =>
  chk (¬ (((11 : Int32)) < 0 ∨ G.2.2 b22 ≤ ((11 : Int32)).toNatClampNeg)) <|
  ltt (M19.1 b22 ((11 : Int32)).toNatClampNeg) fun x24 =>
  bnd (if x24 = ((0 : Int32)) then (dr G 5 ((M19.2 a 0)) fun b79 =>
  ltt (M19.1 b79 4) fun x80 =>
  none) else
  (some (M19))) fun (y25 : DD) =>
  dr G 15 ((y25.2 a 5)) fun b26 =>
  chk (¬ (x23 < 0 ∨ G.2.2 b26 ≤ x23.toNatClampNeg)) <|
  dr G 13 ((y25.2 b26 x23.toNatClampNeg)) fun b27 =>
  chk (¬ (((23 : Int32)) < 0 ∨ G.2.2 b27 ≤ ((23 : Int32)).toNatClampNeg)) <|
  ltt (y25.1 b27 ((23 : Int32)).toNatClampNeg) fun x28 =>
  bnd (if x28 = ((0 : Int32)) then (dr G 5 ((y25.2 a 0)) fun b76 =>
  ltt (y25.1 b76 4) fun x77 =>
  none) else
  (some (y25))) fun (y29 : DD) =>
  bnd (if p0 = ((1 : Int32)) then (ltt (y29.1 a 8) fun x70 =>
  bnd (if x70 = x23 then (some (y29)) else
  (dr G 5 ((y29.2 a 0)) fun b73 =>
  ltt (y29.1 b73 4) fun x74 =>
  none)) fun (y71 : DD) =>
  some (y71)) else
  (some (y29))) fun (y30 : DD) =>
  bnd (if p0 = ((1 : Int32)) then (some ((y30.2 a 7))) else
  (dr G 15 ((y30.2 a 5)) fun b68 =>
  chk (¬ (x23 < 0 ∨ G.2.2 b68 ≤ x23.toNatClampNeg)) <|
  some ((y30.2 b68 x23.toNatClampNeg)))) fun (y31 : Option Nat) =>
  chk (¬ (((0 : Int32)) < 0 ∨ G.2.2 b4 ≤ ((0 : Int32)).toNatClampNeg)) <|
  ltt (y30.1 b4 ((0 : Int32)).toNatClampNeg) fun x32 =>
  bnd (if x32 < ((0 : Int32)) then (none) else
  (some (y30))) fun (y33 : DD) =>
  chk (¬ (((0 : Int32)) < 0 ∨ G.2.2 b4 ≤ ((0 : Int32)).toNatClampNeg)) <|
  ltt (y33.1 b4 ((0 : Int32)).toNatClampNeg) fun x34 =>
  dr G 13 y31 fun b35 =>
  chk (¬ (((0 : Int32)) < 0 ∨ G.2.2 b35 ≤ ((0 : Int32)).toNatClampNeg)) <|
  ltt (y33.1 b35 ((0 : Int32)).toNatClampNeg) fun x36 =>
  chk (¬ (((1 : Int32)) < 0 ∨ G.2.2 b35 ≤ ((1 : Int32)).toNatClampNeg)) <|
  ltt (y33.1 b35 ((1 : Int32)).toNatClampNeg) fun x37 =>
  ltt ((x36 * x37)) fun x38 =>
  bnd (if x34 < x38 then (some (y33)) else
  (none)) fun (y39 : DD) =>
  dr G 5 ((y39.2 a 0)) fun b40 =>
  ltt (y39.1 b40 2) fun x41 =>
  chk (¬ (((21 : Int32)) < 0 ∨ G.2.2 b4 ≤ ((21 : Int32)).toNatClampNeg)) <|
  ltt (uI y39 b4 ((21 : Int32)).toNatClampNeg x41) fun M42 =>
  chk (¬ (((2 : Int32)) < 0 ∨ G.2.2 b35 ≤ ((2 : Int32)).toNatClampNeg)) <|
  ltt (M42.1 b35 ((2 : Int32)).toNatClampNeg) fun x43 =>
  dr G 5 ((M42.2 a 0)) fun b44 =>
  bnd (FX5_fixed G M42 b44 ((0 : Int32)) x43) fun y45 =>
  chk (¬ (((3 : Int32)) < 0 ∨ G.2.2 b4 ≤ ((3 : Int32)).toNatClampNeg)) <|
  ltt (uI y45.1 b4 ((3 : Int32)).toNatClampNeg y45.2) fun M46 =>
  bnd (if p0 = ((5 : Int32)) then (chk (¬ (((3 : Int32)) < 0 ∨ G.2.2 b4 ≤ ((3 : Int32)).toNatClampNeg)) <|
  ltt (M46.1 b4 ((3 : Int32)).toNatClampNeg) fun x58 =>
  bnd (if x58 = ((0 : Int32)) then (some (M46)) else
  (dr G 5 ((M46.2 a 0)) fun b63 =>
  ltt (M46.1 b63 4) fun x64 =>
  none)) fun (y59 : DD) =>
  bnd (FX1_unsigned G y59 a ((65535 : Int32))) fun y60 =>
  chk (¬ (((4 : Int32)) < 0 ∨ G.2.2 b4 ≤ ((4 : Int32)).toNatClampNeg)) <|
  ltt (uI y60.1 b4 ((4 : Int32)).toNatClampNeg y60.2) fun M61 =>
  some (M61)) else
  (some (M46))) fun (y47 : DD) =>
  bnd (FX1_readOrder G y47 a y31 ((M19.2 b21 x20.toNatClampNeg))) fun y48 =>
  chk (¬ (((1 : Int32)) < 0 ∨ G.2.2 b4 ≤ ((1 : Int32)).toNatClampNeg)) <|
  ltt (y48.1 b4 ((1 : Int32)).toNatClampNeg) fun x49 =>
  bnd (if x49 = ((2 : Int32)) then (some (y48)) else
  (bnd (FX1_readLists G y48 a y31 ((M19.2 b21 x20.toNatClampNeg))) fun y56 =>
  some (y56))) fun (y50 : DD) =>
  bnd (if p1 = ((0 : Int32)) then (some (y50)) else
  (bnd (FX1_readMarks G y50 a p0) fun y54 =>
  some (y54))) fun (y51 : DD) =>
  bnd (FX1_readRules G y51 a ((M19.2 b21 x20.toNatClampNeg))) fun y52 =>
  some y52
set_option maxHeartbeats 4000000 in
set_option maxRecDepth 100000 in
theorem kX1_readHeader (l : Launch) (D : va_G) (ct : CT) (ad : Nat → Nat) (Z : Nat → Nat) (G : GG) (M : DD) (sz : Nat) (a : Nat) (p0 : Int32) (p1 : Int32) (y : DD) (hc : a < G.1) (hk : G.2.1 a = 1) (hF : FX1_readHeader G M a p0 p1 = some y) : Met l yX1_readHeader wsX1_readHeader ({ frames := 5, cells := 0, slots := 0, locals := 131 }) (va_Pc [.ref (ad a), .int p0, .int p1] (kB D ct ad Z G M sz)) (va_Qv (fun (_ : Unit) => True) (fun _ t => kE D ct ad G (wA ad G sz) y t) (wA ad G sz)) 0 0 (wA ad G sz) := by
  refine Met.ofW (cc := cX1_readHeader) (maxL := 8) (ret := none) (by decide) rfl ?_
  intro p e s m args below meth c s₁ B hml hv
  obtain ⟨rfl, hsz, hP, hK, hD0, hZ, hN⟩ := hv
  have hx := B.exec
  have hb := B.bytes
  have hr := B.returns
  have hts := atoms_spec (ws := wsX1_readHeader) B.pre
  have hown : s.vm.findClass RX1 = some m.cls := findClass_of_methodNamed B.named
  have hlocks := B.notSynchronized
  subst hsz
  have hD := wD_self (sz := s.heap.size) hD0
  have hA9 : ∀ q, s.heap.size ≤ q → wA ad G s.heap.size q := fun q h => Or.inr h
  generalize hAe : wA ad G s.heap.size = A at hD hA9 hZ ⊢
  have hS : va_S A s.heap s.heap [] := va_S.rf
  have hl := lv_entry ([.ref (ad a), .int p0, .int p1]) (n := 8) (Nat.le_of_ble_eq_true rfl)
  rw [lg_entry_eq]
  generalize (lg_sl ([.ref (ad a), .int p0, .int p1]) ++ List.replicate (8 - (lg_sl ([.ref (ad a), .int p0, .int p1])).length) Slot.unset).toArray = ls at hl ⊢
  have hl : lv_has ls 8 [(0, .ref (ad a)), (1, .int p0), (2, .int p1)] := hl
  unfold FX1_readHeader at hF
  refine lv_aload_n hx hb dX1_readHeader_0 rfl (lv_at hl 0 rfl) ?_
  refine va_get (D := D) (ci := 1) (v := va_re ad (M.2 a 10)) (C := RX1) (T := TX1) (N := 22) hx hb hts (by decide +kernel) hown hK hP a (wld_o ct ad G M hc hk (by decide)) rfl 10 (by decide) (hts (.fieldLink RX1 68 "VideoSuite$Decoder" "head" "LVideoSuite$Header;") (by decide +kernel)) (fun _ h9 => h9) rfl dX1_readHeader_1 ?_
  obtain ⟨b2, ho2, hc2, hk2, hF⟩ := dr_some hF
  refine W_st (st' := [.ref (ad b2)]) (by rw [va_some ho2]) ?_
  refine va_get (D := D) (ci := 3) (v := va_re ad (M.2 b2 0)) (C := RX3) (T := TX3) (N := 4) hx hb hts (by decide +kernel) hown hK hP b2 (wld_o ct ad G M hc2 hk2 (by decide)) rfl 0 (by decide) (hts (.fieldLink RX1 212 "VideoSuite$Header" "v" "[I") (by decide +kernel)) (fun _ h9 => h9) rfl dX1_readHeader_4 ?_
  refine lv_astoreq_n (lv' := [(3, va_re ad (M.2 b2 0)), (0, .ref (ad a)), (1, .int p0), (2, .int p1)]) hx hb dX1_readHeader_7 rfl hl (by decide) rfl (fun ls hl => ?_)
  refine lv_aloadq_n hx hb dX1_readHeader_8 rfl (lv_at hl 0 rfl) ?_
  refine lv_iconst (v := (0 : Int32)) hx hb dX1_readHeader_9 (by decide) ?_
  obtain ⟨y3, hy3, hF⟩ := bnd_some hF
  have hf9 := wA_in hD hA9 hS
  refine va_callv (va_runS (As := [va_re ad (M.2 b2 0), .int (0 : Int32)]) (rest := []) ⟨hx, hb, hml, hown, hts⟩ (kJ7_fill_53178 l D ct ad Z G M s.heap.size ((M.2 b2 0)) ((0 : Int32)) y3 hy3) (va_cwS 2 hts gX1_readHeader_J7_fill_53178 rfl rfl rfl (by decide +kernel) ⟨Nat.le_of_ble_eq_true rfl, Nat.le_of_ble_eq_true rfl⟩) ⟨fun a U g mk q => by obtain ⟨q0, q1, qP, qK, qD, qZ, qN⟩ := q; exact ⟨q0, q1, qP, va_K.moved (u := U) (U := U.calling g mk a) (Vm.Alike.refl U.vm) qK, qD, sF.moved (u := U) (U := U.calling g mk a) (Vm.Alike.refl U.vm) qZ, nF.same rfl qN⟩, fun U hU hW => ⟨rfl, by rw [hU], by rw [hU]; exact hP, va_K.moved hW.alike hK, hD.weaken (fun _ _ _ _ => trivial), by rw [hU]; exact ((hZ.kept hS.2.1).narrow hf9).moved hW.alike, hN.warm hW⟩⟩ rfl rfl hl.1 rfl (lv_room (Nat.le_of_ble_eq_true rfl)) dX1_readHeader_10 ⟨(Nat.zero_le _), (Nat.zero_le _)⟩) hS (fun q _ h => hf9 q h) hf9 (fun u t H locs ht hvm hw hB hz1 hk1 hS => ?_)
  obtain ⟨hP, hK9, hD9⟩ := hB
  rw [ht] at hP
  have hD := hD9.weaken (fun _ q _ h => hf9 q.1 h)
  refine lv_aloadq_n hx hb dX1_readHeader_13 rfl (lv_at hl 0 rfl) ?_
  refine lv_bipush (v := (18 : Int32)) hx hb dX1_readHeader_14 (by decide) ?_
  refine lv_iload_n hx hb dX1_readHeader_16 rfl (lv_at hl 2 rfl) ?_
  obtain ⟨b4, ho4, hc4, hk4, hF⟩ := dr_some hF
  refine W_st (st' := [.int p0, .int (18 : Int32), .ref (ad b4)]) (by rw [va_some ho4]) ?_
  obtain ⟨hvc, hF⟩ := chk_some hF
  refine va_iast hx hb hK hP hD hS b4 1 (wld_i ct ad G y3 hc4 hk4) rfl hvc dX1_readHeader_17 (fun H locs hP hD hS => ?_)
  obtain ⟨M5, eM5, hF⟩ := ltt_some hF
  rw [set_i ct ad G y3 hc4 hk4, ← eM5] at hP hD
  refine lv_aloadq_n hx hb dX1_readHeader_18 rfl (lv_at hl 0 rfl) ?_
  refine lv_bipush (v := (11 : Int32)) hx hb dX1_readHeader_19 (by decide) ?_
  refine lv_iload_n hx hb dX1_readHeader_21 rfl (lv_at hl 3 rfl) ?_
  refine W_st (st' := [.int p1, .int (11 : Int32), .ref (ad b4)]) (by rw [va_some ho4]) ?_
  obtain ⟨hvc, hF⟩ := chk_some hF
  refine va_iast hx hb hK hP hD hS b4 1 (wld_i ct ad G M5 hc4 hk4) rfl hvc dX1_readHeader_22 (fun H locs hP hD hS => ?_)
  obtain ⟨M6, eM6, hF⟩ := ltt_some hF
  rw [set_i ct ad G M5 hc4 hk4, ← eM6] at hP hD
  refine lv_aloadq_n hx hb dX1_readHeader_23 rfl (lv_at hl 0 rfl) ?_
  refine lv_iconst (v := (0 : Int32)) hx hb dX1_readHeader_24 (by decide) ?_
  refine lv_aload_n hx hb dX1_readHeader_25 rfl (lv_at hl 1 rfl) ?_
  refine va_get (D := D) (ci := 1) (v := va_re ad (M6.2 a 0)) (C := RX1) (T := TX1) (N := 22) hx hb hts (by decide +kernel) hown hK hP a (wld_o ct ad G M6 hc hk (by decide)) rfl 0 (by decide) (hts (.fieldLink RX1 12 "VideoSuite$Decoder" "reader" "LVideoSuite$Reader;") (by decide +kernel)) (fun _ h9 => h9) rfl dX1_readHeader_26 ?_
  refine lv_iconst (v := (0 : Int32)) hx hb dX1_readHeader_29 (by decide) ?_
  refine lv_iconst (v := (0 : Int32)) hx hb dX1_readHeader_30 (by decide) ?_
  refine lv_lconst (v := (0 : Int64)) hx hb dX1_readHeader_31 rfl ?_
  refine lv_ldc2 (v := (4294967295 : Int64)) hx hb hown (hts (.constantLong RX1 215 (4294967295 : Int64)) (by decide +kernel)) dX1_readHeader_32 ?_
  obtain ⟨b7, ho7, hc7, hk7, hF⟩ := dr_some hF
  refine W_st (st' := [.long (4294967295 : Int64), .long (0 : Int64), .int (0 : Int32), .int (0 : Int32), .ref (ad b7), .int (0 : Int32), va_re ad (M.2 b2 0)]) (by rw [va_some ho7]) ?_
  obtain ⟨y8, hy8, hF⟩ := bnd_some hF
  have hf9 := wA_in hD hA9 hS
  refine va_calli (va_runV (As := [.int (0 : Int32), .int (0 : Int32), .long (0 : Int64), .long (4294967295 : Int64)]) (rest := [.int (0 : Int32), va_re ad (M.2 b2 0)]) ⟨hx, hb, hml, hown, hts⟩ (kX5_number l D ct ad Z G M6 H.size b7 ((0 : Int32)) ((0 : Int32)) ((0 : Int64)) ((4294967295 : Int64)) y8 hc7 hk7 hy8) (cwV 4 hts gX1_readHeader_X5_number rfl rfl rfl (by decide +kernel) ⟨Nat.le_of_ble_eq_true rfl, Nat.le_of_ble_eq_true rfl⟩) ⟨fun a U g mk q => by obtain ⟨q0, q1, qP, qK, qD, qZ, qN⟩ := q; exact ⟨q0, q1, qP, va_K.moved (u := U) (U := U.calling g mk a) (Vm.Alike.refl U.vm) qK, qD, sF.moved (u := U) (U := U.calling g mk a) (Vm.Alike.refl U.vm) qZ, nF.same rfl qN⟩, va_recv hK hP (ci := 5) (q0 := b7) rfl (wld_o ct ad G M6 hc7 hk7 (by decide)), fun U hU hW => ⟨rfl, by rw [hU], by rw [hU]; exact hP, va_K.moved hW.alike hK, hD.weaken (fun _ _ _ _ => trivial), by rw [hU]; exact ((hZ.kept hS.2.1).narrow hf9).moved hW.alike, hN.warm hW⟩⟩ rfl rfl hl.1 rfl (lv_room (by simp only [List.map, va_re_cat]; exact Nat.le_of_ble_eq_true rfl)) dX1_readHeader_35 ⟨(Nat.zero_le _), (Nat.zero_le _)⟩) hS (fun q _ h => hf9 q h) hf9 (fun r u t H locs ht hvm hw hB hz1 hk1 hS => ?_)
  obtain ⟨hP, hK9, hD9⟩ := hB
  rw [ht] at hP
  try dsimp only at hw
  subst hw
  have hD := hD9.weaken (fun _ q _ h => hf9 q.1 h)
  refine W_st (st' := [.int y8.2, .int (0 : Int32), .ref (ad b4)]) (by rw [va_some ho4]) ?_
  obtain ⟨hvc, hF⟩ := chk_some hF
  refine va_iast hx hb hK hP hD hS b4 1 (wld_i ct ad G y8.1 hc4 hk4) rfl hvc dX1_readHeader_38 (fun H locs hP hD hS => ?_)
  obtain ⟨M9, eM9, hF⟩ := ltt_some hF
  rw [set_i ct ad G y8.1 hc4 hk4, ← eM9] at hP hD
  refine lv_aload_n hx hb dX1_readHeader_39 rfl (lv_at hl 1 rfl) ?_
  refine va_get (D := D) (ci := 1) (v := va_re ad (M9.2 a 0)) (C := RX1) (T := TX1) (N := 22) hx hb hts (by decide +kernel) hown hK hP a (wld_o ct ad G M9 hc hk (by decide)) rfl 0 (by decide) (hts (.fieldLink RX1 12 "VideoSuite$Decoder" "reader" "LVideoSuite$Reader;") (by decide +kernel)) (fun _ h9 => h9) rfl dX1_readHeader_40 ?_
  obtain ⟨b10, ho10, hc10, hk10, hF⟩ := dr_some hF
  refine W_st (st' := [.ref (ad b10)]) (by rw [va_some ho10]) ?_
  refine va_get (D := D) (ci := 5) (v := .int (M9.1 b10 4)) (C := RX5) (T := TX5) (N := 17) hx hb hts (by decide +kernel) hown hK hP b10 (wld_o ct ad G M9 hc10 hk10 (by decide)) rfl 4 (by decide) (hts (.fieldLink RX1 194 "VideoSuite$Reader" "begin" "I") (by decide +kernel)) (fun _ h9 => h9) rfl dX1_readHeader_43 ?_
  obtain ⟨x11, ex11, hF⟩ := ltt_some hF
  refine lv_topi (fun zx11 ezx11 => ?_)
  obtain rfl : x11 = zx11 := ex11.trans ezx11.symm
  refine lv_istore (lv' := [(4, .int x11), (3, va_re ad (M.2 b2 0)), (0, .ref (ad a)), (1, .int p0), (2, .int p1)]) hx hb dX1_readHeader_46 hl (by decide) (by generalize ((M.2 b2 0)) = o9; cases o9 <;> rfl) (fun ls hl => ?_)
  refine lv_aloadq_n hx hb dX1_readHeader_48 rfl (lv_at hl 1 rfl) ?_
  refine lv_iconst (v := (1 : Int32)) hx hb dX1_readHeader_49 (by decide) ?_
  refine lv_aload_n hx hb dX1_readHeader_50 rfl (lv_at hl 2 rfl) ?_
  refine lv_bipush (v := (9 : Int32)) hx hb dX1_readHeader_51 (by decide) ?_
  obtain ⟨y12, hy12, hF⟩ := bnd_some hF
  have hf9 := wA_in hD hA9 hS
  refine va_calli (va_runV (As := [.int (9 : Int32)]) (rest := [.int (1 : Int32), va_re ad (M.2 b2 0)]) ⟨hx, hb, hml, hown, hts⟩ (kX1_unsigned l D ct ad Z G M9 H.size a ((9 : Int32)) y12 hc hk hy12) (cwV 1 hts gX1_readHeader_X1_unsigned rfl rfl rfl (by decide +kernel) ⟨Nat.le_of_ble_eq_true rfl, Nat.le_of_ble_eq_true rfl⟩) ⟨fun a U g mk q => by obtain ⟨q0, q1, qP, qK, qD, qZ, qN⟩ := q; exact ⟨q0, q1, qP, va_K.moved (u := U) (U := U.calling g mk a) (Vm.Alike.refl U.vm) qK, qD, sF.moved (u := U) (U := U.calling g mk a) (Vm.Alike.refl U.vm) qZ, nF.same rfl qN⟩, va_recv hK hP (ci := 1) (q0 := a) rfl (wld_o ct ad G M9 hc hk (by decide)), fun U hU hW => ⟨rfl, by rw [hU], by rw [hU]; exact hP, va_K.moved hW.alike hK, hD.weaken (fun _ _ _ _ => trivial), by rw [hU]; exact ((hZ.kept hS.2.1).narrow hf9).moved hW.alike, hN.warm hW⟩⟩ rfl rfl hl.1 rfl (lv_room (by simp only [List.map, va_re_cat]; exact Nat.le_of_ble_eq_true rfl)) dX1_readHeader_53 ⟨(Nat.zero_le _), (Nat.zero_le _)⟩) hS (fun q _ h => hf9 q h) hf9 (fun r u t H locs ht hvm hw hB hz1 hk1 hS => ?_)
  obtain ⟨hP, hK9, hD9⟩ := hB
  rw [ht] at hP
  try dsimp only at hw
  subst hw
  have hD := hD9.weaken (fun _ q _ h => hf9 q.1 h)
  refine lv_iconst (v := (5 : Int32)) hx hb dX1_readHeader_56 (by decide) ?_
  refine lv_irem hx hb dX1_readHeader_57 (by decide) ?_
  obtain ⟨x13, ex13, hF⟩ := ltt_some hF
  refine lv_topi (fun zx13 ezx13 => ?_)
  obtain rfl : x13 = zx13 := ex13.trans ezx13.symm
  refine W_st (st' := [.int x13, .int (1 : Int32), .ref (ad b4)]) (by rw [va_some ho4]) ?_
  obtain ⟨hvc, hF⟩ := chk_some hF
  refine va_iast hx hb hK hP hD hS b4 1 (wld_i ct ad G y12.1 hc4 hk4) rfl hvc dX1_readHeader_58 (fun H locs hP hD hS => ?_)
  obtain ⟨M14, eM14, hF⟩ := ltt_some hF
  rw [set_i ct ad G y12.1 hc4 hk4, ← eM14] at hP hD
  refine lv_aloadq_n hx hb dX1_readHeader_59 rfl (lv_at hl 1 rfl) ?_
  refine lv_iconst (v := (1 : Int32)) hx hb dX1_readHeader_60 (by decide) ?_
  refine W_st (st' := [.int (1 : Int32), .ref (ad b4)]) (by rw [va_some ho4]) ?_
  obtain ⟨hvc, hF⟩ := chk_some hF
  refine va_iald hx hb hK hP b4 1 (wld_i ct ad G M14 hc4 hk4) rfl hvc dX1_readHeader_61 ?_
  obtain ⟨x15, ex15, hF⟩ := ltt_some hF
  refine lv_topi (fun zx15 ezx15 => ?_)
  obtain rfl : x15 = zx15 := ex15.trans ezx15.symm
  refine lv_iconst (v := (2 : Int32)) hx hb dX1_readHeader_62 (by decide) ?_
  obtain ⟨y16, hy16, hF⟩ := bnd_some hF
  have J16 : ∀ (H : Heap) (locs : List Loc) (ls : Array Slot), va_P D classes (wld ct ad G y16) H → va_D A (wld ct ad G y16) → va_S A s.heap H locs → lv_has ls 8 [(4, .int x11), (3, va_re ad (M.2 b2 0)), (0, .ref (ad a)), (1, .int p0), (2, .int p1)] → W p l e (headSpec wsX1_readHeader ({ frames := 5, cells := 0, slots := 0, locals := 131 })).room s m ([.ref (ad a), .int p0, .int p1] : List Value).toArray below meth c H locs 0 0 (MQ below (va_Qv (fun (_ : Unit) => True) (fun _ t => kE D ct ad G A y t) A) ([.ref (ad a), .int p0, .int p1] : List Value).toArray s 0 0 A) (F0 m 66 ls []) := by
    intro H locs ls hP hD hS hl
    refine lv_iload_n hx hb dX1_readHeader_66 rfl (lv_at hl 3 rfl) ?_
    refine lv_iconst (v := (5 : Int32)) hx hb dX1_readHeader_67 (by decide) ?_
    obtain ⟨y17, hy17, hF⟩ := bnd_some hF
    have J17 : ∀ (H : Heap) (locs : List Loc) (ls : Array Slot), va_P D classes (wld ct ad G y17) H → va_D A (wld ct ad G y17) → va_S A s.heap H locs → lv_has ls 8 [(4, .int x11), (3, va_re ad (M.2 b2 0)), (0, .ref (ad a)), (1, .int p0), (2, .int p1)] → W p l e (headSpec wsX1_readHeader ({ frames := 5, cells := 0, slots := 0, locals := 131 })).room s m ([.ref (ad a), .int p0, .int p1] : List Value).toArray below meth c H locs 0 0 (MQ below (va_Qv (fun (_ : Unit) => True) (fun _ t => kE D ct ad G A y t) A) ([.ref (ad a), .int p0, .int p1] : List Value).toArray s 0 0 A) (F0 m 93 ls []) := by
      intro H locs ls hP hD hS hl
      refine lv_aloadq_n hx hb dX1_readHeader_93 rfl (lv_at hl 1 rfl) ?_
      refine lv_iconst (v := (2 : Int32)) hx hb dX1_readHeader_94 (by decide) ?_
      refine lv_aload_n hx hb dX1_readHeader_95 rfl (lv_at hl 2 rfl) ?_
      refine lv_iconst (v := (3 : Int32)) hx hb dX1_readHeader_96 (by decide) ?_
      obtain ⟨y18, hy18, hF⟩ := bnd_some hF
      have hf9 := wA_in hD hA9 hS
      refine va_calli (va_runV (As := [.int (3 : Int32)]) (rest := [.int (2 : Int32), va_re ad (M.2 b2 0)]) ⟨hx, hb, hml, hown, hts⟩ (kX1_unsigned l D ct ad Z G y17 H.size a ((3 : Int32)) y18 hc hk hy18) (cwV 1 hts gX1_readHeader_X1_unsigned rfl rfl rfl (by decide +kernel) ⟨Nat.le_of_ble_eq_true rfl, Nat.le_of_ble_eq_true rfl⟩) ⟨fun a U g mk q => by obtain ⟨q0, q1, qP, qK, qD, qZ, qN⟩ := q; exact ⟨q0, q1, qP, va_K.moved (u := U) (U := U.calling g mk a) (Vm.Alike.refl U.vm) qK, qD, sF.moved (u := U) (U := U.calling g mk a) (Vm.Alike.refl U.vm) qZ, nF.same rfl qN⟩, va_recv hK hP (ci := 1) (q0 := a) rfl (wld_o ct ad G y17 hc hk (by decide)), fun U hU hW => ⟨rfl, by rw [hU], by rw [hU]; exact hP, va_K.moved hW.alike hK, hD.weaken (fun _ _ _ _ => trivial), by rw [hU]; exact ((hZ.kept hS.2.1).narrow hf9).moved hW.alike, hN.warm hW⟩⟩ rfl rfl hl.1 rfl (lv_room (by simp only [List.map, va_re_cat]; exact Nat.le_of_ble_eq_true rfl)) dX1_readHeader_97 ⟨(Nat.zero_le _), (Nat.zero_le _)⟩) hS (fun q _ h => hf9 q h) hf9 (fun r u t H locs ht hvm hw hB hz1 hk1 hS => ?_)
      obtain ⟨hP, hK9, hD9⟩ := hB
      rw [ht] at hP
      try dsimp only at hw
      subst hw
      have hD := hD9.weaken (fun _ q _ h => hf9 q.1 h)
      refine W_st (st' := [.int y18.2, .int (2 : Int32), .ref (ad b4)]) (by rw [va_some ho4]) ?_
      obtain ⟨hvc, hF⟩ := chk_some hF
      refine va_iast hx hb hK hP hD hS b4 1 (wld_i ct ad G y18.1 hc4 hk4) rfl hvc dX1_readHeader_100 (fun H locs hP hD hS => ?_)
      obtain ⟨M19, eM19, hF⟩ := ltt_some hF
      rw [set_i ct ad G y18.1 hc4 hk4, ← eM19] at hP hD
      refine lv_aload_n hx hb dX1_readHeader_101 rfl (lv_at hl 2 rfl) ?_
      refine va_get (D := D) (ci := 1) (v := va_re ad (M19.2 a 6)) (C := RX1) (T := TX1) (N := 22) hx hb hts (by decide +kernel) hown hK hP a (wld_o ct ad G M19 hc hk (by decide)) rfl 6 (by decide) (hts (.fieldLink RX1 51 "VideoSuite$Decoder" "parameters" "[[I") (by decide +kernel)) (fun _ h9 => h9) rfl dX1_readHeader_102 ?_
      refine lv_aloadq_n hx hb dX1_readHeader_105 rfl (lv_at hl 1 rfl) ?_
      refine lv_iconst (v := (2 : Int32)) hx hb dX1_readHeader_106 (by decide) ?_
      refine W_st (st' := [.int (2 : Int32), .ref (ad b4), va_re ad (M19.2 a 6)]) (by rw [va_some ho4]) ?_
      obtain ⟨hvc, hF⟩ := chk_some hF
      refine va_iald hx hb hK hP b4 1 (wld_i ct ad G M19 hc4 hk4) rfl hvc dX1_readHeader_107 ?_
      obtain ⟨x20, ex20, hF⟩ := ltt_some hF
      refine lv_topi (fun zx20 ezx20 => ?_)
      obtain rfl : x20 = zx20 := ex20.trans ezx20.symm
      obtain ⟨b21, ho21, hc21, hk21, hF⟩ := dr_some hF
      refine W_st (st' := [.int x20, .ref (ad b21)]) (by rw [va_some ho21]) ?_
      obtain ⟨hvc, hF⟩ := chk_some hF
      refine ld_g hx hb hK hP hc21 hk21 hvc dX1_readHeader_108 ?_
      refine lv_astoreq (lv' := [(5, va_re ad (M19.2 b21 x20.toNatClampNeg)), (4, .int x11), (3, va_re ad (M.2 b2 0)), (0, .ref (ad a)), (1, .int p0), (2, .int p1)]) hx hb dX1_readHeader_109 hl (by decide) rfl (fun ls hl => ?_)
      refine lv_aloadq hx hb dX1_readHeader_111 (lv_at hl 0 rfl) ?_
      refine lv_iconst (v := (0 : Int32)) hx hb dX1_readHeader_113 (by decide) ?_
      obtain ⟨b22, ho22, hc22, hk22, hF⟩ := dr_some hF
      refine W_st (st' := [.int (0 : Int32), .ref (ad b22)]) (by rw [va_some ho22]) ?_
      obtain ⟨hvc, hF⟩ := chk_some hF
      refine va_iald hx hb hK hP b22 1 (wld_i ct ad G M19 hc22 hk22) rfl hvc dX1_readHeader_114 ?_
      obtain ⟨x23, ex23, hF⟩ := ltt_some hF
      refine lv_topi (fun zx23 ezx23 => ?_)
      obtain rfl : x23 = zx23 := ex23.trans ezx23.symm
      refine lv_istore (lv' := [(6, .int x23), (5, va_re ad (M19.2 b21 x20.toNatClampNeg)), (4, .int x11), (3, va_re ad (M.2 b2 0)), (0, .ref (ad a)), (1, .int p0), (2, .int p1)]) hx hb dX1_readHeader_115 hl (by decide) (by generalize ((M19.2 b21 x20.toNatClampNeg)) = o9; cases o9 <;> rfl) (fun ls hl => ?_)
      refine lv_aloadq hx hb dX1_readHeader_117 (lv_at hl 1 rfl) ?_
      refine lv_bipush (v := (11 : Int32)) hx hb dX1_readHeader_119 (by decide) ?_
      refine W_st (st' := [.int (11 : Int32), .ref (ad b22)]) (by rw [va_some ho22]) ?_
      obtain ⟨hvc, hF⟩ := chk_some hF
      refine va_iald hx hb hK hP b22 1 (wld_i ct ad G M19 hc22 hk22) rfl hvc dX1_readHeader_121 ?_
      obtain ⟨x24, ex24, hF⟩ := ltt_some hF
      refine lv_topi (fun zx24 ezx24 => ?_)
      obtain rfl : x24 = zx24 := ex24.trans ezx24.symm
      obtain ⟨y25, hy25, hF⟩ := bnd_some hF
      have J25 : ∀ (H : Heap) (locs : List Loc) (ls : Array Slot), va_P D classes (wld ct ad G y25) H → va_D A (wld ct ad G y25) → va_S A s.heap H locs → lv_has ls 8 [(6, .int x23), (5, va_re ad (M19.2 b21 x20.toNatClampNeg)), (4, .int x11), (3, va_re ad (M.2 b2 0)), (0, .ref (ad a)), (1, .int p0), (2, .int p1)] → W p l e (headSpec wsX1_readHeader ({ frames := 5, cells := 0, slots := 0, locals := 131 })).room s m ([.ref (ad a), .int p0, .int p1] : List Value).toArray below meth c H locs 0 0 (MQ below (va_Qv (fun (_ : Unit) => True) (fun _ t => kE D ct ad G A y t) A) ([.ref (ad a), .int p0, .int p1] : List Value).toArray s 0 0 A) (F0 m 125 ls []) := by
        intro H locs ls hP hD hS hl
        refine lv_aload_n hx hb dX1_readHeader_125 rfl (lv_at hl 4 rfl) ?_
        refine va_get (D := D) (ci := 1) (v := va_re ad (y25.2 a 5)) (C := RX1) (T := TX1) (N := 22) hx hb hts (by decide +kernel) hown hK hP a (wld_o ct ad G y25 hc hk (by decide)) rfl 5 (by decide) (hts (.fieldLink RX1 48 "VideoSuite$Decoder" "sequences" "[[I") (by decide +kernel)) (fun _ h9 => h9) rfl dX1_readHeader_126 ?_
        refine lv_iload hx hb dX1_readHeader_129 (lv_at hl 0 rfl) ?_
        obtain ⟨b26, ho26, hc26, hk26, hF⟩ := dr_some hF
        refine W_st (st' := [.int x23, .ref (ad b26)]) (by rw [va_some ho26]) ?_
        obtain ⟨hvc, hF⟩ := chk_some hF
        refine ld_g hx hb hK hP hc26 hk26 hvc dX1_readHeader_131 ?_
        refine lv_bipush (v := (23 : Int32)) hx hb dX1_readHeader_132 (by decide) ?_
        obtain ⟨b27, ho27, hc27, hk27, hF⟩ := dr_some hF
        refine W_st (st' := [.int (23 : Int32), .ref (ad b27)]) (by rw [va_some ho27]) ?_
        obtain ⟨hvc, hF⟩ := chk_some hF
        refine va_iald hx hb hK hP b27 1 (wld_i ct ad G y25 hc27 hk27) rfl hvc dX1_readHeader_134 ?_
        obtain ⟨x28, ex28, hF⟩ := ltt_some hF
        refine lv_topi (fun zx28 ezx28 => ?_)
        obtain rfl : x28 = zx28 := ex28.trans ezx28.symm
        obtain ⟨y29, hy29, hF⟩ := bnd_some hF
        have J29 : ∀ (H : Heap) (locs : List Loc) (ls : Array Slot), va_P D classes (wld ct ad G y29) H → va_D A (wld ct ad G y29) → va_S A s.heap H locs → lv_has ls 8 [(6, .int x23), (5, va_re ad (M19.2 b21 x20.toNatClampNeg)), (4, .int x11), (3, va_re ad (M.2 b2 0)), (0, .ref (ad a)), (1, .int p0), (2, .int p1)] → W p l e (headSpec wsX1_readHeader ({ frames := 5, cells := 0, slots := 0, locals := 131 })).room s m ([.ref (ad a), .int p0, .int p1] : List Value).toArray below meth c H locs 0 0 (MQ below (va_Qv (fun (_ : Unit) => True) (fun _ t => kE D ct ad G A y t) A) ([.ref (ad a), .int p0, .int p1] : List Value).toArray s 0 0 A) (F0 m 138 ls []) := by
          intro H locs ls hP hD hS hl
          refine lv_iload_n hx hb dX1_readHeader_138 rfl (lv_at hl 5 rfl) ?_
          refine lv_iconst (v := (1 : Int32)) hx hb dX1_readHeader_139 (by decide) ?_
          obtain ⟨y30, hy30, hF⟩ := bnd_some hF
          have J30 : ∀ (H : Heap) (locs : List Loc) (ls : Array Slot), va_P D classes (wld ct ad G y30) H → va_D A (wld ct ad G y30) → va_S A s.heap H locs → lv_has ls 8 [(6, .int x23), (5, va_re ad (M19.2 b21 x20.toNatClampNeg)), (4, .int x11), (3, va_re ad (M.2 b2 0)), (0, .ref (ad a)), (1, .int p0), (2, .int p1)] → W p l e (headSpec wsX1_readHeader ({ frames := 5, cells := 0, slots := 0, locals := 131 })).room s m ([.ref (ad a), .int p0, .int p1] : List Value).toArray below meth c H locs 0 0 (MQ below (va_Qv (fun (_ : Unit) => True) (fun _ t => kE D ct ad G A y t) A) ([.ref (ad a), .int p0, .int p1] : List Value).toArray s 0 0 A) (F0 m 167 ls []) := by
            intro H locs ls hP hD hS hl
            refine lv_iload_n hx hb dX1_readHeader_167 rfl (lv_at hl 5 rfl) ?_
            refine lv_iconst (v := (1 : Int32)) hx hb dX1_readHeader_168 (by decide) ?_
            obtain ⟨y31, hy31, hF⟩ := bnd_some hF
            have J31 : ∀ (H : Heap) (locs : List Loc) (ls : Array Slot), va_P D classes (wld ct ad G y30) H → va_D A (wld ct ad G y30) → va_S A s.heap H locs → lv_has ls 8 [(6, .int x23), (5, va_re ad (M19.2 b21 x20.toNatClampNeg)), (4, .int x11), (3, va_re ad (M.2 b2 0)), (0, .ref (ad a)), (1, .int p0), (2, .int p1)] → W p l e (headSpec wsX1_readHeader ({ frames := 5, cells := 0, slots := 0, locals := 131 })).room s m ([.ref (ad a), .int p0, .int p1] : List Value).toArray below meth c H locs 0 0 (MQ below (va_Qv (fun (_ : Unit) => True) (fun _ t => kE D ct ad G A y t) A) ([.ref (ad a), .int p0, .int p1] : List Value).toArray s 0 0 A) (F0 m 186 ls [va_re ad y31]) := by
              intro H locs ls hP hD hS hl
              refine lv_astoreq (lv' := [(7, va_re ad y31), (6, .int x23), (5, va_re ad (M19.2 b21 x20.toNatClampNeg)), (4, .int x11), (3, va_re ad (M.2 b2 0)), (0, .ref (ad a)), (1, .int p0), (2, .int p1)]) hx hb dX1_readHeader_186 hl (by decide) rfl (fun ls hl => ?_)
              refine lv_aloadq_n hx hb dX1_readHeader_188 rfl (lv_at hl 4 rfl) ?_
              refine lv_iconst (v := (0 : Int32)) hx hb dX1_readHeader_189 (by decide) ?_
              refine W_st (st' := [.int (0 : Int32), .ref (ad b4)]) (by rw [va_some ho4]) ?_
              obtain ⟨hvc, hF⟩ := chk_some hF
              refine va_iald hx hb hK hP b4 1 (wld_i ct ad G y30 hc4 hk4) rfl hvc dX1_readHeader_190 ?_
              obtain ⟨x32, ex32, hF⟩ := ltt_some hF
              refine lv_topi (fun zx32 ezx32 => ?_)
              obtain rfl : x32 = zx32 := ex32.trans ezx32.symm
              obtain ⟨y33, hy33, hF⟩ := bnd_some hF
              have J33 : ∀ (H : Heap) (locs : List Loc) (ls : Array Slot), va_P D classes (wld ct ad G y33) H → va_D A (wld ct ad G y33) → va_S A s.heap H locs → lv_has ls 8 [(7, va_re ad y31), (6, .int x23), (5, va_re ad (M19.2 b21 x20.toNatClampNeg)), (4, .int x11), (3, va_re ad (M.2 b2 0)), (0, .ref (ad a)), (1, .int p0), (2, .int p1)] → W p l e (headSpec wsX1_readHeader ({ frames := 5, cells := 0, slots := 0, locals := 131 })).room s m ([.ref (ad a), .int p0, .int p1] : List Value).toArray below meth c H locs 0 0 (MQ below (va_Qv (fun (_ : Unit) => True) (fun _ t => kE D ct ad G A y t) A) ([.ref (ad a), .int p0, .int p1] : List Value).toArray s 0 0 A) (F0 m 194 ls []) := by
                intro H locs ls hP hD hS hl
                refine lv_aloadq_n hx hb dX1_readHeader_194 rfl (lv_at hl 4 rfl) ?_
                refine lv_iconst (v := (0 : Int32)) hx hb dX1_readHeader_195 (by decide) ?_
                refine W_st (st' := [.int (0 : Int32), .ref (ad b4)]) (by rw [va_some ho4]) ?_
                obtain ⟨hvc, hF⟩ := chk_some hF
                refine va_iald hx hb hK hP b4 1 (wld_i ct ad G y33 hc4 hk4) rfl hvc dX1_readHeader_196 ?_
                obtain ⟨x34, ex34, hF⟩ := ltt_some hF
                refine lv_topi (fun zx34 ezx34 => ?_)
                obtain rfl : x34 = zx34 := ex34.trans ezx34.symm
                refine lv_aloadq hx hb dX1_readHeader_197 (lv_at hl 0 rfl) ?_
                refine lv_iconst (v := (0 : Int32)) hx hb dX1_readHeader_199 (by decide) ?_
                obtain ⟨b35, ho35, hc35, hk35, hF⟩ := dr_some hF
                refine W_st (st' := [.int (0 : Int32), .ref (ad b35), .int x34]) (by rw [va_some ho35]) ?_
                obtain ⟨hvc, hF⟩ := chk_some hF
                refine va_iald hx hb hK hP b35 1 (wld_i ct ad G y33 hc35 hk35) rfl hvc dX1_readHeader_200 ?_
                obtain ⟨x36, ex36, hF⟩ := ltt_some hF
                refine lv_topi (fun zx36 ezx36 => ?_)
                obtain rfl : x36 = zx36 := ex36.trans ezx36.symm
                refine lv_aloadq hx hb dX1_readHeader_201 (lv_at hl 0 rfl) ?_
                refine lv_iconst (v := (1 : Int32)) hx hb dX1_readHeader_203 (by decide) ?_
                refine W_st (st' := [.int (1 : Int32), .ref (ad b35), .int x36, .int x34]) (by rw [va_some ho35]) ?_
                obtain ⟨hvc, hF⟩ := chk_some hF
                refine va_iald hx hb hK hP b35 1 (wld_i ct ad G y33 hc35 hk35) rfl hvc dX1_readHeader_204 ?_
                obtain ⟨x37, ex37, hF⟩ := ltt_some hF
                refine lv_topi (fun zx37 ezx37 => ?_)
                obtain rfl : x37 = zx37 := ex37.trans ezx37.symm
                refine lv_imul hx hb dX1_readHeader_205 ?_
                obtain ⟨x38, ex38, hF⟩ := ltt_some hF
                refine lv_topi (fun zx38 ezx38 => ?_)
                obtain rfl : x38 = zx38 := ex38.trans ezx38.symm
                obtain ⟨y39, hy39, hF⟩ := bnd_some hF
                have J39 : ∀ (H : Heap) (locs : List Loc) (ls : Array Slot), va_P D classes (wld ct ad G y39) H → va_D A (wld ct ad G y39) → va_S A s.heap H locs → lv_has ls 8 [(7, va_re ad y31), (6, .int x23), (5, va_re ad (M19.2 b21 x20.toNatClampNeg)), (4, .int x11), (3, va_re ad (M.2 b2 0)), (0, .ref (ad a)), (1, .int p0), (2, .int p1)] → W p l e (headSpec wsX1_readHeader ({ frames := 5, cells := 0, slots := 0, locals := 131 })).room s m ([.ref (ad a), .int p0, .int p1] : List Value).toArray below meth c H locs 0 0 (MQ below (va_Qv (fun (_ : Unit) => True) (fun _ t => kE D ct ad G A y t) A) ([.ref (ad a), .int p0, .int p1] : List Value).toArray s 0 0 A) (F0 m 219 ls []) := by
                  intro H locs ls hP hD hS hl
                  refine lv_aloadq_n hx hb dX1_readHeader_219 rfl (lv_at hl 4 rfl) ?_
                  refine lv_bipush (v := (21 : Int32)) hx hb dX1_readHeader_220 (by decide) ?_
                  refine lv_aload_n hx hb dX1_readHeader_222 rfl (lv_at hl 5 rfl) ?_
                  refine va_get (D := D) (ci := 1) (v := va_re ad (y39.2 a 0)) (C := RX1) (T := TX1) (N := 22) hx hb hts (by decide +kernel) hown hK hP a (wld_o ct ad G y39 hc hk (by decide)) rfl 0 (by decide) (hts (.fieldLink RX1 12 "VideoSuite$Decoder" "reader" "LVideoSuite$Reader;") (by decide +kernel)) (fun _ h9 => h9) rfl dX1_readHeader_223 ?_
                  obtain ⟨b40, ho40, hc40, hk40, hF⟩ := dr_some hF
                  refine W_st (st' := [.ref (ad b40), .int (21 : Int32), va_re ad (M.2 b2 0)]) (by rw [va_some ho40]) ?_
                  refine va_get (D := D) (ci := 5) (v := .int (y39.1 b40 2)) (C := RX5) (T := TX5) (N := 17) hx hb hts (by decide +kernel) hown hK hP b40 (wld_o ct ad G y39 hc40 hk40 (by decide)) rfl 2 (by decide) (hts (.fieldLink RX1 217 "VideoSuite$Reader" "place" "I") (by decide +kernel)) (fun _ h9 => h9) rfl dX1_readHeader_226 ?_
                  obtain ⟨x41, ex41, hF⟩ := ltt_some hF
                  refine lv_topi (fun zx41 ezx41 => ?_)
                  obtain rfl : x41 = zx41 := ex41.trans ezx41.symm
                  refine W_st (st' := [.int x41, .int (21 : Int32), .ref (ad b4)]) (by rw [va_some ho4]) ?_
                  obtain ⟨hvc, hF⟩ := chk_some hF
                  refine va_iast hx hb hK hP hD hS b4 1 (wld_i ct ad G y39 hc4 hk4) rfl hvc dX1_readHeader_229 (fun H locs hP hD hS => ?_)
                  obtain ⟨M42, eM42, hF⟩ := ltt_some hF
                  rw [set_i ct ad G y39 hc4 hk4, ← eM42] at hP hD
                  refine lv_aloadq_n hx hb dX1_readHeader_230 rfl (lv_at hl 4 rfl) ?_
                  refine lv_iconst (v := (3 : Int32)) hx hb dX1_readHeader_231 (by decide) ?_
                  refine lv_aload_n hx hb dX1_readHeader_232 rfl (lv_at hl 5 rfl) ?_
                  refine va_get (D := D) (ci := 1) (v := va_re ad (M42.2 a 0)) (C := RX1) (T := TX1) (N := 22) hx hb hts (by decide +kernel) hown hK hP a (wld_o ct ad G M42 hc hk (by decide)) rfl 0 (by decide) (hts (.fieldLink RX1 12 "VideoSuite$Decoder" "reader" "LVideoSuite$Reader;") (by decide +kernel)) (fun _ h9 => h9) rfl dX1_readHeader_233 ?_
                  refine lv_iconst (v := (0 : Int32)) hx hb dX1_readHeader_236 (by decide) ?_
                  refine lv_aloadq hx hb dX1_readHeader_237 (lv_at hl 0 rfl) ?_
                  refine lv_iconst (v := (2 : Int32)) hx hb dX1_readHeader_239 (by decide) ?_
                  refine W_st (st' := [.int (2 : Int32), .ref (ad b35), .int (0 : Int32), va_re ad (M42.2 a 0), .int (3 : Int32), va_re ad (M.2 b2 0)]) (by rw [va_some ho35]) ?_
                  obtain ⟨hvc, hF⟩ := chk_some hF
                  refine va_iald hx hb hK hP b35 1 (wld_i ct ad G M42 hc35 hk35) rfl hvc dX1_readHeader_240 ?_
                  obtain ⟨x43, ex43, hF⟩ := ltt_some hF
                  refine lv_topi (fun zx43 ezx43 => ?_)
                  obtain rfl : x43 = zx43 := ex43.trans ezx43.symm
                  obtain ⟨b44, ho44, hc44, hk44, hF⟩ := dr_some hF
                  refine W_st (st' := [.int x43, .int (0 : Int32), .ref (ad b44), .int (3 : Int32), va_re ad (M.2 b2 0)]) (by rw [va_some ho44]) ?_
                  obtain ⟨y45, hy45, hF⟩ := bnd_some hF
                  have hf9 := wA_in hD hA9 hS
                  refine va_calli (va_runV (As := [.int (0 : Int32), .int x43]) (rest := [.int (3 : Int32), va_re ad (M.2 b2 0)]) ⟨hx, hb, hml, hown, hts⟩ (kX5_fixed l D ct ad Z G M42 H.size b44 ((0 : Int32)) x43 y45 hc44 hk44 hy45) (cwV 2 hts gX1_readHeader_X5_fixed rfl rfl rfl (by decide +kernel) ⟨Nat.le_of_ble_eq_true rfl, Nat.le_of_ble_eq_true rfl⟩) ⟨fun a U g mk q => by obtain ⟨q0, q1, qP, qK, qD, qZ, qN⟩ := q; exact ⟨q0, q1, qP, va_K.moved (u := U) (U := U.calling g mk a) (Vm.Alike.refl U.vm) qK, qD, sF.moved (u := U) (U := U.calling g mk a) (Vm.Alike.refl U.vm) qZ, nF.same rfl qN⟩, va_recv hK hP (ci := 5) (q0 := b44) rfl (wld_o ct ad G M42 hc44 hk44 (by decide)), fun U hU hW => ⟨rfl, by rw [hU], by rw [hU]; exact hP, va_K.moved hW.alike hK, hD.weaken (fun _ _ _ _ => trivial), by rw [hU]; exact ((hZ.kept hS.2.1).narrow hf9).moved hW.alike, hN.warm hW⟩⟩ rfl rfl hl.1 rfl (lv_room (by simp only [List.map, va_re_cat]; exact Nat.le_of_ble_eq_true rfl)) dX1_readHeader_241 ⟨(Nat.zero_le _), (Nat.zero_le _)⟩) hS (fun q _ h => hf9 q h) hf9 (fun r u t H locs ht hvm hw hB hz1 hk1 hS => ?_)
                  obtain ⟨hP, hK9, hD9⟩ := hB
                  rw [ht] at hP
                  try dsimp only at hw
                  subst hw
                  have hD := hD9.weaken (fun _ q _ h => hf9 q.1 h)
                  refine W_st (st' := [.int y45.2, .int (3 : Int32), .ref (ad b4)]) (by rw [va_some ho4]) ?_
                  obtain ⟨hvc, hF⟩ := chk_some hF
                  refine va_iast hx hb hK hP hD hS b4 1 (wld_i ct ad G y45.1 hc4 hk4) rfl hvc dX1_readHeader_244 (fun H locs hP hD hS => ?_)
                  obtain ⟨M46, eM46, hF⟩ := ltt_some hF
                  rw [set_i ct ad G y45.1 hc4 hk4, ← eM46] at hP hD
                  refine lv_iload_n hx hb dX1_readHeader_245 rfl (lv_at hl 6 rfl) ?_
                  refine lv_iconst (v := (5 : Int32)) hx hb dX1_readHeader_246 (by decide) ?_
                  obtain ⟨y47, hy47, hF⟩ := bnd_some hF
                  have J47 : ∀ (H : Heap) (locs : List Loc) (ls : Array Slot), va_P D classes (wld ct ad G y47) H → va_D A (wld ct ad G y47) → va_S A s.heap H locs → lv_has ls 8 [(7, va_re ad y31), (6, .int x23), (5, va_re ad (M19.2 b21 x20.toNatClampNeg)), (4, .int x11), (3, va_re ad (M.2 b2 0)), (0, .ref (ad a)), (1, .int p0), (2, .int p1)] → W p l e (headSpec wsX1_readHeader ({ frames := 5, cells := 0, slots := 0, locals := 131 })).room s m ([.ref (ad a), .int p0, .int p1] : List Value).toArray below meth c H locs 0 0 (MQ below (va_Qv (fun (_ : Unit) => True) (fun _ t => kE D ct ad G A y t) A) ([.ref (ad a), .int p0, .int p1] : List Value).toArray s 0 0 A) (F0 m 280 ls []) := by
                    intro H locs ls hP hD hS hl
                    refine lv_aload_n hx hb dX1_readHeader_280 rfl (lv_at hl 5 rfl) ?_
                    refine lv_aloadq hx hb dX1_readHeader_281 (lv_at hl 0 rfl) ?_
                    refine lv_aloadq hx hb dX1_readHeader_283 (lv_at hl 2 rfl) ?_
                    obtain ⟨y48, hy48, hF⟩ := bnd_some hF
                    have hf9 := wA_in hD hA9 hS
                    refine va_callv (va_runV (As := [va_re ad y31, va_re ad (M19.2 b21 x20.toNatClampNeg)]) (rest := []) ⟨hx, hb, hml, hown, hts⟩ (kX1_readOrder l D ct ad Z G y47 H.size a y31 ((M19.2 b21 x20.toNatClampNeg)) y48 hc hk hy48) (cwV 2 hts gX1_readHeader_X1_readOrder rfl rfl rfl (by decide +kernel) ⟨Nat.le_of_ble_eq_true rfl, Nat.le_of_ble_eq_true rfl⟩) ⟨fun a U g mk q => by obtain ⟨q0, q1, qP, qK, qD, qZ, qN⟩ := q; exact ⟨q0, q1, qP, va_K.moved (u := U) (U := U.calling g mk a) (Vm.Alike.refl U.vm) qK, qD, sF.moved (u := U) (U := U.calling g mk a) (Vm.Alike.refl U.vm) qZ, nF.same rfl qN⟩, va_recv hK hP (ci := 1) (q0 := a) rfl (wld_o ct ad G y47 hc hk (by decide)), fun U hU hW => ⟨rfl, by rw [hU], by rw [hU]; exact hP, va_K.moved hW.alike hK, hD.weaken (fun _ _ _ _ => trivial), by rw [hU]; exact ((hZ.kept hS.2.1).narrow hf9).moved hW.alike, hN.warm hW⟩⟩ rfl rfl hl.1 rfl (lv_room (Nat.le_of_ble_eq_true rfl)) dX1_readHeader_285 ⟨(Nat.zero_le _), (Nat.zero_le _)⟩) hS (fun q _ h => hf9 q h) hf9 (fun u t H locs ht hvm hw hB hz1 hk1 hS => ?_)
                    obtain ⟨hP, hK9, hD9⟩ := hB
                    rw [ht] at hP
                    have hD := hD9.weaken (fun _ q _ h => hf9 q.1 h)
                    refine lv_aloadq_n hx hb dX1_readHeader_288 rfl (lv_at hl 4 rfl) ?_
                    refine lv_iconst (v := (1 : Int32)) hx hb dX1_readHeader_289 (by decide) ?_
                    refine W_st (st' := [.int (1 : Int32), .ref (ad b4)]) (by rw [va_some ho4]) ?_
                    obtain ⟨hvc, hF⟩ := chk_some hF
                    refine va_iald hx hb hK hP b4 1 (wld_i ct ad G y48 hc4 hk4) rfl hvc dX1_readHeader_290 ?_
                    obtain ⟨x49, ex49, hF⟩ := ltt_some hF
                    refine lv_topi (fun zx49 ezx49 => ?_)
                    obtain rfl : x49 = zx49 := ex49.trans ezx49.symm
                    refine lv_iconst (v := (2 : Int32)) hx hb dX1_readHeader_291 (by decide) ?_
                    obtain ⟨y50, hy50, hF⟩ := bnd_some hF
                    have J50 : ∀ (H : Heap) (locs : List Loc) (ls : Array Slot), va_P D classes (wld ct ad G y50) H → va_D A (wld ct ad G y50) → va_S A s.heap H locs → lv_has ls 8 [(7, va_re ad y31), (6, .int x23), (5, va_re ad (M19.2 b21 x20.toNatClampNeg)), (4, .int x11), (3, va_re ad (M.2 b2 0)), (0, .ref (ad a)), (1, .int p0), (2, .int p1)] → W p l e (headSpec wsX1_readHeader ({ frames := 5, cells := 0, slots := 0, locals := 131 })).room s m ([.ref (ad a), .int p0, .int p1] : List Value).toArray below meth c H locs 0 0 (MQ below (va_Qv (fun (_ : Unit) => True) (fun _ t => kE D ct ad G A y t) A) ([.ref (ad a), .int p0, .int p1] : List Value).toArray s 0 0 A) (F0 m 303 ls []) := by
                      intro H locs ls hP hD hS hl
                      refine lv_iload_n hx hb dX1_readHeader_303 rfl (lv_at hl 7 rfl) ?_
                      obtain ⟨y51, hy51, hF⟩ := bnd_some hF
                      have J51 : ∀ (H : Heap) (locs : List Loc) (ls : Array Slot), va_P D classes (wld ct ad G y51) H → va_D A (wld ct ad G y51) → va_S A s.heap H locs → lv_has ls 8 [(7, va_re ad y31), (6, .int x23), (5, va_re ad (M19.2 b21 x20.toNatClampNeg)), (4, .int x11), (3, va_re ad (M.2 b2 0)), (0, .ref (ad a)), (1, .int p0), (2, .int p1)] → W p l e (headSpec wsX1_readHeader ({ frames := 5, cells := 0, slots := 0, locals := 131 })).room s m ([.ref (ad a), .int p0, .int p1] : List Value).toArray below meth c H locs 0 0 (MQ below (va_Qv (fun (_ : Unit) => True) (fun _ t => kE D ct ad G A y t) A) ([.ref (ad a), .int p0, .int p1] : List Value).toArray s 0 0 A) (F0 m 312 ls []) := by
                        intro H locs ls hP hD hS hl
                        refine lv_aload_n hx hb dX1_readHeader_312 rfl (lv_at hl 5 rfl) ?_
                        refine lv_aloadq hx hb dX1_readHeader_313 (lv_at hl 2 rfl) ?_
                        obtain ⟨y52, hy52, hF⟩ := bnd_some hF
                        have hf9 := wA_in hD hA9 hS
                        refine va_callv (va_runV (As := [va_re ad (M19.2 b21 x20.toNatClampNeg)]) (rest := []) ⟨hx, hb, hml, hown, hts⟩ (kX1_readRules l D ct ad Z G y51 H.size a ((M19.2 b21 x20.toNatClampNeg)) y52 hc hk hy52) (cwV 1 hts gX1_readHeader_X1_readRules rfl rfl rfl (by decide +kernel) ⟨Nat.le_of_ble_eq_true rfl, Nat.le_of_ble_eq_true rfl⟩) ⟨fun a U g mk q => by obtain ⟨q0, q1, qP, qK, qD, qZ, qN⟩ := q; exact ⟨q0, q1, qP, va_K.moved (u := U) (U := U.calling g mk a) (Vm.Alike.refl U.vm) qK, qD, sF.moved (u := U) (U := U.calling g mk a) (Vm.Alike.refl U.vm) qZ, nF.same rfl qN⟩, va_recv hK hP (ci := 1) (q0 := a) rfl (wld_o ct ad G y51 hc hk (by decide)), fun U hU hW => ⟨rfl, by rw [hU], by rw [hU]; exact hP, va_K.moved hW.alike hK, hD.weaken (fun _ _ _ _ => trivial), by rw [hU]; exact ((hZ.kept hS.2.1).narrow hf9).moved hW.alike, hN.warm hW⟩⟩ rfl rfl hl.1 rfl (lv_room (Nat.le_of_ble_eq_true rfl)) dX1_readHeader_315 ⟨(Nat.zero_le _), (Nat.zero_le _)⟩) hS (fun q _ h => hf9 q h) hf9 (fun u t H locs ht hvm hw hB hz1 hk1 hS => ?_)
                        obtain ⟨hP, hK9, hD9⟩ := hB
                        rw [ht] at hP
                        have hD := hD9.weaken (fun _ q _ h => hf9 q.1 h)
                        obtain rfl := Option.some.inj hF
                        exact W.vret hx hb hr (fun t ht hW => ⟨⟨(), rfl, trivial, ⟨by rw [ht]; exact hP, va_K.moved hW.alike hK, hD⟩⟩, hS.F ht⟩) hS.2.2 dX1_readHeader_318
                      clear hF
                      have hF := hy51
                      clear hy51
                      refine lv_if_eq (tgt := 312) hx hb dX1_readHeader_304 (by decide) (fun c53 => ?_) (fun c53 => ?_)
                      · rw [if_pos c53] at hF
                        obtain rfl := Option.some.inj hF
                        exact J51 _ _ _ hP hD hS (lv_sub hl [0, 1, 2, 3, 4, 5, 6, 7] rfl)
                      · rw [if_neg c53] at hF
                        refine lv_aload_n hx hb dX1_readHeader_307 rfl (lv_at hl 5 rfl) ?_
                        refine lv_iload_n hx hb dX1_readHeader_308 rfl (lv_at hl 6 rfl) ?_
                        obtain ⟨y54, hy54, hF⟩ := bnd_some hF
                        have hf9 := wA_in hD hA9 hS
                        refine va_callv (va_runV (As := [.int p0]) (rest := []) ⟨hx, hb, hml, hown, hts⟩ (kX1_readMarks l D ct ad Z G y50 H.size a p0 y54 hc hk hy54) (cwV 1 hts gX1_readHeader_X1_readMarks rfl rfl rfl (by decide +kernel) ⟨Nat.le_of_ble_eq_true rfl, Nat.le_of_ble_eq_true rfl⟩) ⟨fun a U g mk q => by obtain ⟨q0, q1, qP, qK, qD, qZ, qN⟩ := q; exact ⟨q0, q1, qP, va_K.moved (u := U) (U := U.calling g mk a) (Vm.Alike.refl U.vm) qK, qD, sF.moved (u := U) (U := U.calling g mk a) (Vm.Alike.refl U.vm) qZ, nF.same rfl qN⟩, va_recv hK hP (ci := 1) (q0 := a) rfl (wld_o ct ad G y50 hc hk (by decide)), fun U hU hW => ⟨rfl, by rw [hU], by rw [hU]; exact hP, va_K.moved hW.alike hK, hD.weaken (fun _ _ _ _ => trivial), by rw [hU]; exact ((hZ.kept hS.2.1).narrow hf9).moved hW.alike, hN.warm hW⟩⟩ rfl rfl hl.1 rfl (lv_room (Nat.le_of_ble_eq_true rfl)) dX1_readHeader_309 ⟨(Nat.zero_le _), (Nat.zero_le _)⟩) hS (fun q _ h => hf9 q h) hf9 (fun u t H locs ht hvm hw hB hz1 hk1 hS => ?_)
                        obtain ⟨hP, hK9, hD9⟩ := hB
                        rw [ht] at hP
                        have hD := hD9.weaken (fun _ q _ h => hf9 q.1 h)
                        obtain rfl := Option.some.inj hF
                        exact J51 _ _ _ hP hD hS (lv_sub hl [0, 1, 2, 3, 4, 5, 6, 7] rfl)
                    clear hF
                    have hF := hy50
                    clear hy50
                    refine lv_icmp_eq (tgt := 303) hx hb dX1_readHeader_292 (by decide) (fun c55 => ?_) (fun c55 => ?_)
                    · rw [if_pos c55] at hF
                      obtain rfl := Option.some.inj hF
                      exact J50 _ _ _ hP hD hS (lv_sub hl [0, 1, 2, 3, 4, 5, 6, 7] rfl)
                    · rw [if_neg c55] at hF
                      refine lv_aload_n hx hb dX1_readHeader_295 rfl (lv_at hl 5 rfl) ?_
                      refine lv_aloadq hx hb dX1_readHeader_296 (lv_at hl 0 rfl) ?_
                      refine lv_aloadq hx hb dX1_readHeader_298 (lv_at hl 2 rfl) ?_
                      obtain ⟨y56, hy56, hF⟩ := bnd_some hF
                      have hf9 := wA_in hD hA9 hS
                      refine va_callv (va_runV (As := [va_re ad y31, va_re ad (M19.2 b21 x20.toNatClampNeg)]) (rest := []) ⟨hx, hb, hml, hown, hts⟩ (kX1_readLists l D ct ad Z G y48 H.size a y31 ((M19.2 b21 x20.toNatClampNeg)) y56 hc hk hy56) (cwV 2 hts gX1_readHeader_X1_readLists rfl rfl rfl (by decide +kernel) ⟨Nat.le_of_ble_eq_true rfl, Nat.le_of_ble_eq_true rfl⟩) ⟨fun a U g mk q => by obtain ⟨q0, q1, qP, qK, qD, qZ, qN⟩ := q; exact ⟨q0, q1, qP, va_K.moved (u := U) (U := U.calling g mk a) (Vm.Alike.refl U.vm) qK, qD, sF.moved (u := U) (U := U.calling g mk a) (Vm.Alike.refl U.vm) qZ, nF.same rfl qN⟩, va_recv hK hP (ci := 1) (q0 := a) rfl (wld_o ct ad G y48 hc hk (by decide)), fun U hU hW => ⟨rfl, by rw [hU], by rw [hU]; exact hP, va_K.moved hW.alike hK, hD.weaken (fun _ _ _ _ => trivial), by rw [hU]; exact ((hZ.kept hS.2.1).narrow hf9).moved hW.alike, hN.warm hW⟩⟩ rfl rfl hl.1 rfl (lv_room (Nat.le_of_ble_eq_true rfl)) dX1_readHeader_300 ⟨(Nat.zero_le _), (Nat.zero_le _)⟩) hS (fun q _ h => hf9 q h) hf9 (fun u t H locs ht hvm hw hB hz1 hk1 hS => ?_)
                      obtain ⟨hP, hK9, hD9⟩ := hB
                      rw [ht] at hP
                      have hD := hD9.weaken (fun _ q _ h => hf9 q.1 h)
                      obtain rfl := Option.some.inj hF
                      exact J50 _ _ _ hP hD hS (lv_sub hl [0, 1, 2, 3, 4, 5, 6, 7] rfl)
                  clear hF
                  have hF := hy47
                  clear hy47
                  refine lv_icmp_ne (tgt := 280) hx hb dX1_readHeader_247 (by decide) (fun c57 => ?_) (fun c57 => ?_)
                  · rw [if_neg c57] at hF
                    obtain rfl := Option.some.inj hF
                    exact J47 _ _ _ hP hD hS (lv_sub hl [0, 1, 2, 3, 4, 5, 6, 7] rfl)
                  · rw [if_pos c57] at hF
                    refine lv_aloadq_n hx hb dX1_readHeader_250 rfl (lv_at hl 4 rfl) ?_
                    refine lv_iconst (v := (3 : Int32)) hx hb dX1_readHeader_251 (by decide) ?_
                    refine W_st (st' := [.int (3 : Int32), .ref (ad b4)]) (by rw [va_some ho4]) ?_
                    obtain ⟨hvc, hF⟩ := chk_some hF
                    refine va_iald hx hb hK hP b4 1 (wld_i ct ad G M46 hc4 hk4) rfl hvc dX1_readHeader_252 ?_
                    obtain ⟨x58, ex58, hF⟩ := ltt_some hF
                    refine lv_topi (fun zx58 ezx58 => ?_)
                    obtain rfl : x58 = zx58 := ex58.trans ezx58.symm
                    obtain ⟨y59, hy59, hF⟩ := bnd_some hF
                    have J59 : ∀ (H : Heap) (locs : List Loc) (ls : Array Slot), va_P D classes (wld ct ad G y59) H → va_D A (wld ct ad G y59) → va_S A s.heap H locs → lv_has ls 8 [(7, va_re ad y31), (6, .int x23), (5, va_re ad (M19.2 b21 x20.toNatClampNeg)), (4, .int x11), (3, va_re ad (M.2 b2 0)), (0, .ref (ad a)), (1, .int p0), (2, .int p1)] → W p l e (headSpec wsX1_readHeader ({ frames := 5, cells := 0, slots := 0, locals := 131 })).room s m ([.ref (ad a), .int p0, .int p1] : List Value).toArray below meth c H locs 0 0 (MQ below (va_Qv (fun (_ : Unit) => True) (fun _ t => kE D ct ad G A y t) A) ([.ref (ad a), .int p0, .int p1] : List Value).toArray s 0 0 A) (F0 m 271 ls []) := by
                      intro H locs ls hP hD hS hl
                      refine lv_aloadq_n hx hb dX1_readHeader_271 rfl (lv_at hl 4 rfl) ?_
                      refine lv_iconst (v := (4 : Int32)) hx hb dX1_readHeader_272 (by decide) ?_
                      refine lv_aload_n hx hb dX1_readHeader_273 rfl (lv_at hl 5 rfl) ?_
                      refine lv_ldc (v := (65535 : Int32)) hx hb hown (hts (.constant RX1 220 (65535 : Int32)) (by decide +kernel)) dX1_readHeader_274 ?_
                      obtain ⟨y60, hy60, hF⟩ := bnd_some hF
                      have hf9 := wA_in hD hA9 hS
                      refine va_calli (va_runV (As := [.int (65535 : Int32)]) (rest := [.int (4 : Int32), va_re ad (M.2 b2 0)]) ⟨hx, hb, hml, hown, hts⟩ (kX1_unsigned l D ct ad Z G y59 H.size a ((65535 : Int32)) y60 hc hk hy60) (cwV 1 hts gX1_readHeader_X1_unsigned rfl rfl rfl (by decide +kernel) ⟨Nat.le_of_ble_eq_true rfl, Nat.le_of_ble_eq_true rfl⟩) ⟨fun a U g mk q => by obtain ⟨q0, q1, qP, qK, qD, qZ, qN⟩ := q; exact ⟨q0, q1, qP, va_K.moved (u := U) (U := U.calling g mk a) (Vm.Alike.refl U.vm) qK, qD, sF.moved (u := U) (U := U.calling g mk a) (Vm.Alike.refl U.vm) qZ, nF.same rfl qN⟩, va_recv hK hP (ci := 1) (q0 := a) rfl (wld_o ct ad G y59 hc hk (by decide)), fun U hU hW => ⟨rfl, by rw [hU], by rw [hU]; exact hP, va_K.moved hW.alike hK, hD.weaken (fun _ _ _ _ => trivial), by rw [hU]; exact ((hZ.kept hS.2.1).narrow hf9).moved hW.alike, hN.warm hW⟩⟩ rfl rfl hl.1 rfl (lv_room (by simp only [List.map, va_re_cat]; exact Nat.le_of_ble_eq_true rfl)) dX1_readHeader_276 ⟨(Nat.zero_le _), (Nat.zero_le _)⟩) hS (fun q _ h => hf9 q h) hf9 (fun r u t H locs ht hvm hw hB hz1 hk1 hS => ?_)
                      obtain ⟨hP, hK9, hD9⟩ := hB
                      rw [ht] at hP
                      try dsimp only at hw
                      subst hw
                      have hD := hD9.weaken (fun _ q _ h => hf9 q.1 h)
                      refine W_st (st' := [.int y60.2, .int (4 : Int32), .ref (ad b4)]) (by rw [va_some ho4]) ?_
                      obtain ⟨hvc, hF⟩ := chk_some hF
                      refine va_iast hx hb hK hP hD hS b4 1 (wld_i ct ad G y60.1 hc4 hk4) rfl hvc dX1_readHeader_279 (fun H locs hP hD hS => ?_)
                      obtain ⟨M61, eM61, hF⟩ := ltt_some hF
                      rw [set_i ct ad G y60.1 hc4 hk4, ← eM61] at hP hD
                      obtain rfl := Option.some.inj hF
                      exact J47 _ _ _ hP hD hS (lv_sub hl [0, 1, 2, 3, 4, 5, 6, 7] rfl)
                    clear hF
                    have hF := hy59
                    clear hy59
                    refine lv_if_eq (tgt := 271) hx hb dX1_readHeader_253 (by decide) (fun c62 => ?_) (fun c62 => ?_)
                    · rw [if_pos c62] at hF
                      obtain rfl := Option.some.inj hF
                      exact J59 _ _ _ hP hD hS (lv_sub hl [0, 1, 2, 3, 4, 5, 6, 7] rfl)
                    · rw [if_neg c62] at hF
                      refine lv_aload_n hx hb dX1_readHeader_256 rfl (lv_at hl 5 rfl) ?_
                      refine va_get (D := D) (ci := 1) (v := va_re ad (M46.2 a 0)) (C := RX1) (T := TX1) (N := 22) hx hb hts (by decide +kernel) hown hK hP a (wld_o ct ad G M46 hc hk (by decide)) rfl 0 (by decide) (hts (.fieldLink RX1 12 "VideoSuite$Decoder" "reader" "LVideoSuite$Reader;") (by decide +kernel)) (fun _ h9 => h9) rfl dX1_readHeader_257 ?_
                      refine lv_iconst (v := (2 : Int32)) hx hb dX1_readHeader_260 (by decide) ?_
                      refine lv_aload_n hx hb dX1_readHeader_261 rfl (lv_at hl 5 rfl) ?_
                      refine va_get (D := D) (ci := 1) (v := va_re ad (M46.2 a 0)) (C := RX1) (T := TX1) (N := 22) hx hb hts (by decide +kernel) hown hK hP a (wld_o ct ad G M46 hc hk (by decide)) rfl 0 (by decide) (hts (.fieldLink RX1 12 "VideoSuite$Decoder" "reader" "LVideoSuite$Reader;") (by decide +kernel)) (fun _ h9 => h9) rfl dX1_readHeader_262 ?_
                      obtain ⟨b63, ho63, hc63, hk63, hF⟩ := dr_some hF
                      refine W_st (st' := [.ref (ad b63), .int (2 : Int32), .ref (ad b63)]) (by rw [va_some ho63]) ?_
                      refine va_get (D := D) (ci := 5) (v := .int (M46.1 b63 4)) (C := RX5) (T := TX5) (N := 17) hx hb hts (by decide +kernel) hown hK hP b63 (wld_o ct ad G M46 hc63 hk63 (by decide)) rfl 4 (by decide) (hts (.fieldLink RX1 194 "VideoSuite$Reader" "begin" "I") (by decide +kernel)) (fun _ h9 => h9) rfl dX1_readHeader_265 ?_
                      obtain ⟨x64, ex64, hF⟩ := ltt_some hF
                      refine lv_topi (fun zx64 ezx64 => ?_)
                      obtain rfl : x64 = zx64 := ex64.trans ezx64.symm
                      cases hF
                clear hF
                have hF := hy39
                clear hy39
                refine lv_icmp_lt (tgt := 219) hx hb dX1_readHeader_206 (by decide) (fun c65 => ?_) (fun c65 => ?_)
                · rw [if_pos c65] at hF
                  obtain rfl := Option.some.inj hF
                  exact J39 _ _ _ hP hD hS (lv_sub hl [0, 1, 2, 3, 4, 5, 6, 7] rfl)
                · rw [if_neg c65] at hF
                  refine lv_aload_n hx hb dX1_readHeader_209 rfl (lv_at hl 5 rfl) ?_
                  refine va_get (D := D) (ci := 1) (v := va_re ad (y33.2 a 0)) (C := RX1) (T := TX1) (N := 22) hx hb hts (by decide +kernel) hown hK hP a (wld_o ct ad G y33 hc hk (by decide)) rfl 0 (by decide) (hts (.fieldLink RX1 12 "VideoSuite$Decoder" "reader" "LVideoSuite$Reader;") (by decide +kernel)) (fun _ h9 => h9) rfl dX1_readHeader_210 ?_
                  refine lv_iconst (v := (2 : Int32)) hx hb dX1_readHeader_213 (by decide) ?_
                  refine lv_iload hx hb dX1_readHeader_214 (lv_at hl 3 rfl) ?_
                  cases hF
              clear hF
              have hF := hy33
              clear hy33
              refine lv_if_lt (tgt := 209) hx hb dX1_readHeader_191 (by decide) (fun c66 => ?_) (fun c66 => ?_)
              · rw [if_pos c66] at hF
                refine lv_aload_n hx hb dX1_readHeader_209 rfl (lv_at hl 5 rfl) ?_
                refine va_get (D := D) (ci := 1) (v := va_re ad (y30.2 a 0)) (C := RX1) (T := TX1) (N := 22) hx hb hts (by decide +kernel) hown hK hP a (wld_o ct ad G y30 hc hk (by decide)) rfl 0 (by decide) (hts (.fieldLink RX1 12 "VideoSuite$Decoder" "reader" "LVideoSuite$Reader;") (by decide +kernel)) (fun _ h9 => h9) rfl dX1_readHeader_210 ?_
                refine lv_iconst (v := (2 : Int32)) hx hb dX1_readHeader_213 (by decide) ?_
                refine lv_iload hx hb dX1_readHeader_214 (lv_at hl 3 rfl) ?_
                cases hF
              · rw [if_neg c66] at hF
                obtain rfl := Option.some.inj hF
                exact J33 _ _ _ hP hD hS (lv_sub hl [0, 1, 2, 3, 4, 5, 6, 7] rfl)
            clear hF
            have hF := hy31
            clear hy31
            refine lv_icmp_ne (tgt := 179) hx hb dX1_readHeader_169 (by decide) (fun c67 => ?_) (fun c67 => ?_)
            · rw [if_neg c67] at hF
              refine lv_aload_n hx hb dX1_readHeader_179 rfl (lv_at hl 4 rfl) ?_
              refine va_get (D := D) (ci := 1) (v := va_re ad (y30.2 a 5)) (C := RX1) (T := TX1) (N := 22) hx hb hts (by decide +kernel) hown hK hP a (wld_o ct ad G y30 hc hk (by decide)) rfl 5 (by decide) (hts (.fieldLink RX1 48 "VideoSuite$Decoder" "sequences" "[[I") (by decide +kernel)) (fun _ h9 => h9) rfl dX1_readHeader_180 ?_
              refine lv_iload hx hb dX1_readHeader_183 (lv_at hl 0 rfl) ?_
              obtain ⟨b68, ho68, hc68, hk68, hF⟩ := dr_some hF
              refine W_st (st' := [.int x23, .ref (ad b68)]) (by rw [va_some ho68]) ?_
              obtain ⟨hvc, hF⟩ := chk_some hF
              refine ld_g hx hb hK hP hc68 hk68 hvc dX1_readHeader_185 ?_
              obtain rfl := Option.some.inj hF
              exact J31 _ _ _ hP hD hS (lv_sub hl [0, 1, 2, 3, 4, 5, 6] rfl)
            · rw [if_pos c67] at hF
              refine lv_aload_n hx hb dX1_readHeader_172 rfl (lv_at hl 4 rfl) ?_
              refine va_get (D := D) (ci := 1) (v := va_re ad (y30.2 a 7)) (C := RX1) (T := TX1) (N := 22) hx hb hts (by decide +kernel) hown hK hP a (wld_o ct ad G y30 hc hk (by decide)) rfl 7 (by decide) (hts (.fieldLink RX1 54 "VideoSuite$Decoder" "active" "[I") (by decide +kernel)) (fun _ h9 => h9) rfl dX1_readHeader_173 ?_
              refine lv_goto (tgt := 186) hx hb dX1_readHeader_176 (by decide) ?_
              obtain rfl := Option.some.inj hF
              exact J31 _ _ _ hP hD hS (lv_sub hl [0, 1, 2, 3, 4, 5, 6] rfl)
          clear hF
          have hF := hy30
          clear hy30
          refine lv_icmp_ne (tgt := 167) hx hb dX1_readHeader_140 (by decide) (fun c69 => ?_) (fun c69 => ?_)
          · rw [if_neg c69] at hF
            obtain rfl := Option.some.inj hF
            exact J30 _ _ _ hP hD hS (lv_sub hl [0, 1, 2, 3, 4, 5, 6] rfl)
          · rw [if_pos c69] at hF
            refine lv_aload_n hx hb dX1_readHeader_143 rfl (lv_at hl 4 rfl) ?_
            refine va_get (D := D) (ci := 1) (v := .int (y29.1 a 8)) (C := RX1) (T := TX1) (N := 22) hx hb hts (by decide +kernel) hown hK hP a (wld_o ct ad G y29 hc hk (by decide)) rfl 8 (by decide) (hts (.fieldLink RX1 58 "VideoSuite$Decoder" "activeId" "I") (by decide +kernel)) (fun _ h9 => h9) rfl dX1_readHeader_144 ?_
            obtain ⟨x70, ex70, hF⟩ := ltt_some hF
            refine lv_topi (fun zx70 ezx70 => ?_)
            obtain rfl : x70 = zx70 := ex70.trans ezx70.symm
            refine lv_iload hx hb dX1_readHeader_147 (lv_at hl 0 rfl) ?_
            obtain ⟨y71, hy71, hF⟩ := bnd_some hF
            have J71 : ∀ (H : Heap) (locs : List Loc) (ls : Array Slot), va_P D classes (wld ct ad G y71) H → va_D A (wld ct ad G y71) → va_S A s.heap H locs → lv_has ls 8 [(6, .int x23), (5, va_re ad (M19.2 b21 x20.toNatClampNeg)), (4, .int x11), (3, va_re ad (M.2 b2 0)), (0, .ref (ad a)), (1, .int p0), (2, .int p1)] → W p l e (headSpec wsX1_readHeader ({ frames := 5, cells := 0, slots := 0, locals := 131 })).room s m ([.ref (ad a), .int p0, .int p1] : List Value).toArray below meth c H locs 0 0 (MQ below (va_Qv (fun (_ : Unit) => True) (fun _ t => kE D ct ad G A y t) A) ([.ref (ad a), .int p0, .int p1] : List Value).toArray s 0 0 A) (F0 m 167 ls []) := by
              intro H locs ls hP hD hS hl
              obtain rfl := Option.some.inj hF
              exact J30 _ _ _ hP hD hS (lv_sub hl [0, 1, 2, 3, 4, 5, 6] rfl)
            clear hF
            have hF := hy71
            clear hy71
            refine lv_icmp_eq (tgt := 167) hx hb dX1_readHeader_149 (by decide) (fun c72 => ?_) (fun c72 => ?_)
            · rw [if_pos c72] at hF
              obtain rfl := Option.some.inj hF
              exact J71 _ _ _ hP hD hS (lv_sub hl [0, 1, 2, 3, 4, 5, 6] rfl)
            · rw [if_neg c72] at hF
              refine lv_aload_n hx hb dX1_readHeader_152 rfl (lv_at hl 4 rfl) ?_
              refine va_get (D := D) (ci := 1) (v := va_re ad (y29.2 a 0)) (C := RX1) (T := TX1) (N := 22) hx hb hts (by decide +kernel) hown hK hP a (wld_o ct ad G y29 hc hk (by decide)) rfl 0 (by decide) (hts (.fieldLink RX1 12 "VideoSuite$Decoder" "reader" "LVideoSuite$Reader;") (by decide +kernel)) (fun _ h9 => h9) rfl dX1_readHeader_153 ?_
              refine lv_iconst (v := (3 : Int32)) hx hb dX1_readHeader_156 (by decide) ?_
              refine lv_aload_n hx hb dX1_readHeader_157 rfl (lv_at hl 4 rfl) ?_
              refine va_get (D := D) (ci := 1) (v := va_re ad (y29.2 a 0)) (C := RX1) (T := TX1) (N := 22) hx hb hts (by decide +kernel) hown hK hP a (wld_o ct ad G y29 hc hk (by decide)) rfl 0 (by decide) (hts (.fieldLink RX1 12 "VideoSuite$Decoder" "reader" "LVideoSuite$Reader;") (by decide +kernel)) (fun _ h9 => h9) rfl dX1_readHeader_158 ?_
              obtain ⟨b73, ho73, hc73, hk73, hF⟩ := dr_some hF
              refine W_st (st' := [.ref (ad b73), .int (3 : Int32), .ref (ad b73)]) (by rw [va_some ho73]) ?_
              refine va_get (D := D) (ci := 5) (v := .int (y29.1 b73 4)) (C := RX5) (T := TX5) (N := 17) hx hb hts (by decide +kernel) hown hK hP b73 (wld_o ct ad G y29 hc73 hk73 (by decide)) rfl 4 (by decide) (hts (.fieldLink RX1 194 "VideoSuite$Reader" "begin" "I") (by decide +kernel)) (fun _ h9 => h9) rfl dX1_readHeader_161 ?_
              obtain ⟨x74, ex74, hF⟩ := ltt_some hF
              refine lv_topi (fun zx74 ezx74 => ?_)
              obtain rfl : x74 = zx74 := ex74.trans ezx74.symm
              cases hF
        clear hF
        have hF := hy29
        clear hy29
        refine lv_if_eq (tgt := 152) hx hb dX1_readHeader_135 (by decide) (fun c75 => ?_) (fun c75 => ?_)
        · rw [if_pos c75] at hF
          refine lv_aload_n hx hb dX1_readHeader_152 rfl (lv_at hl 4 rfl) ?_
          refine va_get (D := D) (ci := 1) (v := va_re ad (y25.2 a 0)) (C := RX1) (T := TX1) (N := 22) hx hb hts (by decide +kernel) hown hK hP a (wld_o ct ad G y25 hc hk (by decide)) rfl 0 (by decide) (hts (.fieldLink RX1 12 "VideoSuite$Decoder" "reader" "LVideoSuite$Reader;") (by decide +kernel)) (fun _ h9 => h9) rfl dX1_readHeader_153 ?_
          refine lv_iconst (v := (3 : Int32)) hx hb dX1_readHeader_156 (by decide) ?_
          refine lv_aload_n hx hb dX1_readHeader_157 rfl (lv_at hl 4 rfl) ?_
          refine va_get (D := D) (ci := 1) (v := va_re ad (y25.2 a 0)) (C := RX1) (T := TX1) (N := 22) hx hb hts (by decide +kernel) hown hK hP a (wld_o ct ad G y25 hc hk (by decide)) rfl 0 (by decide) (hts (.fieldLink RX1 12 "VideoSuite$Decoder" "reader" "LVideoSuite$Reader;") (by decide +kernel)) (fun _ h9 => h9) rfl dX1_readHeader_158 ?_
          obtain ⟨b76, ho76, hc76, hk76, hF⟩ := dr_some hF
          refine W_st (st' := [.ref (ad b76), .int (3 : Int32), .ref (ad b76)]) (by rw [va_some ho76]) ?_
          refine va_get (D := D) (ci := 5) (v := .int (y25.1 b76 4)) (C := RX5) (T := TX5) (N := 17) hx hb hts (by decide +kernel) hown hK hP b76 (wld_o ct ad G y25 hc76 hk76 (by decide)) rfl 4 (by decide) (hts (.fieldLink RX1 194 "VideoSuite$Reader" "begin" "I") (by decide +kernel)) (fun _ h9 => h9) rfl dX1_readHeader_161 ?_
          obtain ⟨x77, ex77, hF⟩ := ltt_some hF
          refine lv_topi (fun zx77 ezx77 => ?_)
          obtain rfl : x77 = zx77 := ex77.trans ezx77.symm
          cases hF
        · rw [if_neg c75] at hF
          obtain rfl := Option.some.inj hF
          exact J29 _ _ _ hP hD hS (lv_sub hl [0, 1, 2, 3, 4, 5, 6] rfl)
      clear hF
      have hF := hy25
      clear hy25
      refine lv_if_eq (tgt := 152) hx hb dX1_readHeader_122 (by decide) (fun c78 => ?_) (fun c78 => ?_)
      · rw [if_pos c78] at hF
        refine lv_aload_n hx hb dX1_readHeader_152 rfl (lv_at hl 4 rfl) ?_
        refine va_get (D := D) (ci := 1) (v := va_re ad (M19.2 a 0)) (C := RX1) (T := TX1) (N := 22) hx hb hts (by decide +kernel) hown hK hP a (wld_o ct ad G M19 hc hk (by decide)) rfl 0 (by decide) (hts (.fieldLink RX1 12 "VideoSuite$Decoder" "reader" "LVideoSuite$Reader;") (by decide +kernel)) (fun _ h9 => h9) rfl dX1_readHeader_153 ?_
        refine lv_iconst (v := (3 : Int32)) hx hb dX1_readHeader_156 (by decide) ?_
        refine lv_aload_n hx hb dX1_readHeader_157 rfl (lv_at hl 4 rfl) ?_
        refine va_get (D := D) (ci := 1) (v := va_re ad (M19.2 a 0)) (C := RX1) (T := TX1) (N := 22) hx hb hts (by decide +kernel) hown hK hP a (wld_o ct ad G M19 hc hk (by decide)) rfl 0 (by decide) (hts (.fieldLink RX1 12 "VideoSuite$Decoder" "reader" "LVideoSuite$Reader;") (by decide +kernel)) (fun _ h9 => h9) rfl dX1_readHeader_158 ?_
        obtain ⟨b79, ho79, hc79, hk79, hF⟩ := dr_some hF
        refine W_st (st' := [.ref (ad b79), .int (3 : Int32), .ref (ad b79)]) (by rw [va_some ho79]) ?_
        refine va_get (D := D) (ci := 5) (v := .int (M19.1 b79 4)) (C := RX5) (T := TX5) (N := 17) hx hb hts (by decide +kernel) hown hK hP b79 (wld_o ct ad G M19 hc79 hk79 (by decide)) rfl 4 (by decide) (hts (.fieldLink RX1 194 "VideoSuite$Reader" "begin" "I") (by decide +kernel)) (fun _ h9 => h9) rfl dX1_readHeader_161 ?_
        obtain ⟨x80, ex80, hF⟩ := ltt_some hF
        refine lv_topi (fun zx80 ezx80 => ?_)
        obtain rfl : x80 = zx80 := ex80.trans ezx80.symm
        cases hF
      · rw [if_neg c78] at hF
        obtain rfl := Option.some.inj hF
        exact J25 _ _ _ hP hD hS (lv_sub hl [0, 1, 2, 3, 4, 5, 6] rfl)
    clear hF
    have hF := hy17
    clear hy17
    refine lv_icmp_ne (tgt := 93) hx hb dX1_readHeader_68 (by decide) (fun c81 => ?_) (fun c81 => ?_)
    · rw [if_neg c81] at hF
      obtain rfl := Option.some.inj hF
      exact J17 _ _ _ hP hD hS (lv_sub hl [0, 1, 2, 3, 4] rfl)
    · rw [if_pos c81] at hF
      refine lv_aloadq_n hx hb dX1_readHeader_71 rfl (lv_at hl 1 rfl) ?_
      refine lv_iconst (v := (1 : Int32)) hx hb dX1_readHeader_72 (by decide) ?_
      refine W_st (st' := [.int (1 : Int32), .ref (ad b4)]) (by rw [va_some ho4]) ?_
      obtain ⟨hvc, hF⟩ := chk_some hF
      refine va_iald hx hb hK hP b4 1 (wld_i ct ad G y16 hc4 hk4) rfl hvc dX1_readHeader_73 ?_
      obtain ⟨x82, ex82, hF⟩ := ltt_some hF
      refine lv_topi (fun zx82 ezx82 => ?_)
      obtain rfl : x82 = zx82 := ex82.trans ezx82.symm
      refine lv_iconst (v := (2 : Int32)) hx hb dX1_readHeader_74 (by decide) ?_
      obtain ⟨y83, hy83, hF⟩ := bnd_some hF
      have J83 : ∀ (H : Heap) (locs : List Loc) (ls : Array Slot), va_P D classes (wld ct ad G y83) H → va_D A (wld ct ad G y83) → va_S A s.heap H locs → lv_has ls 8 [(4, .int x11), (3, va_re ad (M.2 b2 0)), (0, .ref (ad a)), (1, .int p0), (2, .int p1)] → W p l e (headSpec wsX1_readHeader ({ frames := 5, cells := 0, slots := 0, locals := 131 })).room s m ([.ref (ad a), .int p0, .int p1] : List Value).toArray below meth c H locs 0 0 (MQ below (va_Qv (fun (_ : Unit) => True) (fun _ t => kE D ct ad G A y t) A) ([.ref (ad a), .int p0, .int p1] : List Value).toArray s 0 0 A) (F0 m 93 ls []) := by
        intro H locs ls hP hD hS hl
        obtain rfl := Option.some.inj hF
        exact J17 _ _ _ hP hD hS (lv_sub hl [0, 1, 2, 3, 4] rfl)
      clear hF
      have hF := hy83
      clear hy83
      refine lv_icmp_eq (tgt := 93) hx hb dX1_readHeader_75 (by decide) (fun c84 => ?_) (fun c84 => ?_)
      · rw [if_pos c84] at hF
        obtain rfl := Option.some.inj hF
        exact J83 _ _ _ hP hD hS (lv_sub hl [0, 1, 2, 3, 4] rfl)
      · rw [if_neg c84] at hF
        refine lv_aload_n hx hb dX1_readHeader_78 rfl (lv_at hl 2 rfl) ?_
        refine va_get (D := D) (ci := 1) (v := va_re ad (y16.2 a 0)) (C := RX1) (T := TX1) (N := 22) hx hb hts (by decide +kernel) hown hK hP a (wld_o ct ad G y16 hc hk (by decide)) rfl 0 (by decide) (hts (.fieldLink RX1 12 "VideoSuite$Decoder" "reader" "LVideoSuite$Reader;") (by decide +kernel)) (fun _ h9 => h9) rfl dX1_readHeader_79 ?_
        refine lv_iconst (v := (2 : Int32)) hx hb dX1_readHeader_82 (by decide) ?_
        refine lv_aload_n hx hb dX1_readHeader_83 rfl (lv_at hl 2 rfl) ?_
        refine va_get (D := D) (ci := 1) (v := va_re ad (y16.2 a 0)) (C := RX1) (T := TX1) (N := 22) hx hb hts (by decide +kernel) hown hK hP a (wld_o ct ad G y16 hc hk (by decide)) rfl 0 (by decide) (hts (.fieldLink RX1 12 "VideoSuite$Decoder" "reader" "LVideoSuite$Reader;") (by decide +kernel)) (fun _ h9 => h9) rfl dX1_readHeader_84 ?_
        obtain ⟨b85, ho85, hc85, hk85, hF⟩ := dr_some hF
        refine W_st (st' := [.ref (ad b85), .int (2 : Int32), .ref (ad b85)]) (by rw [va_some ho85]) ?_
        refine va_get (D := D) (ci := 5) (v := .int (y16.1 b85 4)) (C := RX5) (T := TX5) (N := 17) hx hb hts (by decide +kernel) hown hK hP b85 (wld_o ct ad G y16 hc85 hk85 (by decide)) rfl 4 (by decide) (hts (.fieldLink RX1 194 "VideoSuite$Reader" "begin" "I") (by decide +kernel)) (fun _ h9 => h9) rfl dX1_readHeader_87 ?_
        obtain ⟨x86, ex86, hF⟩ := ltt_some hF
        refine lv_topi (fun zx86 ezx86 => ?_)
        obtain rfl : x86 = zx86 := ex86.trans ezx86.symm
        cases hF
  clear hF
  have hF := hy16
  clear hy16
  refine lv_icmp_gt (tgt := 78) hx hb dX1_readHeader_63 (by decide) (fun c87 => ?_) (fun c87 => ?_)
  · rw [if_pos c87] at hF
    refine lv_aload_n hx hb dX1_readHeader_78 rfl (lv_at hl 2 rfl) ?_
    refine va_get (D := D) (ci := 1) (v := va_re ad (M14.2 a 0)) (C := RX1) (T := TX1) (N := 22) hx hb hts (by decide +kernel) hown hK hP a (wld_o ct ad G M14 hc hk (by decide)) rfl 0 (by decide) (hts (.fieldLink RX1 12 "VideoSuite$Decoder" "reader" "LVideoSuite$Reader;") (by decide +kernel)) (fun _ h9 => h9) rfl dX1_readHeader_79 ?_
    refine lv_iconst (v := (2 : Int32)) hx hb dX1_readHeader_82 (by decide) ?_
    refine lv_aload_n hx hb dX1_readHeader_83 rfl (lv_at hl 2 rfl) ?_
    refine va_get (D := D) (ci := 1) (v := va_re ad (M14.2 a 0)) (C := RX1) (T := TX1) (N := 22) hx hb hts (by decide +kernel) hown hK hP a (wld_o ct ad G M14 hc hk (by decide)) rfl 0 (by decide) (hts (.fieldLink RX1 12 "VideoSuite$Decoder" "reader" "LVideoSuite$Reader;") (by decide +kernel)) (fun _ h9 => h9) rfl dX1_readHeader_84 ?_
    obtain ⟨b88, ho88, hc88, hk88, hF⟩ := dr_some hF
    refine W_st (st' := [.ref (ad b88), .int (2 : Int32), .ref (ad b88)]) (by rw [va_some ho88]) ?_
    refine va_get (D := D) (ci := 5) (v := .int (M14.1 b88 4)) (C := RX5) (T := TX5) (N := 17) hx hb hts (by decide +kernel) hown hK hP b88 (wld_o ct ad G M14 hc88 hk88 (by decide)) rfl 4 (by decide) (hts (.fieldLink RX1 194 "VideoSuite$Reader" "begin" "I") (by decide +kernel)) (fun _ h9 => h9) rfl dX1_readHeader_87 ?_
    obtain ⟨x89, ex89, hF⟩ := ltt_some hF
    refine lv_topi (fun zx89 ezx89 => ?_)
    obtain rfl : x89 = zx89 := ex89.trans ezx89.symm
    cases hF
  · rw [if_neg c87] at hF
    obtain rfl := Option.some.inj hF
    exact J16 _ _ _ hP hD hS (lv_sub hl [0, 1, 2, 3, 4] rfl)
theorem ggX1_takeUnit_X8_loadPayload : GoodIn wsX1_takeUnit wsX8_loadPayload := goodIn_r _ [12, 13, 14, 15, 16, 17, 1095, 1096, 1097, 1098, 1099, 1100, 1101, 1102, 1103, 1104, 1105, 1106, 1107, 1108, 1109] (by decide +kernel) (by decide +kernel)
set_option maxRecDepth 20000 in
theorem gX1_takeUnit_X8_loadPayload : GoodIn wsX1_takeUnit (wsV RX1 116 RX8 yX8_loadPayload wsX8_loadPayload) := goodIn_app (goodIn_of _ (by decide +kernel)) ggX1_takeUnit_X8_loadPayload
set_option maxRecDepth 20000 in
theorem ggX1_takeUnit_X5_load : GoodIn wsX1_takeUnit wsX5_load := goodIn_r _ [22, 23, 24, 25, 26, 27, 28, 29, 30, 31, 32, 33, 34, 35, 36, 11, 37, 13, 17, 1095, 1096, 1097, 1098, 1099, 1100, 1101, 1102, 1103, 1104, 1105, 1106, 1107, 1108, 1109, 1110, 1111, 1112, 1113, 1114, 1115, 1116, 1117, 1118, 1119, 1120, 1121, 1122, 1123, 1124, 1125, 1126] (by decide +kernel) (by decide +kernel)
set_option maxRecDepth 20000 in
theorem gX1_takeUnit_X5_load : GoodIn wsX1_takeUnit (wsV RX1 122 RX5 yX5_load wsX5_load) := goodIn_app (goodIn_of _ (by decide +kernel)) ggX1_takeUnit_X5_load
set_option maxRecDepth 20000 in
theorem ggX1_takeUnit_X8_byteAt : GoodIn wsX1_takeUnit wsX8_byteAt := goodIn_r _ [41, 15, 16, 1095, 1096, 1097, 1098, 1099, 1100, 1101, 1102, 1103, 1104, 1105, 1106, 1107, 1108, 1109] (by decide +kernel) (by decide +kernel)
set_option maxRecDepth 20000 in
theorem gX1_takeUnit_X8_byteAt : GoodIn wsX1_takeUnit (wsV RX1 126 RX8 yX8_byteAt wsX8_byteAt) := goodIn_app (goodIn_of _ (by decide +kernel)) ggX1_takeUnit_X8_byteAt
set_option maxRecDepth 20000 in
theorem ggX1_takeUnit_X1_readHeader : GoodIn wsX1_takeUnit wsX1_readHeader := goodIn_ca (goodIn_r _ [46, 5, 47, 2, 48, 49, 50, 51, 52, 53, 54, 55, 56, 57, 58, 59, 60, 61, 62, 21, 63, 28, 29, 64, 65, 66, 67, 68, 69, 70, 31, 71, 72, 73, 74, 75, 26, 76, 32, 77, 24, 78, 79, 80, 81, 82, 83, 84, 85, 30, 33, 86, 87, 88, 89, 45, 90, 91, 92, 93, 94, 95, 96, 97, 98, 99, 100, 101, 102, 103, 104, 105, 106, 107, 108, 109, 110, 111, 112, 113, 114, 115, 116, 117, 118, 119, 120, 121, 122, 123, 124, 125, 126, 127, 128, 129, 130, 131, 132, 133, 134, 135, 136, 137, 1073, 1074, 1075, 1076, 1077, 1078, 1079, 1080, 1081, 1082, 1083, 1084, 1085, 1086, 1087, 1088, 1089, 1090, 1091, 1092, 1093, 1094, 1127, 1128, 1129, 1130, 1110, 1111, 1112, 1113, 1114, 1115, 1116, 1117, 1118, 1119, 1120, 1121, 1122, 1123, 1124, 1125, 1126] (by decide +kernel) (by decide +kernel)) (goodIn_sub (fun _ h => List.mem_cons_of_mem _ (List.mem_append_right _ h)) (by decide +kernel))
set_option maxRecDepth 20000 in
theorem gX1_takeUnit_X1_readHeader : GoodIn wsX1_takeUnit (wsV RX1 133 RX1 yX1_readHeader wsX1_readHeader) := goodIn_app (goodIn_of _ (by decide +kernel)) ggX1_takeUnit_X1_readHeader
set_option maxRecDepth 20000 in
theorem ggX1_takeUnit_X1_beginSlice : GoodIn wsX1_takeUnit wsX1_beginSlice := goodIn_ca (goodIn_r _ [521, 5, 6, 522, 47, 146, 147, 461, 523, 50, 524, 525, 53, 149, 2, 526, 527, 528, 271, 529, 530, 273, 531, 532, 533, 534, 535, 536, 304, 305, 537, 538, 539, 297, 278, 540, 541, 542, 298, 543, 279, 317, 318, 319, 544, 545, 546, 547, 548, 549, 550, 551, 552, 553, 554, 555, 556, 557, 558, 559, 560, 561, 562, 563, 564, 565, 216, 566, 567, 568, 569, 570, 571, 572, 573, 21, 574, 30, 78, 79, 80, 81, 69, 70, 76, 32, 28, 77, 1073, 1074, 1075, 1076, 1077, 1078, 1079, 1080, 1081, 1082, 1083, 1084, 1085, 1086, 1087, 1088, 1089, 1090, 1091, 1092, 1093, 1094, 1127, 1128, 1129, 1130, 1131, 1132, 1133, 1134, 1135, 1136, 1137, 1138, 1139, 1140, 1141, 1142, 1143, 1144, 1145, 1146, 1147, 1148, 1149, 1150, 1168, 1169, 1170, 1171, 1172, 1173, 1174, 1175, 1176, 1177, 1178, 1179, 1180, 1181, 1182, 1183, 1184, 1185, 1151, 1152, 1153, 1154, 1155, 1156, 1157, 1158, 1159, 1160, 1161, 1162, 1163, 1164, 1165, 1166, 1167, 1110, 1111, 1112, 1113, 1114, 1115, 1116, 1117, 1118, 1119, 1120, 1121, 1122, 1123, 1124, 1125, 1126] (by decide +kernel) (by decide +kernel)) (goodIn_sub (fun _ h => List.mem_cons_of_mem _ (List.mem_append_right _ h)) (by decide +kernel))
set_option maxRecDepth 20000 in
theorem gX1_takeUnit_X1_beginSlice : GoodIn wsX1_takeUnit (wsV RX1 150 RX1 yX1_beginSlice wsX1_beginSlice) := goodIn_app (goodIn_of _ (by decide +kernel)) ggX1_takeUnit_X1_beginSlice
set_option maxRecDepth 20000 in
theorem ggX1_takeUnit_X1_readData : GoodIn wsX1_takeUnit wsX1_readData := goodIn_ca (goodIn_r _ [578, 6, 47, 146, 524, 147, 579, 2, 580, 581, 582, 517, 166, 167, 168, 169, 170, 171, 583, 584, 585, 21, 586, 32, 28, 71, 587, 588, 589, 590, 26, 29, 24, 78, 79, 80, 81, 69, 70, 76, 77, 591, 57, 58, 59, 592, 593, 594, 595, 73, 74, 31, 60, 61, 62, 63, 64, 65, 66, 67, 68, 72, 75, 82, 83, 84, 85, 30, 33, 86, 596, 597, 598, 45, 599, 3, 571, 572, 573, 574, 600, 601, 602, 603, 604, 605, 606, 607, 216, 608, 568, 609, 610, 611, 612, 613, 614, 615, 616, 506, 507, 570, 617, 478, 618, 619, 620, 621, 622, 428, 508, 509, 510, 623, 624, 625, 626, 627, 628, 629, 630, 631, 632, 633, 634, 259, 260, 261, 635, 636, 637, 638, 505, 639, 640, 641, 642, 643, 644, 645, 646, 647, 484, 479, 648, 649, 650, 651, 652, 653, 654, 655, 656, 215, 217, 657, 219, 220, 658, 659, 660, 661, 662, 663, 664, 665, 666, 667, 668, 669, 670, 671, 672, 673, 674, 675, 676, 677, 678, 679, 680, 681, 682, 683, 684, 685, 686, 687, 688, 689, 690, 691, 692, 693, 694, 695, 696, 697, 698, 699, 700, 701, 702, 703, 704, 705, 706, 707, 708, 709, 710, 711, 712, 713, 714, 715, 716, 717, 718, 719, 720, 251, 721, 722, 723, 724, 725, 383, 384, 385, 726, 727, 728, 729, 730, 731, 732, 733, 734, 735, 736, 737, 738, 739, 740, 741, 742, 743, 744, 745, 746, 747, 748, 749, 234, 750, 751, 752, 753, 754, 755, 756, 757, 758, 759, 760, 761, 762, 763, 764, 765, 766, 767, 768, 769, 770, 771, 772, 773, 774, 775, 776, 777, 778, 779, 780, 781, 782, 783, 784, 785, 786, 787, 788, 789, 790, 791, 792, 793, 794, 795, 796, 797, 798, 799, 800, 801, 802, 803, 804, 805, 806, 807, 808, 809, 810, 811, 812, 126, 116, 127, 813, 814, 815, 816, 266, 201, 267, 817, 818, 819, 820, 821, 822, 823, 824, 825, 826, 827, 828, 829, 830, 831, 832, 833, 834, 835, 836, 837, 838, 839, 840, 841, 842, 843, 844, 845, 846, 847, 848, 849, 850, 851, 852, 499, 500, 853, 854, 855, 856, 857, 858, 859, 860, 861, 862, 863, 864, 865, 866, 867, 868, 869, 870, 871, 872, 873, 874, 875, 876, 877, 878, 879, 880, 881, 882, 883, 884, 885, 886, 887, 888, 889, 890, 891, 892, 893, 894, 895, 896, 897, 898, 899, 900, 901, 902, 903, 904, 250, 252, 253, 200, 202, 905, 906, 907, 908, 909, 910, 911, 912, 913, 914, 915, 916, 917, 918, 919, 920, 488, 921, 922, 923, 924, 925, 27, 926, 927, 928, 929, 930, 931, 932, 933, 934, 935, 936, 937, 938, 939, 940, 490, 491, 492, 493, 494, 495, 496, 497, 941, 942, 943, 944, 945, 946, 947, 948, 949, 950, 951, 952, 953, 954, 955, 956, 957, 958, 959, 960, 485, 92, 93, 94, 95, 961, 962, 963, 964, 965, 966, 967, 49, 968, 969, 91, 970, 971, 972, 973, 974, 975, 976, 977, 978, 979, 980, 981, 982, 983, 984, 985, 986, 987, 988, 989, 990, 991, 992, 993, 994, 995, 996, 997, 998, 999, 1000, 1001, 1002, 1003, 1004, 1005, 1006, 1007, 1008, 1009, 1010, 1011, 1012, 1013, 1014, 1015, 1016, 1017, 1018, 1019, 1020, 1021, 1022, 1023, 1024, 1025, 486, 1026, 1027, 1028, 1029, 1030, 1031, 1032, 1033, 1034, 1035, 1036, 1037, 1038, 1039, 1040, 1041, 1042, 1043, 1044, 1045, 1046, 1073, 1074, 1075, 1076, 1077, 1078, 1079, 1080, 1081, 1082, 1083, 1084, 1085, 1086, 1087, 1088, 1089, 1090, 1091, 1092, 1093, 1094, 1127, 1128, 1129, 1130, 1131, 1132, 1133, 1134, 1135, 1136, 1137, 1138, 1139, 1140, 1141, 1142, 1143, 1144, 1145, 1146, 1147, 1148, 1149, 1150, 1197, 1198, 1199, 1200, 1201, 1202, 1203, 1204, 1205, 1206, 1207, 1208, 1209, 1210, 1168, 1169, 1170, 1171, 1172, 1173, 1174, 1175, 1176, 1177, 1178, 1179, 1180, 1181, 1182, 1183, 1184, 1185, 1110, 1111, 1112, 1113, 1114, 1115, 1116, 1117, 1118, 1119, 1120, 1121, 1122, 1123, 1124, 1125, 1126, 1193, 1194, 1195, 1196] (by decide +kernel) (by decide +kernel)) (goodIn_sub (fun _ h => List.mem_cons_of_mem _ (List.mem_append_right _ h)) (by decide +kernel))
set_option maxRecDepth 20000 in
theorem gX1_takeUnit_X1_readData : GoodIn wsX1_takeUnit (wsV RX1 153 RX1 yX1_readData wsX1_readData) := goodIn_app (goodIn_of _ (by decide +kernel)) ggX1_takeUnit_X1_readData
set_option maxRecDepth 20000 in
theorem ggX1_takeUnit_X1_endPicture : GoodIn wsX1_takeUnit wsX1_endPicture := goodIn_r _ [145, 4, 146, 147, 148, 149, 150, 151, 152, 153, 154, 155, 53, 47, 156, 157, 158, 159, 160, 161, 162, 163, 164, 165, 166, 167, 168, 169, 170, 171, 172, 173, 174, 175, 176, 177, 178, 179, 180, 181, 182, 183, 184, 185, 186, 187, 188, 189, 190, 191, 192, 193, 194, 195, 196, 197, 198, 199, 200, 201, 202, 203, 204, 205, 206, 207, 208, 209, 210, 211, 212, 213, 214, 215, 216, 217, 218, 219, 220, 221, 222, 223, 224, 225, 226, 227, 228, 229, 230, 231, 232, 233, 234, 235, 236, 237, 238, 239, 240, 241, 242, 243, 244, 245, 246, 247, 248, 249, 250, 251, 252, 253, 254, 255, 256, 257, 258, 259, 260, 261, 262, 263, 264, 265, 266, 267, 268, 269, 270, 271, 272, 273, 274, 275, 276, 277, 278, 279, 280, 281, 282, 283, 284, 285, 286, 287, 116, 288, 119, 289, 290, 291, 292, 293, 294, 295, 296, 297, 298, 299, 300, 301, 302, 303, 304, 305, 306, 307, 308, 309, 310, 311, 312, 313, 314, 315, 316, 317, 318, 319, 320, 321, 322, 323, 324, 325, 326, 327, 328, 329, 330, 331, 332, 333, 334, 335, 336, 337, 338, 339, 340, 341, 342, 343, 344, 345, 346, 347, 348, 349, 350, 351, 352, 353, 354, 355, 356, 357, 358, 359, 360, 361, 362, 363, 364, 365, 366, 367, 368, 369, 370, 371, 372, 373, 374, 375, 376, 377, 378, 379, 380, 381, 382, 383, 384, 385, 386, 387, 388, 389, 390, 391, 392, 393, 394, 395, 396, 397, 398, 399, 400, 401, 402, 1073, 1074, 1075, 1076, 1077, 1078, 1079, 1080, 1081, 1082, 1083, 1084, 1085, 1086, 1087, 1088, 1089, 1090, 1091, 1092, 1093, 1094, 1131, 1132, 1133, 1134, 1135, 1136, 1137, 1138, 1139, 1140, 1141, 1142, 1143, 1144, 1145, 1146, 1147, 1148, 1149, 1150, 1151, 1152, 1153, 1154, 1155, 1156, 1157, 1158, 1159, 1160, 1161, 1162, 1163, 1164, 1165, 1166, 1167, 1168, 1169, 1170, 1171, 1172, 1173, 1174, 1175, 1176, 1177, 1178, 1179, 1180, 1181, 1182, 1183, 1184, 1185, 1127, 1128, 1129, 1130, 1186, 1187, 1188, 1189, 1190, 1191, 1192] (by decide +kernel) (by decide +kernel)
set_option maxRecDepth 20000 in
theorem gX1_takeUnit_X1_endPicture : GoodIn wsX1_takeUnit (wsV RX1 141 RX1 yX1_endPicture wsX1_endPicture) := goodIn_app (goodIn_of _ (by decide +kernel)) ggX1_takeUnit_X1_endPicture
set_option maxRecDepth 20000 in
theorem ggX1_takeUnit_X1_bridge : GoodIn wsX1_takeUnit wsX1_bridge := goodIn_ca (goodIn_r _ [406, 53, 149, 407, 5, 47, 2, 345, 286, 287, 116, 288, 119, 91, 79, 80, 21, 81, 69, 70, 76, 32, 28, 77, 408, 409, 410, 271, 411, 274, 279, 297, 412, 373, 283, 289, 290, 291, 309, 310, 311, 312, 313, 314, 315, 316, 304, 305, 317, 318, 319, 320, 321, 322, 323, 306, 307, 308, 298, 340, 341, 342, 343, 344, 395, 396, 397, 398, 354, 355, 356, 357, 278, 358, 359, 360, 361, 362, 363, 364, 365, 366, 367, 368, 369, 370, 371, 372, 374, 375, 376, 377, 378, 379, 380, 381, 382, 383, 384, 385, 386, 387, 388, 389, 390, 391, 392, 393, 394, 193, 194, 168, 195, 170, 413, 414, 415, 416, 417, 418, 419, 420, 421, 422, 423, 424, 425, 426, 427, 191, 428, 229, 234, 429, 430, 431, 432, 284, 433, 434, 435, 436, 437, 171, 438, 439, 440, 441, 442, 443, 444, 445, 446, 447, 448, 57, 58, 59, 449, 450, 451, 452, 453, 192, 196, 197, 198, 199, 399, 400, 401, 402, 1073, 1074, 1075, 1076, 1077, 1078, 1079, 1080, 1081, 1082, 1083, 1084, 1085, 1086, 1087, 1088, 1089, 1090, 1091, 1092, 1093, 1094, 1151, 1152, 1153, 1154, 1155, 1156, 1157, 1158, 1159, 1160, 1161, 1162, 1163, 1164, 1165, 1166, 1167, 1127, 1128, 1129, 1130, 1110, 1111, 1112, 1113, 1114, 1115, 1116, 1117, 1118, 1119, 1120, 1121, 1122, 1123, 1124, 1125, 1126, 1168, 1169, 1170, 1171, 1172, 1173, 1174, 1175, 1176, 1177, 1178, 1179, 1180, 1181, 1182, 1183, 1184, 1185] (by decide +kernel) (by decide +kernel)) (goodIn_sub (fun _ h => List.mem_cons_of_mem _ (List.mem_append_right _ h)) (by decide +kernel))
set_option maxRecDepth 20000 in
theorem gX1_takeUnit_X1_bridge : GoodIn wsX1_takeUnit (wsV RX1 144 RX1 yX1_bridge wsX1_bridge) := goodIn_app (goodIn_of _ (by decide +kernel)) ggX1_takeUnit_X1_bridge
set_option maxRecDepth 20000 in
theorem ggX1_takeUnit_X1_beginPicture : GoodIn wsX1_takeUnit wsX1_beginPicture := goodIn_r _ [457, 5, 47, 50, 52, 51, 53, 458, 383, 384, 385, 149, 459, 460, 461, 462, 463, 146, 155, 464, 4, 345, 286, 287, 116, 288, 119, 465, 414, 415, 271, 416, 417, 418, 419, 168, 420, 421, 422, 423, 424, 425, 380, 426, 427, 191, 428, 229, 234, 429, 430, 431, 432, 304, 305, 284, 274, 433, 434, 435, 436, 437, 170, 171, 438, 439, 440, 441, 442, 443, 444, 445, 446, 447, 448, 57, 58, 59, 466, 467, 468, 469, 273, 275, 282, 280, 281, 285, 470, 471, 472, 473, 277, 276, 474, 475, 476, 216, 477, 478, 479, 480, 481, 482, 483, 484, 485, 486, 487, 488, 489, 490, 491, 492, 493, 494, 495, 496, 497, 498, 499, 500, 501, 502, 503, 504, 505, 506, 507, 508, 509, 510, 511, 512, 513, 514, 515, 516, 517, 166, 167, 169, 1073, 1074, 1075, 1076, 1077, 1078, 1079, 1080, 1081, 1082, 1083, 1084, 1085, 1086, 1087, 1088, 1089, 1090, 1091, 1092, 1093, 1094, 1127, 1128, 1129, 1130, 1168, 1169, 1170, 1171, 1172, 1173, 1174, 1175, 1176, 1177, 1178, 1179, 1180, 1181, 1182, 1183, 1184, 1185, 1151, 1152, 1153, 1154, 1155, 1156, 1157, 1158, 1159, 1160, 1161, 1162, 1163, 1164, 1165, 1166, 1167, 1131, 1132, 1133, 1134, 1135, 1136, 1137, 1138, 1139, 1140, 1141, 1142, 1143, 1144, 1145, 1146, 1147, 1148, 1149, 1150, 1193, 1194, 1195, 1196] (by decide +kernel) (by decide +kernel)
set_option maxRecDepth 20000 in
theorem gX1_takeUnit_X1_beginPicture : GoodIn wsX1_takeUnit (wsV RX1 147 RX1 yX1_beginPicture wsX1_beginPicture) := goodIn_app (goodIn_of _ (by decide +kernel)) ggX1_takeUnit_X1_beginPicture
set_option maxRecDepth 20000 in
theorem ggX1_takeUnit_X3_beginsBehind : GoodIn wsX1_takeUnit wsX3_beginsBehind := goodIn_r _ [141, 119, 1127, 1128, 1129, 1130] (by decide +kernel) (by decide +kernel)
set_option maxRecDepth 20000 in
theorem gX1_takeUnit_X3_beginsBehind : GoodIn wsX1_takeUnit (wsV RX1 137 RX3 yX3_beginsBehind wsX3_beginsBehind) := goodIn_app (goodIn_of _ (by decide +kernel)) ggX1_takeUnit_X3_beginsBehind
set_option maxRecDepth 20000 in
theorem ggX1_takeUnit_X1_readParameters : GoodIn wsX1_takeUnit wsX1_readParameters := goodIn_ca (goodIn_r _ [1063, 1051, 2, 49, 50, 458, 383, 384, 385, 56, 57, 58, 59, 87, 88, 89, 45, 90, 60, 61, 62, 21, 63, 28, 29, 64, 65, 66, 67, 68, 69, 70, 31, 71, 72, 73, 74, 75, 26, 76, 32, 77, 24, 78, 79, 80, 81, 82, 83, 84, 85, 30, 33, 86, 92, 93, 94, 95, 91, 100, 101, 102, 103, 1056, 1057, 1058, 1059, 984, 1073, 1074, 1075, 1076, 1077, 1078, 1079, 1080, 1081, 1082, 1083, 1084, 1085, 1086, 1087, 1088, 1089, 1090, 1091, 1092, 1093, 1094, 1110, 1111, 1112, 1113, 1114, 1115, 1116, 1117, 1118, 1119, 1120, 1121, 1122, 1123, 1124, 1125, 1126] (by decide +kernel) (by decide +kernel)) (goodIn_sub (fun _ h => List.mem_cons_of_mem _ (List.mem_append_right _ h)) (by decide +kernel))
set_option maxRecDepth 20000 in
theorem gX1_takeUnit_X1_readParameters : GoodIn wsX1_takeUnit (wsV RX1 159 RX1 yX1_readParameters wsX1_readParameters) := goodIn_app (goodIn_of _ (by decide +kernel)) ggX1_takeUnit_X1_readParameters
set_option maxRecDepth 20000 in
theorem ggX1_takeUnit_X1_readSequence : GoodIn wsX1_takeUnit wsX1_readSequence := goodIn_ca (goodIn_r _ [1050, 1051, 2, 49, 51, 458, 383, 384, 385, 56, 57, 58, 59, 92, 93, 94, 21, 95, 28, 29, 65, 66, 67, 68, 69, 70, 31, 71, 72, 73, 74, 75, 26, 76, 32, 77, 24, 82, 83, 84, 85, 30, 33, 86, 87, 88, 89, 45, 90, 60, 61, 62, 63, 64, 78, 79, 80, 81, 1052, 1053, 1054, 1055, 100, 101, 102, 103, 91, 1056, 1057, 1058, 1059, 984, 1073, 1074, 1075, 1076, 1077, 1078, 1079, 1080, 1081, 1082, 1083, 1084, 1085, 1086, 1087, 1088, 1089, 1090, 1091, 1092, 1093, 1094, 1110, 1111, 1112, 1113, 1114, 1115, 1116, 1117, 1118, 1119, 1120, 1121, 1122, 1123, 1124, 1125, 1126] (by decide +kernel) (by decide +kernel)) (goodIn_sub (fun _ h => List.mem_cons_of_mem _ (List.mem_append_right _ h)) (by decide +kernel))
set_option maxRecDepth 20000 in
theorem gX1_takeUnit_X1_readSequence : GoodIn wsX1_takeUnit (wsV RX1 156 RX1 yX1_readSequence wsX1_readSequence) := goodIn_app (goodIn_of _ (by decide +kernel)) ggX1_takeUnit_X1_readSequence
set_option maxRecDepth 20000 in
theorem dX1_takeUnit_0 : decode cX1_takeUnit 0 = .ok (.aload_n 1, 1) := by decide +kernel
theorem dX1_takeUnit_1 : decode cX1_takeUnit 1 = .ok (.iload_n 2, 1) := by decide +kernel
theorem dX1_takeUnit_2 : decode cX1_takeUnit 2 = .ok (.invokevirtual 116, 3) := by decide +kernel
theorem dX1_takeUnit_5 : decode cX1_takeUnit 5 = .ok (.aload_n 0, 1) := by decide +kernel
theorem dX1_takeUnit_6 : decode cX1_takeUnit 6 = .ok (.getfield 12, 3) := by decide +kernel
theorem dX1_takeUnit_9 : decode cX1_takeUnit 9 = .ok (.aload_n 1, 1) := by decide +kernel
theorem dX1_takeUnit_10 : decode cX1_takeUnit 10 = .ok (.invokevirtual 122, 3) := by decide +kernel
theorem dX1_takeUnit_13 : decode cX1_takeUnit 13 = .ok (.aload_n 1, 1) := by decide +kernel
theorem dX1_takeUnit_14 : decode cX1_takeUnit 14 = .ok (.iload_n 2, 1) := by decide +kernel
theorem dX1_takeUnit_15 : decode cX1_takeUnit 15 = .ok (.iconst 0, 1) := by decide +kernel
theorem dX1_takeUnit_16 : decode cX1_takeUnit 16 = .ok (.invokevirtual 126, 3) := by decide +kernel
theorem dX1_takeUnit_19 : decode cX1_takeUnit 19 = .ok (.istore_n 3, 1) := by decide +kernel
theorem dX1_takeUnit_20 : decode cX1_takeUnit 20 = .ok (.iload_n 3, 1) := by decide +kernel
theorem dX1_takeUnit_21 : decode cX1_takeUnit 21 = .ok (.bipush 127, 2) := by decide +kernel
theorem dX1_takeUnit_23 : decode cX1_takeUnit 23 = .ok (.if_icmp .le 7, 3) := by decide +kernel
theorem dX1_takeUnit_26 : decode cX1_takeUnit 26 = .ok (.iconst 0, 1) := by decide +kernel
theorem dX1_takeUnit_27 : decode cX1_takeUnit 27 = .ok (.goto 7, 3) := by decide +kernel
theorem dX1_takeUnit_30 : decode cX1_takeUnit 30 = .ok (.iload_n 3, 1) := by decide +kernel
theorem dX1_takeUnit_31 : decode cX1_takeUnit 31 = .ok (.bipush 31, 2) := by decide +kernel
theorem dX1_takeUnit_33 : decode cX1_takeUnit 33 = .ok (.iand, 1) := by decide +kernel
theorem dX1_takeUnit_34 : decode cX1_takeUnit 34 = .ok (.istore 4, 2) := by decide +kernel
theorem dX1_takeUnit_36 : decode cX1_takeUnit 36 = .ok (.aload_n 0, 1) := by decide +kernel
theorem dX1_takeUnit_37 : decode cX1_takeUnit 37 = .ok (.iconst (-1), 1) := by decide +kernel
theorem dX1_takeUnit_38 : decode cX1_takeUnit 38 = .ok (.putfield 130, 3) := by decide +kernel
theorem dX1_takeUnit_41 : decode cX1_takeUnit 41 = .ok (.iload 4, 2) := by decide +kernel
theorem dX1_takeUnit_43 : decode cX1_takeUnit 43 = .ok (.iconst 1, 1) := by decide +kernel
theorem dX1_takeUnit_44 : decode cX1_takeUnit 44 = .ok (.if_icmp .eq 9, 3) := by decide +kernel
theorem dX1_takeUnit_47 : decode cX1_takeUnit 47 = .ok (.iload 4, 2) := by decide +kernel
theorem dX1_takeUnit_49 : decode cX1_takeUnit 49 = .ok (.iconst 5, 1) := by decide +kernel
theorem dX1_takeUnit_50 : decode cX1_takeUnit 50 = .ok (.if_icmp .ne 58, 3) := by decide +kernel
theorem dX1_takeUnit_53 : decode cX1_takeUnit 53 = .ok (.aload_n 0, 1) := by decide +kernel
theorem dX1_takeUnit_54 : decode cX1_takeUnit 54 = .ok (.iload 4, 2) := by decide +kernel
theorem dX1_takeUnit_56 : decode cX1_takeUnit 56 = .ok (.iload_n 3, 1) := by decide +kernel
theorem dX1_takeUnit_57 : decode cX1_takeUnit 57 = .ok (.iconst 5, 1) := by decide +kernel
theorem dX1_takeUnit_58 : decode cX1_takeUnit 58 = .ok (.ishr, 1) := by decide +kernel
theorem dX1_takeUnit_59 : decode cX1_takeUnit 59 = .ok (.iconst 3, 1) := by decide +kernel
theorem dX1_takeUnit_60 : decode cX1_takeUnit 60 = .ok (.iand, 1) := by decide +kernel
theorem dX1_takeUnit_61 : decode cX1_takeUnit 61 = .ok (.invokevirtual 133, 3) := by decide +kernel
theorem dX1_takeUnit_64 : decode cX1_takeUnit 64 = .ok (.aload_n 0, 1) := by decide +kernel
theorem dX1_takeUnit_65 : decode cX1_takeUnit 65 = .ok (.getfield 109, 3) := by decide +kernel
theorem dX1_takeUnit_68 : decode cX1_takeUnit 68 = .ok (.ifCond .eq 17, 3) := by decide +kernel
theorem dX1_takeUnit_71 : decode cX1_takeUnit 71 = .ok (.aload_n 0, 1) := by decide +kernel
theorem dX1_takeUnit_72 : decode cX1_takeUnit 72 = .ok (.getfield 68, 3) := by decide +kernel
theorem dX1_takeUnit_75 : decode cX1_takeUnit 75 = .ok (.aload_n 0, 1) := by decide +kernel
theorem dX1_takeUnit_76 : decode cX1_takeUnit 76 = .ok (.getfield 72, 3) := by decide +kernel
theorem dX1_takeUnit_79 : decode cX1_takeUnit 79 = .ok (.invokevirtual 137, 3) := by decide +kernel
theorem dX1_takeUnit_82 : decode cX1_takeUnit 82 = .ok (.ifCond .eq 15, 3) := by decide +kernel
theorem dX1_takeUnit_85 : decode cX1_takeUnit 85 = .ok (.aload_n 0, 1) := by decide +kernel
theorem dX1_takeUnit_86 : decode cX1_takeUnit 86 = .ok (.invokevirtual 141, 3) := by decide +kernel
theorem dX1_takeUnit_89 : decode cX1_takeUnit 89 = .ok (.aload_n 0, 1) := by decide +kernel
theorem dX1_takeUnit_90 : decode cX1_takeUnit 90 = .ok (.invokevirtual 144, 3) := by decide +kernel
theorem dX1_takeUnit_93 : decode cX1_takeUnit 93 = .ok (.aload_n 0, 1) := by decide +kernel
theorem dX1_takeUnit_94 : decode cX1_takeUnit 94 = .ok (.invokevirtual 147, 3) := by decide +kernel
theorem dX1_takeUnit_97 : decode cX1_takeUnit 97 = .ok (.aload_n 0, 1) := by decide +kernel
theorem dX1_takeUnit_98 : decode cX1_takeUnit 98 = .ok (.invokevirtual 150, 3) := by decide +kernel
theorem dX1_takeUnit_101 : decode cX1_takeUnit 101 = .ok (.aload_n 0, 1) := by decide +kernel
theorem dX1_takeUnit_102 : decode cX1_takeUnit 102 = .ok (.invokevirtual 153, 3) := by decide +kernel
theorem dX1_takeUnit_105 : decode cX1_takeUnit 105 = .ok (.goto 36, 3) := by decide +kernel
theorem dX1_takeUnit_108 : decode cX1_takeUnit 108 = .ok (.iload 4, 2) := by decide +kernel
theorem dX1_takeUnit_110 : decode cX1_takeUnit 110 = .ok (.bipush 7, 2) := by decide +kernel
theorem dX1_takeUnit_112 : decode cX1_takeUnit 112 = .ok (.if_icmp .ne 14, 3) := by decide +kernel
theorem dX1_takeUnit_115 : decode cX1_takeUnit 115 = .ok (.aload_n 0, 1) := by decide +kernel
theorem dX1_takeUnit_116 : decode cX1_takeUnit 116 = .ok (.invokevirtual 141, 3) := by decide +kernel
theorem dX1_takeUnit_119 : decode cX1_takeUnit 119 = .ok (.aload_n 0, 1) := by decide +kernel
theorem dX1_takeUnit_120 : decode cX1_takeUnit 120 = .ok (.invokevirtual 156, 3) := by decide +kernel
theorem dX1_takeUnit_123 : decode cX1_takeUnit 123 = .ok (.goto 18, 3) := by decide +kernel
theorem dX1_takeUnit_126 : decode cX1_takeUnit 126 = .ok (.iload 4, 2) := by decide +kernel
theorem dX1_takeUnit_128 : decode cX1_takeUnit 128 = .ok (.bipush 8, 2) := by decide +kernel
theorem dX1_takeUnit_130 : decode cX1_takeUnit 130 = .ok (.if_icmp .ne 11, 3) := by decide +kernel
theorem dX1_takeUnit_133 : decode cX1_takeUnit 133 = .ok (.aload_n 0, 1) := by decide +kernel
theorem dX1_takeUnit_134 : decode cX1_takeUnit 134 = .ok (.invokevirtual 141, 3) := by decide +kernel
theorem dX1_takeUnit_137 : decode cX1_takeUnit 137 = .ok (.aload_n 0, 1) := by decide +kernel
theorem dX1_takeUnit_138 : decode cX1_takeUnit 138 = .ok (.invokevirtual 159, 3) := by decide +kernel
theorem dX1_takeUnit_141 : decode cX1_takeUnit 141 = .ok (.goto 10, 3) := by decide +kernel
theorem dX1_takeUnit_144 : decode cX1_takeUnit 144 = .ok (.astore 5, 2) := by decide +kernel
theorem dX1_takeUnit_146 : decode cX1_takeUnit 146 = .ok (.aload_n 0, 1) := by decide +kernel
theorem dX1_takeUnit_147 : decode cX1_takeUnit 147 = .ok (.iload_n 2, 1) := by decide +kernel
theorem dX1_takeUnit_148 : decode cX1_takeUnit 148 = .ok (.invokevirtual 164, 3) := by decide +kernel
theorem dX1_takeUnit_151 : decode cX1_takeUnit 151 = .ok (.aload_n 1, 1) := by decide +kernel
theorem dX1_takeUnit_152 : decode cX1_takeUnit 152 = .ok (.iload_n 2, 1) := by decide +kernel
theorem dX1_takeUnit_153 : decode cX1_takeUnit 153 = .ok (.iconst 1, 1) := by decide +kernel
theorem dX1_takeUnit_154 : decode cX1_takeUnit 154 = .ok (.iadd, 1) := by decide +kernel
theorem dX1_takeUnit_155 : decode cX1_takeUnit 155 = .ok (.putfield 167, 3) := by decide +kernel
theorem dX1_takeUnit_158 : decode cX1_takeUnit 158 = .ok (.return_, 1) := by decide +kernel
noncomputable def FX1_takeUnit (G : GG) (M : DD) (a : Nat) (p0 : Option Nat) (p1 : Int32) : Option (NN × DD) :=
  dr (xt G []) 8 p0 fun b2 =>
  bnd (FX8_loadPayload (xt G []) M b2 p1) fun y3 =>
  dr (xt G []) 5 ((y3.2 a 0)) fun b4 =>
  bnd (FX5_load (xt G []) y3 b4 p0) fun y5 =>
  bnd (FX8_byteAt (xt G []) y5 b2 p1 ((0 : Int32))) fun y6 =>
  bnd (if y6.2 ≤ ((127 : Int32)) then (ltt ((y6.2 &&& ((31 : Int32)))) fun x142 =>
  some (x142)) else
  (some ((0 : Int32)))) fun (y7 : Int32) =>
  ltt (uI y6.1 a 21 ((-1 : Int32))) fun M8 =>
  bnd (if y7 = ((1 : Int32)) then (ltt ((y6.2 >>> (((5 : Int32)) &&& 31))) fun x17 =>
  ltt ((x17 &&& ((3 : Int32)))) fun x18 =>
  bnd (FX1_readHeader (xt G []) M8 a y7 x18) fun y19 =>
  ltt (y19.1 a 16) fun x20 =>
  bnd (if x20 = ((0 : Int32)) then (chk (okd (xt G []) p0 = true) <|
  bnd (FX1_endPicture (xt G []) y19 a) fun y29 =>
  app y29.1 <|
  ltt ([] ++ y29.1) fun L32 =>
  bnd (FX1_bridge (xt G L32) y29.2 a) fun y35 =>
  chk (okd (xt G L32) p0 = true) <|
  bnd (FX1_beginPicture (xt G L32) y35 a) fun y36 =>
  app y36.1 <|
  ltt (L32 ++ y36.1) fun L39 =>
  some ([], y36.2)) else
  (dr (xt G []) 3 ((y19.2 a 10)) fun b42 =>
  bnd (FX3_beginsBehind (xt G []) y19 b42 ((y19.2 a 11))) fun y43 =>
  bnd (if y43.2 = ((0 : Int32)) then (some ([], y43.1)) else
  (chk (okd (xt G []) p0 = true) <|
  bnd (FX1_endPicture (xt G []) y43.1 a) fun y50 =>
  app y50.1 <|
  ltt ([] ++ y50.1) fun L53 =>
  bnd (FX1_bridge (xt G L53) y50.2 a) fun y56 =>
  chk (okd (xt G L53) p0 = true) <|
  bnd (FX1_beginPicture (xt G L53) y56 a) fun y57 =>
  app y57.1 <|
  ltt (L53 ++ y57.1) fun L60 =>
  some ([], y57.2))) fun (y44 : NN × DD) =>
  app y44.1 <|
  ltt ([] ++ y44.1) fun L46 =>
  some ([], y44.2))) fun (y21 : NN × DD) =>
  app y21.1 <|
  ltt ([] ++ y21.1) fun L23 =>
  bnd (FX1_beginSlice (xt G L23) y21.2 a) fun y25 =>
  bnd (FX1_readData (xt G L23) y25 a) fun y26 =>
  some ([], y26)) else
  (bnd (if y7 = ((5 : Int32)) then (ltt ((y6.2 >>> (((5 : Int32)) &&& 31))) fun x95 =>
  ltt ((x95 &&& ((3 : Int32)))) fun x96 =>
  bnd (FX1_readHeader (xt G []) M8 a y7 x96) fun y97 =>
  ltt (y97.1 a 16) fun x98 =>
  bnd (if x98 = ((0 : Int32)) then (chk (okd (xt G []) p0 = true) <|
  bnd (FX1_endPicture (xt G []) y97 a) fun y107 =>
  app y107.1 <|
  ltt ([] ++ y107.1) fun L110 =>
  bnd (FX1_bridge (xt G L110) y107.2 a) fun y113 =>
  chk (okd (xt G L110) p0 = true) <|
  bnd (FX1_beginPicture (xt G L110) y113 a) fun y114 =>
  app y114.1 <|
  ltt (L110 ++ y114.1) fun L117 =>
  some ([], y114.2)) else
  (dr (xt G []) 3 ((y97.2 a 10)) fun b120 =>
  bnd (FX3_beginsBehind (xt G []) y97 b120 ((y97.2 a 11))) fun y121 =>
  bnd (if y121.2 = ((0 : Int32)) then (some ([], y121.1)) else
  (chk (okd (xt G []) p0 = true) <|
  bnd (FX1_endPicture (xt G []) y121.1 a) fun y128 =>
  app y128.1 <|
  ltt ([] ++ y128.1) fun L131 =>
  bnd (FX1_bridge (xt G L131) y128.2 a) fun y134 =>
  chk (okd (xt G L131) p0 = true) <|
  bnd (FX1_beginPicture (xt G L131) y134 a) fun y135 =>
  app y135.1 <|
  ltt (L131 ++ y135.1) fun L138 =>
  some ([], y135.2))) fun (y122 : NN × DD) =>
  app y122.1 <|
  ltt ([] ++ y122.1) fun L124 =>
  some ([], y122.2))) fun (y99 : NN × DD) =>
  app y99.1 <|
  ltt ([] ++ y99.1) fun L101 =>
  bnd (FX1_beginSlice (xt G L101) y99.2 a) fun y103 =>
  bnd (FX1_readData (xt G L101) y103 a) fun y104 =>
  some ([], y104)) else
  (bnd (if y7 = ((7 : Int32)) then (chk (okd (xt G []) p0 = true) <|
  bnd (FX1_endPicture (xt G []) M8 a) fun y88 =>
  app y88.1 <|
  ltt ([] ++ y88.1) fun L91 =>
  bnd (FX1_readSequence (xt G L91) y88.2 a) fun y94 =>
  some ([], y94)) else
  (bnd (if y7 = ((8 : Int32)) then (chk (okd (xt G []) p0 = true) <|
  bnd (FX1_endPicture (xt G []) M8 a) fun y81 =>
  app y81.1 <|
  ltt ([] ++ y81.1) fun L84 =>
  bnd (FX1_readParameters (xt G L84) y81.2 a) fun y87 =>
  some ([], y87)) else
  (some ([], M8))) fun (y75 : NN × DD) =>
  app y75.1 <|
  ltt ([] ++ y75.1) fun L77 =>
  some ([], y75.2))) fun (y69 : NN × DD) =>
  app y69.1 <|
  ltt ([] ++ y69.1) fun L71 =>
  some ([], y69.2))) fun (y63 : NN × DD) =>
  app y63.1 <|
  ltt ([] ++ y63.1) fun L65 =>
  some ([], y63.2))) fun (y9 : NN × DD) =>
  app y9.1 <|
  ltt ([] ++ y9.1) fun L11 =>
  ltt ((p1 + ((1 : Int32)))) fun x13 =>
  ltt (uI y9.2 b2 4 x13) fun M14 =>
  some ([], M14)
set_option maxHeartbeats 4000000 in
set_option maxRecDepth 100000 in
theorem kX1_takeUnit (l : Launch) (D : va_G) (ct : CT) (ad : Nat → Nat) (Z : Nat → Nat) (G : GG) (M : DD) (sz : Nat) (a : Nat) (p0 : Option Nat) (p1 : Int32) (y : NN × DD) (hc : a < G.1) (hk : G.2.1 a = 1) (hF : FX1_takeUnit G M a p0 p1 = some y) : Met l yX1_takeUnit wsX1_takeUnit ({ frames := 7, cells := y.1.length, slots := wt y.1, locals := 199 }) (va_Pc [.ref (ad a), va_re ad p0, .int p1] (kB D ct ad Z G M sz)) (va_Qv (fun (u : Nat → Nat) => agr G.1 ad u) (fun u t => kE D ct u (xt G y.1) (wA ad G sz) y.2 t) (wA ad G sz)) y.1.length (wt y.1) (wA ad G sz) := by
  refine mt_ofWH (cc := cX1_takeUnit) (maxL := 6) (ret := none) (hh := [(41, 141, 144, 162)]) (by decide) rfl ?_
  intro p e s m args below meth c s₁ B hml hv
  obtain ⟨rfl, hsz, hP, hK, hD0, hZ, hN⟩ := hv
  have hx := B.exec
  have hb := B.bytes
  have hr := B.returns
  have hts := atoms_spec (ws := wsX1_takeUnit) B.pre
  have hown : s.vm.findClass RX1 = some m.cls := findClass_of_methodNamed B.named
  have hlocks := B.notSynchronized
  subst hsz
  have hD := wD_self (sz := s.heap.size) hD0
  have hA9 : ∀ q, s.heap.size ≤ q → wA ad G s.heap.size q := fun q h => Or.inr h
  generalize hAe : wA ad G s.heap.size = A at hD hA9 hZ ⊢
  have hS : va_S A s.heap s.heap [] := va_S.rf
  have hl := lv_entry ([.ref (ad a), va_re ad p0, .int p1]) (n := 6) (by cases p0 <;> exact Nat.le_of_ble_eq_true rfl)
  rw [lg_entry_eq]
  generalize (lg_sl ([.ref (ad a), va_re ad p0, .int p1]) ++ List.replicate (6 - (lg_sl ([.ref (ad a), va_re ad p0, .int p1])).length) Slot.unset).toArray = ls at hl ⊢
  have hl : lv_has ls 6 [(0, .ref (ad a)), (1, va_re ad p0), (2, .int p1)] := by have e9 : lv_args 0 [.ref (ad a), va_re ad p0, .int p1] = [(0, .ref (ad a)), (1, va_re ad p0), (2, .int p1)] := (by cases p0 <;> rfl); rw [e9] at hl; exact hl
  unfold FX1_takeUnit at hF
  rw [← wld_0 ct ad G M] at hP hD
  have hk := xt_k0 hc hk
  have hc := xt_l0 hc
  have hag := agr_rf G.1 ad
  obtain ⟨w0, hw0⟩ : ∃ z, z = y := ⟨_, rfl⟩
  rw [← hw0] at hF
  have hT : y.1 = [] ++ w0.1 := by rw [hw0]; rfl
  have h2 : y.2 = w0.2 := by rw [hw0]
  have hbl : y.1.length ≤ y.1.length ∧ wt y.1 ≤ wt y.1 := ⟨Nat.le_refl _, Nat.le_refl _⟩
  refine lv_aloadq_n hx hb dX1_takeUnit_0 rfl (lv_at hl 1 rfl) ?_
  refine lv_iload_n hx hb dX1_takeUnit_1 rfl (lv_at hl 2 rfl) ?_
  obtain ⟨b2, ho2, hc2, hk2, hF⟩ := dr_some hF
  refine W_st (st' := [.int p1, .ref (ad b2)]) (by rw [va_some ho2]) ?_
  obtain ⟨y3, hy3, hF⟩ := bnd_some hF
  have hf9 := wA_in hD hA9 hS
  refine va_callv (va_runV (As := [.int p1]) (rest := []) ⟨hx, hb, hml, hown, hts⟩ (kX8_loadPayload l D ct ad Z (xt G []) M s.heap.size b2 p1 y3 hc2 hk2 hy3) (cwV 1 hts gX1_takeUnit_X8_loadPayload rfl rfl rfl (by decide +kernel) ⟨Nat.le_of_ble_eq_true rfl, Nat.le_of_ble_eq_true rfl⟩) ⟨fun a U g mk q => by obtain ⟨q0, q1, qP, qK, qD, qZ, qN⟩ := q; exact ⟨q0, q1, qP, va_K.moved (u := U) (U := U.calling g mk a) (Vm.Alike.refl U.vm) qK, qD, sF.moved (u := U) (U := U.calling g mk a) (Vm.Alike.refl U.vm) qZ, nF.same rfl qN⟩, va_recv hK hP (ci := 8) (q0 := b2) rfl (wld_o ct ad (xt G []) M hc2 hk2 (by decide)), fun U hU hW => ⟨rfl, by rw [hU], by rw [hU]; exact hP, va_K.moved hW.alike hK, hD.weaken (fun _ _ _ _ => trivial), by rw [hU]; exact ((hZ.kept hS.2.1).narrow hf9).moved hW.alike, hN.warm hW⟩⟩ rfl rfl hl.1 rfl (lv_room (Nat.le_of_ble_eq_true rfl)) dX1_takeUnit_2 (room_d hT hbl)) hS (fun q _ h => hf9 q h) hf9 (fun u t H locs ht hvm hw hB hz1 hk1 hS => ?_)
  obtain ⟨hP, hK9, hD9⟩ := hB
  rw [ht] at hP
  refine W_cs (k := ([] : NN).length) (n := wt []) rfl rfl ?_
  have hD := hD9.weaken (fun _ q _ h => hf9 q.1 h)
  refine lv_aload_n hx hb dX1_takeUnit_5 rfl (lv_at hl 0 rfl) ?_
  refine va_get (D := D) (ci := 1) (v := va_re ad (y3.2 a 0)) (C := RX1) (T := TX1) (N := 22) hx hb hts (by decide +kernel) hown hK hP a (wld_o ct ad (xt G []) y3 hc hk (by decide)) rfl 0 (by decide) (hts (.fieldLink RX1 12 "VideoSuite$Decoder" "reader" "LVideoSuite$Reader;") (by decide +kernel)) (fun _ h9 => h9) rfl dX1_takeUnit_6 ?_
  refine lv_aloadq_n hx hb dX1_takeUnit_9 rfl (lv_at hl 1 rfl) ?_
  obtain ⟨b4, ho4, hc4, hk4, hF⟩ := dr_some hF
  refine W_st (st' := [va_re ad p0, .ref (ad b4)]) (by rw [va_some ho4]) ?_
  obtain ⟨y5, hy5, hF⟩ := bnd_some hF
  have hf9 := wA_in hD hA9 hS
  refine va_callv (va_runV (As := [va_re ad p0]) (rest := []) ⟨hx, hb, hml, hown, hts⟩ (kX5_load l D ct ad Z (xt G []) y3 H.size b4 p0 y5 hc4 hk4 hy5) (cwV 1 hts gX1_takeUnit_X5_load rfl rfl rfl (by decide +kernel) ⟨Nat.le_of_ble_eq_true rfl, Nat.le_of_ble_eq_true rfl⟩) ⟨fun a U g mk q => by obtain ⟨q0, q1, qP, qK, qD, qZ, qN⟩ := q; exact ⟨q0, q1, qP, va_K.moved (u := U) (U := U.calling g mk a) (Vm.Alike.refl U.vm) qK, qD, sF.moved (u := U) (U := U.calling g mk a) (Vm.Alike.refl U.vm) qZ, nF.same rfl qN⟩, va_recv hK hP (ci := 5) (q0 := b4) rfl (wld_o ct ad (xt G []) y3 hc4 hk4 (by decide)), fun U hU hW => ⟨rfl, by rw [hU], by rw [hU]; exact hP, va_K.moved hW.alike hK, hD.weaken (fun _ _ _ _ => trivial), by rw [hU]; exact ((hZ.kept hS.2.1).narrow hf9).moved hW.alike, hN.warm hW⟩⟩ rfl rfl hl.1 rfl (lv_room (Nat.le_of_ble_eq_true rfl)) dX1_takeUnit_10 (room_d hT hbl)) hS (fun q _ h => hf9 q h) hf9 (fun u t H locs ht hvm hw hB hz1 hk1 hS => ?_)
  obtain ⟨hP, hK9, hD9⟩ := hB
  rw [ht] at hP
  refine W_cs (k := ([] : NN).length) (n := wt []) rfl rfl ?_
  have hD := hD9.weaken (fun _ q _ h => hf9 q.1 h)
  refine lv_aloadq_n hx hb dX1_takeUnit_13 rfl (lv_at hl 1 rfl) ?_
  refine lv_iload_n hx hb dX1_takeUnit_14 rfl (lv_at hl 2 rfl) ?_
  refine lv_iconst (v := (0 : Int32)) hx hb dX1_takeUnit_15 (by decide) ?_
  refine W_st (st' := [.int (0 : Int32), .int p1, .ref (ad b2)]) (by rw [va_some ho2]) ?_
  obtain ⟨y6, hy6, hF⟩ := bnd_some hF
  have hf9 := wA_in hD hA9 hS
  refine va_calli (va_runV (As := [.int p1, .int (0 : Int32)]) (rest := []) ⟨hx, hb, hml, hown, hts⟩ (kX8_byteAt l D ct ad Z (xt G []) y5 H.size b2 p1 ((0 : Int32)) y6 hc2 hk2 hy6) (cwV 2 hts gX1_takeUnit_X8_byteAt rfl rfl rfl (by decide +kernel) ⟨Nat.le_of_ble_eq_true rfl, Nat.le_of_ble_eq_true rfl⟩) ⟨fun a U g mk q => by obtain ⟨q0, q1, qP, qK, qD, qZ, qN⟩ := q; exact ⟨q0, q1, qP, va_K.moved (u := U) (U := U.calling g mk a) (Vm.Alike.refl U.vm) qK, qD, sF.moved (u := U) (U := U.calling g mk a) (Vm.Alike.refl U.vm) qZ, nF.same rfl qN⟩, va_recv hK hP (ci := 8) (q0 := b2) rfl (wld_o ct ad (xt G []) y5 hc2 hk2 (by decide)), fun U hU hW => ⟨rfl, by rw [hU], by rw [hU]; exact hP, va_K.moved hW.alike hK, hD.weaken (fun _ _ _ _ => trivial), by rw [hU]; exact ((hZ.kept hS.2.1).narrow hf9).moved hW.alike, hN.warm hW⟩⟩ rfl rfl hl.1 rfl (lv_room (Nat.le_of_ble_eq_true rfl)) dX1_takeUnit_16 (room_d hT hbl)) hS (fun q _ h => hf9 q h) hf9 (fun r u t H locs ht hvm hw hB hz1 hk1 hS => ?_)
  obtain ⟨hP, hK9, hD9⟩ := hB
  rw [ht] at hP
  try dsimp only at hw
  subst hw
  refine W_cs (k := ([] : NN).length) (n := wt []) rfl rfl ?_
  have hD := hD9.weaken (fun _ q _ h => hf9 q.1 h)
  refine lv_istore_n (lv' := [(3, .int y6.2), (0, .ref (ad a)), (1, va_re ad p0), (2, .int p1)]) hx hb dX1_takeUnit_19 rfl hl (by decide) rfl (fun ls hl => ?_)
  refine lv_iload_n hx hb dX1_takeUnit_20 rfl (lv_at hl 0 rfl) ?_
  refine lv_bipush (v := (127 : Int32)) hx hb dX1_takeUnit_21 (by decide) ?_
  obtain ⟨y7, hy7, hF⟩ := bnd_some hF
  have J7 : ∀ (H : Heap) (locs : List Loc) (ls : Array Slot), va_P D classes (wld ct ad (xt G []) y6.1) H → va_D A (wld ct ad (xt G []) y6.1) → va_S A s.heap H locs → lv_has ls 6 [(3, .int y6.2), (0, .ref (ad a)), (1, va_re ad p0), (2, .int p1)] → W p l e (headSpec wsX1_takeUnit ({ frames := 7, cells := y.1.length, slots := wt y.1, locals := 199 })).room s m ([.ref (ad a), va_re ad p0, .int p1] : List Value).toArray below meth c H locs ([] : NN).length (wt []) (MQ below (va_Qv (fun (u : Nat → Nat) => agr G.1 ad u) (fun u t => kE D ct u (xt G y.1) A y.2 t) A) ([.ref (ad a), va_re ad p0, .int p1] : List Value).toArray s y.1.length (wt y.1) A) (F0 m 34 ls [.int y7]) := by
    intro H locs ls hP hD hS hl
    refine lv_istore (lv' := [(4, .int y7), (3, .int y6.2), (0, .ref (ad a)), (1, va_re ad p0), (2, .int p1)]) hx hb dX1_takeUnit_34 hl (by decide) rfl (fun ls hl => ?_)
    refine lv_aload_n hx hb dX1_takeUnit_36 rfl (lv_at hl 2 rfl) ?_
    refine lv_iconst (v := (-1 : Int32)) hx hb dX1_takeUnit_37 (by decide) ?_
    refine va_put (D := D) (ci := 1) (v := .int (-1 : Int32)) (ty := .int) (C := RX1) (T := TX1) (N := 22) hx hb hts (by decide +kernel) tyX1 tyX1_ok nmX1 hown hK hP hD hS a (wld_o ct ad (xt G []) y6.1 hc hk (by decide)) rfl 21 (by decide) (hts (.fieldLink RX1 130 "VideoSuite$Decoder" "current" "I") (by decide +kernel)) (fun _ h9 => h9) rfl (by decide +kernel) rfl rfl (Nat.le_of_ble_eq_true rfl) dX1_takeUnit_38 (fun H locs hP hD hS => ?_)
    obtain ⟨M8, eM8, hF⟩ := ltt_some hF
    rw [set_oI ct ad (xt G []) y6.1 hc hk (by decide) (by rfl), ← eM8] at hP hD
    refine lv_iload hx hb dX1_takeUnit_41 (lv_at hl 0 rfl) ?_
    refine lv_iconst (v := (1 : Int32)) hx hb dX1_takeUnit_43 (by decide) ?_
    obtain ⟨y9, hy9, hF⟩ := bnd_some hF
    obtain ⟨w10, hF, ew10⟩ := app_some hF
    obtain ⟨L11, eL11, hF⟩ := ltt_some hF
    have hT11 : y.1 = ([] ++ y9.1) ++ w10.1 := by rw [hT, ew10]; simp only [List.append_assoc]
    have hbl11 : L11.length ≤ y.1.length ∧ wt L11 ≤ wt y.1 := by rw [eL11]; exact room_d hT11 hbl
    have J9 : ∀ (ad12 : Nat → Nat), agr G.1 ad ad12 → ∀ (H : Heap) (locs : List Loc) (ls : Array Slot), va_P D classes (wld ct ad12 (xt G L11) y9.2) H → va_D A (wld ct ad12 (xt G L11) y9.2) → va_S A s.heap H locs → lv_has ls 6 [(1, va_re ad12 p0), (2, .int p1)] → W p l e (headSpec wsX1_takeUnit ({ frames := 7, cells := y.1.length, slots := wt y.1, locals := 199 })).room s m ([.ref (ad a), va_re ad p0, .int p1] : List Value).toArray below meth c H locs (L11 : NN).length (wt L11) (MQ below (va_Qv (fun (u : Nat → Nat) => agr G.1 ad u) (fun u t => kE D ct u (xt G y.1) A y.2 t) A) ([.ref (ad a), va_re ad p0, .int p1] : List Value).toArray s y.1.length (wt y.1) A) (F0 m 141 ls []) := by
      intro ad12 hag H locs ls hP hD hS hl
      have hT : y.1 = L11 ++ w10.1 := by rw [hT11, eL11]
      have h2 : y.2 = w10.2 := by rw [h2, ew10]
      have hk : (xt G L11).2.1 a = 1 := by rw [eL11]; exact xt_k _ hc hk
      have hc : a < (xt G L11).1 := by rw [eL11]; exact xt_l _ hc
      have hk2 : (xt G L11).2.1 b2 = 8 := by rw [eL11]; exact xt_k _ hc2 hk2
      have hc2 : b2 < (xt G L11).1 := by rw [eL11]; exact xt_l _ hc2
      have hk4 : (xt G L11).2.1 b4 = 5 := by rw [eL11]; exact xt_k _ hc4 hk4
      have hc4 : b4 < (xt G L11).1 := by rw [eL11]; exact xt_l _ hc4
      refine lv_goto (tgt := 151) hx hb dX1_takeUnit_141 (by decide) ?_
      refine lv_aloadq_n hx hb dX1_takeUnit_151 rfl (lv_at hl 0 rfl) ?_
      refine lv_iload_n hx hb dX1_takeUnit_152 rfl (lv_at hl 1 rfl) ?_
      refine lv_iconst (v := (1 : Int32)) hx hb dX1_takeUnit_153 (by decide) ?_
      refine lv_iadd hx hb dX1_takeUnit_154 ?_
      obtain ⟨x13, ex13, hF⟩ := ltt_some hF
      refine lv_topi (fun zx13 ezx13 => ?_)
      obtain rfl : x13 = zx13 := ex13.trans ezx13.symm
      refine W_st (st' := [.int x13, .ref (ad12 b2)]) (by rw [va_some ho2]) ?_
      refine va_put (D := D) (ci := 8) (v := .int x13) (ty := .int) (C := RX8) (T := TX8) (N := 15) hx hb hts (by decide +kernel) tyX8 tyX8_ok nmX8 hown hK hP hD hS b2 (wld_o ct ad12 (xt G L11) y9.2 hc2 hk2 (by decide)) rfl 4 (by decide) (hts (.fieldLink RX1 167 "VideoSuite$Units" "decoded" "I") (by decide +kernel)) (fun _ h9 => h9) rfl (by decide +kernel) rfl rfl (Nat.le_of_ble_eq_true rfl) dX1_takeUnit_155 (fun H locs hP hD hS => ?_)
      obtain ⟨M14, eM14, hF⟩ := ltt_some hF
      rw [set_oI ct ad12 (xt G L11) y9.2 hc2 hk2 (by decide) (by rfl), ← eM14] at hP hD
      obtain rfl := Option.some.inj hF
      have e1 : y.1 = L11 := by rw [hT]; exact List.append_nil _
      have e2 : y.2 = M14 := h2
      refine W.widen (k := y.1.length) (n := wt y.1) (Nat.le_of_eq (by rw [e1])) (Nat.le_of_eq (by rw [e1])) ?_
      exact W.vret hx hb hr (fun t ht hW => ⟨⟨ad12, rfl, hag, (by unfold kE; rw [e1, e2]; exact ⟨by rw [ht]; exact hP, va_K.moved hW.alike hK, hD⟩)⟩, hS.F ht⟩) hS.2.2 dX1_takeUnit_158
    clear hF
    obtain ⟨w15, hw15⟩ : ∃ z, z = y9 := ⟨_, rfl⟩
    have hF := hy9
    rw [← hw15] at hF
    clear hy9
    have hT : L11 = [] ++ w15.1 := by rw [eL11, hw15]
    have h2 : y9.2 = w15.2 := by rw [hw15]
    have hbl := hbl11
    refine lv_icmp_eq (tgt := 53) hx hb dX1_takeUnit_44 (by decide) (fun c16 => ?_) (fun c16 => ?_)
    · rw [if_pos c16] at hF
      refine lv_aload_n hx hb dX1_takeUnit_53 rfl (lv_at hl 2 rfl) ?_
      refine lv_iload hx hb dX1_takeUnit_54 (lv_at hl 0 rfl) ?_
      refine lv_iload_n hx hb dX1_takeUnit_56 rfl (lv_at hl 1 rfl) ?_
      refine lv_iconst (v := (5 : Int32)) hx hb dX1_takeUnit_57 (by decide) ?_
      refine lv_ishr hx hb dX1_takeUnit_58 ?_
      obtain ⟨x17, ex17, hF⟩ := ltt_some hF
      refine lv_topi (fun zx17 ezx17 => ?_)
      obtain rfl : x17 = zx17 := ex17.trans ezx17.symm
      refine lv_iconst (v := (3 : Int32)) hx hb dX1_takeUnit_59 (by decide) ?_
      refine lv_iand hx hb dX1_takeUnit_60 ?_
      obtain ⟨x18, ex18, hF⟩ := ltt_some hF
      refine lv_topi (fun zx18 ezx18 => ?_)
      obtain rfl : x18 = zx18 := ex18.trans ezx18.symm
      obtain ⟨y19, hy19, hF⟩ := bnd_some hF
      have hf9 := wA_in hD hA9 hS
      refine va_callv (va_runV (As := [.int y7, .int x18]) (rest := []) ⟨hx, hb, hml, hown, hts⟩ (kX1_readHeader l D ct ad Z (xt G []) M8 H.size a y7 x18 y19 hc hk hy19) (cwV 2 hts gX1_takeUnit_X1_readHeader rfl rfl rfl (by decide +kernel) ⟨Nat.le_of_ble_eq_true rfl, Nat.le_of_ble_eq_true rfl⟩) ⟨fun a U g mk q => by obtain ⟨q0, q1, qP, qK, qD, qZ, qN⟩ := q; exact ⟨q0, q1, qP, va_K.moved (u := U) (U := U.calling g mk a) (Vm.Alike.refl U.vm) qK, qD, sF.moved (u := U) (U := U.calling g mk a) (Vm.Alike.refl U.vm) qZ, nF.same rfl qN⟩, va_recv hK hP (ci := 1) (q0 := a) rfl (wld_o ct ad (xt G []) M8 hc hk (by decide)), fun U hU hW => ⟨rfl, by rw [hU], by rw [hU]; exact hP, va_K.moved hW.alike hK, hD.weaken (fun _ _ _ _ => trivial), by rw [hU]; exact ((hZ.kept hS.2.1).narrow hf9).moved hW.alike, hN.warm hW⟩⟩ rfl rfl hl.1 rfl (lv_room (Nat.le_of_ble_eq_true rfl)) dX1_takeUnit_61 (room_d hT hbl)) hS (fun q _ h => hf9 q h) hf9 (fun u t H locs ht hvm hw hB hz1 hk1 hS => ?_)
      obtain ⟨hP, hK9, hD9⟩ := hB
      rw [ht] at hP
      refine W_cs (k := ([] : NN).length) (n := wt []) rfl rfl ?_
      have hD := hD9.weaken (fun _ q _ h => hf9 q.1 h)
      refine lv_aload_n hx hb dX1_takeUnit_64 rfl (lv_at hl 2 rfl) ?_
      refine va_get (D := D) (ci := 1) (v := .int (y19.1 a 16)) (C := RX1) (T := TX1) (N := 22) hx hb hts (by decide +kernel) hown hK hP a (wld_o ct ad (xt G []) y19 hc hk (by decide)) rfl 16 (by decide) (hts (.fieldLink RX1 109 "VideoSuite$Decoder" "underWay" "Z") (by decide +kernel)) (fun _ h9 => h9) rfl dX1_takeUnit_65 ?_
      obtain ⟨x20, ex20, hF⟩ := ltt_some hF
      refine lv_topi (fun zx20 ezx20 => ?_)
      obtain rfl : x20 = zx20 := ex20.trans ezx20.symm
      obtain ⟨y21, hy21, hF⟩ := bnd_some hF
      obtain ⟨w22, hF, ew22⟩ := app_some hF
      obtain ⟨L23, eL23, hF⟩ := ltt_some hF
      have hT23 : L11 = ([] ++ y21.1) ++ w22.1 := by rw [hT, ew22]; simp only [List.append_assoc]
      have hbl23 : L23.length ≤ y.1.length ∧ wt L23 ≤ wt y.1 := by rw [eL23]; exact room_d hT23 hbl
      have J21 : ∀ (ad24 : Nat → Nat), agr G.1 ad ad24 → ∀ (H : Heap) (locs : List Loc) (ls : Array Slot), va_P D classes (wld ct ad24 (xt G L23) y21.2) H → va_D A (wld ct ad24 (xt G L23) y21.2) → va_S A s.heap H locs → lv_has ls 6 [(0, .ref (ad24 a)), (1, va_re ad24 p0), (2, .int p1)] → W p l e (headSpec wsX1_takeUnit ({ frames := 7, cells := y.1.length, slots := wt y.1, locals := 199 })).room s m ([.ref (ad a), va_re ad p0, .int p1] : List Value).toArray below meth c H locs (L23 : NN).length (wt L23) (MQ below (va_Qv (fun (u : Nat → Nat) => agr G.1 ad u) (fun u t => kE D ct u (xt G y.1) A y.2 t) A) ([.ref (ad a), va_re ad p0, .int p1] : List Value).toArray s y.1.length (wt y.1) A) (F0 m 97 ls []) := by
        intro ad24 hag H locs ls hP hD hS hl
        have hT : L11 = L23 ++ w22.1 := by rw [hT23, eL23]
        have h2 : y9.2 = w22.2 := by rw [h2, ew22]
        have hk : (xt G L23).2.1 a = 1 := by rw [eL23]; exact xt_k _ hc hk
        have hc : a < (xt G L23).1 := by rw [eL23]; exact xt_l _ hc
        have hk2 : (xt G L23).2.1 b2 = 8 := by rw [eL23]; exact xt_k _ hc2 hk2
        have hc2 : b2 < (xt G L23).1 := by rw [eL23]; exact xt_l _ hc2
        have hk4 : (xt G L23).2.1 b4 = 5 := by rw [eL23]; exact xt_k _ hc4 hk4
        have hc4 : b4 < (xt G L23).1 := by rw [eL23]; exact xt_l _ hc4
        refine lv_aload_n hx hb dX1_takeUnit_97 rfl (lv_at hl 0 rfl) ?_
        obtain ⟨y25, hy25, hF⟩ := bnd_some hF
        have hf9 := wA_in hD hA9 hS
        refine va_callv (va_runV (As := []) (rest := []) ⟨hx, hb, hml, hown, hts⟩ (kX1_beginSlice l D ct ad24 Z (xt G L23) y21.2 H.size a y25 hc hk hy25) (cwV 0 hts gX1_takeUnit_X1_beginSlice rfl rfl rfl (by decide +kernel) ⟨Nat.le_of_ble_eq_true rfl, Nat.le_of_ble_eq_true rfl⟩) ⟨fun a U g mk q => by obtain ⟨q0, q1, qP, qK, qD, qZ, qN⟩ := q; exact ⟨q0, q1, qP, va_K.moved (u := U) (U := U.calling g mk a) (Vm.Alike.refl U.vm) qK, qD, sF.moved (u := U) (U := U.calling g mk a) (Vm.Alike.refl U.vm) qZ, nF.same rfl qN⟩, va_recv hK hP (ci := 1) (q0 := a) rfl (wld_o ct ad24 (xt G L23) y21.2 hc hk (by decide)), fun U hU hW => ⟨rfl, by rw [hU], by rw [hU]; exact hP, va_K.moved hW.alike hK, hD.weaken (fun _ _ _ _ => trivial), by rw [hU]; exact ((hZ.kept hS.2.1).narrow hf9).moved hW.alike, hN.warm hW⟩⟩ rfl rfl hl.1 rfl (lv_room (Nat.le_of_ble_eq_true rfl)) dX1_takeUnit_98 (room_d hT hbl)) hS (fun q _ h => hf9 q h) hf9 (fun u t H locs ht hvm hw hB hz1 hk1 hS => ?_)
        obtain ⟨hP, hK9, hD9⟩ := hB
        rw [ht] at hP
        refine W_cs (k := (L23 : NN).length) (n := wt L23) rfl rfl ?_
        have hD := hD9.weaken (fun _ q _ h => hf9 q.1 h)
        refine lv_aload_n hx hb dX1_takeUnit_101 rfl (lv_at hl 0 rfl) ?_
        obtain ⟨y26, hy26, hF⟩ := bnd_some hF
        have hf9 := wA_in hD hA9 hS
        refine va_callv (va_runV (As := []) (rest := []) ⟨hx, hb, hml, hown, hts⟩ (kX1_readData l D ct ad24 Z (xt G L23) y25 H.size a y26 hc hk hy26) (cwV 0 hts gX1_takeUnit_X1_readData rfl rfl rfl (by decide +kernel) ⟨Nat.le_of_ble_eq_true rfl, Nat.le_of_ble_eq_true rfl⟩) ⟨fun a U g mk q => by obtain ⟨q0, q1, qP, qK, qD, qZ, qN⟩ := q; exact ⟨q0, q1, qP, va_K.moved (u := U) (U := U.calling g mk a) (Vm.Alike.refl U.vm) qK, qD, sF.moved (u := U) (U := U.calling g mk a) (Vm.Alike.refl U.vm) qZ, nF.same rfl qN⟩, va_recv hK hP (ci := 1) (q0 := a) rfl (wld_o ct ad24 (xt G L23) y25 hc hk (by decide)), fun U hU hW => ⟨rfl, by rw [hU], by rw [hU]; exact hP, va_K.moved hW.alike hK, hD.weaken (fun _ _ _ _ => trivial), by rw [hU]; exact ((hZ.kept hS.2.1).narrow hf9).moved hW.alike, hN.warm hW⟩⟩ rfl rfl hl.1 rfl (lv_room (Nat.le_of_ble_eq_true rfl)) dX1_takeUnit_102 (room_d hT hbl)) hS (fun q _ h => hf9 q h) hf9 (fun u t H locs ht hvm hw hB hz1 hk1 hS => ?_)
        obtain ⟨hP, hK9, hD9⟩ := hB
        rw [ht] at hP
        refine W_cs (k := (L23 : NN).length) (n := wt L23) rfl rfl ?_
        have hD := hD9.weaken (fun _ q _ h => hf9 q.1 h)
        refine lv_goto (tgt := 141) hx hb dX1_takeUnit_105 (by decide) ?_
        obtain rfl := Option.some.inj hF
        have e1 : L11 = L23 := by rw [hT]; exact List.append_nil _
        have e2 : y9.2 = y26 := h2
        rw [e1] at J9
        try rw [e2] at J9
        exact J9 _ hag _ _ _ hP hD hS (lv_sub hl [1, 2] rfl)
      clear hF
      obtain ⟨w27, hw27⟩ : ∃ z, z = y21 := ⟨_, rfl⟩
      have hF := hy21
      rw [← hw27] at hF
      clear hy21
      have hT : L23 = [] ++ w27.1 := by rw [eL23, hw27]
      have h2 : y21.2 = w27.2 := by rw [hw27]
      have hbl := hbl23
      refine lv_if_eq (tgt := 85) hx hb dX1_takeUnit_68 (by decide) (fun c28 => ?_) (fun c28 => ?_)
      · rw [if_pos c28] at hF
        refine lv_aload_n hx hb dX1_takeUnit_85 rfl (lv_at hl 2 rfl) ?_
        obtain ⟨hq30, hF⟩ := chk_some hF
        obtain ⟨y29, hy29, hF⟩ := bnd_some hF
        obtain ⟨w31, hF, ew31⟩ := app_some hF
        obtain ⟨L32, eL32, hF⟩ := ltt_some hF
        have hT32 : L23 = ([] ++ y29.1) ++ w31.1 := by rw [hT, ew31]; simp only [List.append_assoc]
        have hf9 := wA_in hD hA9 hS
        refine va_callv (va_runV (As := []) (rest := []) ⟨hx, hb, hml, hown, hts⟩ (kX1_endPicture l D ct ad Z (xt G []) y19 _ a y29 hc hk hy29) (cwV 0 hts gX1_takeUnit_X1_endPicture rfl rfl rfl (by decide +kernel) ⟨Nat.le_of_ble_eq_true rfl, Nat.le_of_ble_eq_true rfl⟩) ⟨fun a U g mk q => by obtain ⟨q0, q1, qP, qK, qD, qZ, qN⟩ := q; exact ⟨q0, q1, qP, va_K.moved (u := U) (U := U.calling g mk a) (Vm.Alike.refl U.vm) qK, qD, sF.moved (u := U) (U := U.calling g mk a) (Vm.Alike.refl U.vm) qZ, nF.same rfl qN⟩, va_recv hK hP (ci := 1) (q0 := a) rfl (wld_o ct ad (xt G []) y19 hc hk (by decide)), fun U hU hW => ⟨rfl, by rw [hU], by rw [hU]; exact hP, va_K.moved hW.alike hK, hD.weaken (fun _ _ _ _ => trivial), by rw [hU]; exact ((hZ.kept hS.2.1).narrow hf9).moved hW.alike, hN.warm hW⟩⟩ rfl rfl hl.1 rfl (lv_room (Nat.le_of_ble_eq_true rfl)) dX1_takeUnit_86 (room_s hT32 hbl)) hS (fun q _ h => hf9 q h) hf9 (fun ad33 t H locs ht hvm hw hB hz1 hk1 hS => ?_)
        have hn34 := hw
        obtain ⟨hP, hK9, hD9⟩ := hB
        rw [ht] at hP
        have hD := hD9.weaken (fun _ q _ h => hf9 q.1 h)
        rw [xt_xt, ← eL32] at hP hD
        refine W_cs (k := L32.length) (n := wt L32) (by rw [eL32]; exact (len_s [] y29.1).symm) (by rw [eL32]; exact (wt_app [] y29.1).symm) ?_
        have hT : L23 = L32 ++ w31.1 := by rw [hT32, eL32]
        have h2 : y21.2 = w31.2 := by rw [h2, ew31]
        have hl := lv_sub (l' := [(0, .ref (ad a)), (1, va_re ad p0), (2, .int p1)]) hl [2, 3, 4] rfl
        have e9 : ([(0, .ref (ad a)), (1, va_re ad p0), (2, .int p1)] : List (Nat × Value)) = [(0, .ref (ad33 a)), (1, va_re ad33 p0), (2, .int p1)] := (by first | rfl | simp only [hn34 a hc, agr_re hn34 hq30])
        rw [e9] at hl
        clear e9
        have hk : (xt G L32).2.1 a = 1 := by rw [eL32]; exact xt_k _ hc hk
        have hc : a < (xt G L32).1 := by rw [eL32]; exact xt_l _ hc
        have hk2 : (xt G L32).2.1 b2 = 8 := by rw [eL32]; exact xt_k _ hc2 hk2
        have hc2 : b2 < (xt G L32).1 := by rw [eL32]; exact xt_l _ hc2
        have hk4 : (xt G L32).2.1 b4 = 5 := by rw [eL32]; exact xt_k _ hc4 hk4
        have hc4 : b4 < (xt G L32).1 := by rw [eL32]; exact xt_l _ hc4
        have hag := agr_t (xt_ge _ _) hag hn34
        refine lv_aload_n hx hb dX1_takeUnit_89 rfl (lv_at hl 0 rfl) ?_
        obtain ⟨y35, hy35, hF⟩ := bnd_some hF
        have hf9 := wA_in hD hA9 hS
        refine va_callv (va_runV (As := []) (rest := []) ⟨hx, hb, hml, hown, hts⟩ (kX1_bridge l D ct ad33 Z (xt G L32) y29.2 H.size a y35 hc hk hy35) (cwV 0 hts gX1_takeUnit_X1_bridge rfl rfl rfl (by decide +kernel) ⟨Nat.le_of_ble_eq_true rfl, Nat.le_of_ble_eq_true rfl⟩) ⟨fun a U g mk q => by obtain ⟨q0, q1, qP, qK, qD, qZ, qN⟩ := q; exact ⟨q0, q1, qP, va_K.moved (u := U) (U := U.calling g mk a) (Vm.Alike.refl U.vm) qK, qD, sF.moved (u := U) (U := U.calling g mk a) (Vm.Alike.refl U.vm) qZ, nF.same rfl qN⟩, va_recv hK hP (ci := 1) (q0 := a) rfl (wld_o ct ad33 (xt G L32) y29.2 hc hk (by decide)), fun U hU hW => ⟨rfl, by rw [hU], by rw [hU]; exact hP, va_K.moved hW.alike hK, hD.weaken (fun _ _ _ _ => trivial), by rw [hU]; exact ((hZ.kept hS.2.1).narrow hf9).moved hW.alike, hN.warm hW⟩⟩ rfl rfl hl.1 rfl (lv_room (Nat.le_of_ble_eq_true rfl)) dX1_takeUnit_90 (room_d hT hbl)) hS (fun q _ h => hf9 q h) hf9 (fun u t H locs ht hvm hw hB hz1 hk1 hS => ?_)
        obtain ⟨hP, hK9, hD9⟩ := hB
        rw [ht] at hP
        refine W_cs (k := (L32 : NN).length) (n := wt L32) rfl rfl ?_
        have hD := hD9.weaken (fun _ q _ h => hf9 q.1 h)
        refine lv_aload_n hx hb dX1_takeUnit_93 rfl (lv_at hl 0 rfl) ?_
        obtain ⟨hq37, hF⟩ := chk_some hF
        obtain ⟨y36, hy36, hF⟩ := bnd_some hF
        obtain ⟨w38, hF, ew38⟩ := app_some hF
        obtain ⟨L39, eL39, hF⟩ := ltt_some hF
        have hT39 : L23 = (L32 ++ y36.1) ++ w38.1 := by rw [hT, ew38]; simp only [List.append_assoc]
        have hf9 := wA_in hD hA9 hS
        refine va_callv (va_runV (As := []) (rest := []) ⟨hx, hb, hml, hown, hts⟩ (kX1_beginPicture l D ct ad33 Z (xt G L32) y35 _ a y36 hc hk hy36) (cwV 0 hts gX1_takeUnit_X1_beginPicture rfl rfl rfl (by decide +kernel) ⟨Nat.le_of_ble_eq_true rfl, Nat.le_of_ble_eq_true rfl⟩) ⟨fun a U g mk q => by obtain ⟨q0, q1, qP, qK, qD, qZ, qN⟩ := q; exact ⟨q0, q1, qP, va_K.moved (u := U) (U := U.calling g mk a) (Vm.Alike.refl U.vm) qK, qD, sF.moved (u := U) (U := U.calling g mk a) (Vm.Alike.refl U.vm) qZ, nF.same rfl qN⟩, va_recv hK hP (ci := 1) (q0 := a) rfl (wld_o ct ad33 (xt G L32) y35 hc hk (by decide)), fun U hU hW => ⟨rfl, by rw [hU], by rw [hU]; exact hP, va_K.moved hW.alike hK, hD.weaken (fun _ _ _ _ => trivial), by rw [hU]; exact ((hZ.kept hS.2.1).narrow hf9).moved hW.alike, hN.warm hW⟩⟩ rfl rfl hl.1 rfl (lv_room (Nat.le_of_ble_eq_true rfl)) dX1_takeUnit_94 (room_s hT39 hbl)) hS (fun q _ h => hf9 q h) hf9 (fun ad40 t H locs ht hvm hw hB hz1 hk1 hS => ?_)
        have hn41 := hw
        obtain ⟨hP, hK9, hD9⟩ := hB
        rw [ht] at hP
        have hD := hD9.weaken (fun _ q _ h => hf9 q.1 h)
        rw [xt_xt, ← eL39] at hP hD
        refine W_cs (k := L39.length) (n := wt L39) (by rw [eL39]; exact (len_s L32 y36.1).symm) (by rw [eL39]; exact (wt_app L32 y36.1).symm) ?_
        have hT : L23 = L39 ++ w38.1 := by rw [hT39, eL39]
        have h2 : y21.2 = w38.2 := by rw [h2, ew38]
        have hl := lv_sub (l' := [(0, .ref (ad33 a)), (1, va_re ad33 p0), (2, .int p1)]) hl [0, 1, 2] rfl
        have e9 : ([(0, .ref (ad33 a)), (1, va_re ad33 p0), (2, .int p1)] : List (Nat × Value)) = [(0, .ref (ad40 a)), (1, va_re ad40 p0), (2, .int p1)] := (by first | rfl | simp only [hn41 a hc, agr_re hn41 hq37])
        rw [e9] at hl
        clear e9
        have hk : (xt G L39).2.1 a = 1 := by rw [eL39]; exact xt_k _ hc hk
        have hc : a < (xt G L39).1 := by rw [eL39]; exact xt_l _ hc
        have hk2 : (xt G L39).2.1 b2 = 8 := by rw [eL39]; exact xt_k _ hc2 hk2
        have hc2 : b2 < (xt G L39).1 := by rw [eL39]; exact xt_l _ hc2
        have hk4 : (xt G L39).2.1 b4 = 5 := by rw [eL39]; exact xt_k _ hc4 hk4
        have hc4 : b4 < (xt G L39).1 := by rw [eL39]; exact xt_l _ hc4
        have hag := agr_t (xt_ge _ _) hag hn41
        obtain rfl := Option.some.inj hF
        have e1 : L23 = L39 := by rw [hT]; exact List.append_nil _
        have e2 : y21.2 = y36.2 := h2
        rw [e1] at J21
        try rw [e2] at J21
        exact J21 _ hag _ _ _ hP hD hS (lv_sub hl [0, 1, 2] rfl)
      · rw [if_neg c28] at hF
        refine lv_aload_n hx hb dX1_takeUnit_71 rfl (lv_at hl 2 rfl) ?_
        refine va_get (D := D) (ci := 1) (v := va_re ad (y19.2 a 10)) (C := RX1) (T := TX1) (N := 22) hx hb hts (by decide +kernel) hown hK hP a (wld_o ct ad (xt G []) y19 hc hk (by decide)) rfl 10 (by decide) (hts (.fieldLink RX1 68 "VideoSuite$Decoder" "head" "LVideoSuite$Header;") (by decide +kernel)) (fun _ h9 => h9) rfl dX1_takeUnit_72 ?_
        refine lv_aload_n hx hb dX1_takeUnit_75 rfl (lv_at hl 2 rfl) ?_
        refine va_get (D := D) (ci := 1) (v := va_re ad (y19.2 a 11)) (C := RX1) (T := TX1) (N := 22) hx hb hts (by decide +kernel) hown hK hP a (wld_o ct ad (xt G []) y19 hc hk (by decide)) rfl 11 (by decide) (hts (.fieldLink RX1 72 "VideoSuite$Decoder" "latest" "LVideoSuite$Header;") (by decide +kernel)) (fun _ h9 => h9) rfl dX1_takeUnit_76 ?_
        obtain ⟨b42, ho42, hc42, hk42, hF⟩ := dr_some hF
        refine W_st (st' := [va_re ad (y19.2 a 11), .ref (ad b42)]) (by rw [va_some ho42]) ?_
        obtain ⟨y43, hy43, hF⟩ := bnd_some hF
        have hf9 := wA_in hD hA9 hS
        refine va_calli (va_runV (As := [va_re ad (y19.2 a 11)]) (rest := []) ⟨hx, hb, hml, hown, hts⟩ (kX3_beginsBehind l D ct ad Z (xt G []) y19 H.size b42 ((y19.2 a 11)) y43 hc42 hk42 hy43) (cwV 1 hts gX1_takeUnit_X3_beginsBehind rfl rfl rfl (by decide +kernel) ⟨Nat.le_of_ble_eq_true rfl, Nat.le_of_ble_eq_true rfl⟩) ⟨fun a U g mk q => by obtain ⟨q0, q1, qP, qK, qD, qZ, qN⟩ := q; exact ⟨q0, q1, qP, va_K.moved (u := U) (U := U.calling g mk a) (Vm.Alike.refl U.vm) qK, qD, sF.moved (u := U) (U := U.calling g mk a) (Vm.Alike.refl U.vm) qZ, nF.same rfl qN⟩, va_recv hK hP (ci := 3) (q0 := b42) rfl (wld_o ct ad (xt G []) y19 hc42 hk42 (by decide)), fun U hU hW => ⟨rfl, by rw [hU], by rw [hU]; exact hP, va_K.moved hW.alike hK, hD.weaken (fun _ _ _ _ => trivial), by rw [hU]; exact ((hZ.kept hS.2.1).narrow hf9).moved hW.alike, hN.warm hW⟩⟩ rfl rfl hl.1 rfl (lv_room (Nat.le_of_ble_eq_true rfl)) dX1_takeUnit_79 (room_d hT hbl)) hS (fun q _ h => hf9 q h) hf9 (fun r u t H locs ht hvm hw hB hz1 hk1 hS => ?_)
        obtain ⟨hP, hK9, hD9⟩ := hB
        rw [ht] at hP
        try dsimp only at hw
        subst hw
        refine W_cs (k := ([] : NN).length) (n := wt []) rfl rfl ?_
        have hD := hD9.weaken (fun _ q _ h => hf9 q.1 h)
        obtain ⟨y44, hy44, hF⟩ := bnd_some hF
        obtain ⟨w45, hF, ew45⟩ := app_some hF
        obtain ⟨L46, eL46, hF⟩ := ltt_some hF
        have hT46 : L23 = ([] ++ y44.1) ++ w45.1 := by rw [hT, ew45]; simp only [List.append_assoc]
        have hbl46 : L46.length ≤ y.1.length ∧ wt L46 ≤ wt y.1 := by rw [eL46]; exact room_d hT46 hbl
        have J44 : ∀ (ad47 : Nat → Nat), agr G.1 ad ad47 → ∀ (H : Heap) (locs : List Loc) (ls : Array Slot), va_P D classes (wld ct ad47 (xt G L46) y44.2) H → va_D A (wld ct ad47 (xt G L46) y44.2) → va_S A s.heap H locs → lv_has ls 6 [(0, .ref (ad47 a)), (1, va_re ad47 p0), (2, .int p1)] → W p l e (headSpec wsX1_takeUnit ({ frames := 7, cells := y.1.length, slots := wt y.1, locals := 199 })).room s m ([.ref (ad a), va_re ad p0, .int p1] : List Value).toArray below meth c H locs (L46 : NN).length (wt L46) (MQ below (va_Qv (fun (u : Nat → Nat) => agr G.1 ad u) (fun u t => kE D ct u (xt G y.1) A y.2 t) A) ([.ref (ad a), va_re ad p0, .int p1] : List Value).toArray s y.1.length (wt y.1) A) (F0 m 97 ls []) := by
          intro ad47 hag H locs ls hP hD hS hl
          have hT : L23 = L46 ++ w45.1 := by rw [hT46, eL46]
          have h2 : y21.2 = w45.2 := by rw [h2, ew45]
          have hk : (xt G L46).2.1 a = 1 := by rw [eL46]; exact xt_k _ hc hk
          have hc : a < (xt G L46).1 := by rw [eL46]; exact xt_l _ hc
          have hk2 : (xt G L46).2.1 b2 = 8 := by rw [eL46]; exact xt_k _ hc2 hk2
          have hc2 : b2 < (xt G L46).1 := by rw [eL46]; exact xt_l _ hc2
          have hk4 : (xt G L46).2.1 b4 = 5 := by rw [eL46]; exact xt_k _ hc4 hk4
          have hc4 : b4 < (xt G L46).1 := by rw [eL46]; exact xt_l _ hc4
          have hk42 : (xt G L46).2.1 b42 = 3 := by rw [eL46]; exact xt_k _ hc42 hk42
          have hc42 : b42 < (xt G L46).1 := by rw [eL46]; exact xt_l _ hc42
          obtain rfl := Option.some.inj hF
          have e1 : L23 = L46 := by rw [hT]; exact List.append_nil _
          have e2 : y21.2 = y44.2 := h2
          rw [e1] at J21
          try rw [e2] at J21
          exact J21 _ hag _ _ _ hP hD hS (lv_sub hl [0, 1, 2] rfl)
        clear hF
        obtain ⟨w48, hw48⟩ : ∃ z, z = y44 := ⟨_, rfl⟩
        have hF := hy44
        rw [← hw48] at hF
        clear hy44
        have hT : L46 = [] ++ w48.1 := by rw [eL46, hw48]
        have h2 : y44.2 = w48.2 := by rw [hw48]
        have hbl := hbl46
        refine lv_if_eq (tgt := 97) hx hb dX1_takeUnit_82 (by decide) (fun c49 => ?_) (fun c49 => ?_)
        · rw [if_pos c49] at hF
          obtain rfl := Option.some.inj hF
          have e1 : L46 = [] := by rw [hT]; exact List.append_nil _
          have e2 : y44.2 = y43.1 := h2
          rw [e1] at J44
          try rw [e2] at J44
          exact J44 _ hag _ _ _ hP hD hS (lv_sub hl [2, 3, 4] rfl)
        · rw [if_neg c49] at hF
          refine lv_aload_n hx hb dX1_takeUnit_85 rfl (lv_at hl 2 rfl) ?_
          obtain ⟨hq51, hF⟩ := chk_some hF
          obtain ⟨y50, hy50, hF⟩ := bnd_some hF
          obtain ⟨w52, hF, ew52⟩ := app_some hF
          obtain ⟨L53, eL53, hF⟩ := ltt_some hF
          have hT53 : L46 = ([] ++ y50.1) ++ w52.1 := by rw [hT, ew52]; simp only [List.append_assoc]
          have hf9 := wA_in hD hA9 hS
          refine va_callv (va_runV (As := []) (rest := []) ⟨hx, hb, hml, hown, hts⟩ (kX1_endPicture l D ct ad Z (xt G []) y43.1 _ a y50 hc hk hy50) (cwV 0 hts gX1_takeUnit_X1_endPicture rfl rfl rfl (by decide +kernel) ⟨Nat.le_of_ble_eq_true rfl, Nat.le_of_ble_eq_true rfl⟩) ⟨fun a U g mk q => by obtain ⟨q0, q1, qP, qK, qD, qZ, qN⟩ := q; exact ⟨q0, q1, qP, va_K.moved (u := U) (U := U.calling g mk a) (Vm.Alike.refl U.vm) qK, qD, sF.moved (u := U) (U := U.calling g mk a) (Vm.Alike.refl U.vm) qZ, nF.same rfl qN⟩, va_recv hK hP (ci := 1) (q0 := a) rfl (wld_o ct ad (xt G []) y43.1 hc hk (by decide)), fun U hU hW => ⟨rfl, by rw [hU], by rw [hU]; exact hP, va_K.moved hW.alike hK, hD.weaken (fun _ _ _ _ => trivial), by rw [hU]; exact ((hZ.kept hS.2.1).narrow hf9).moved hW.alike, hN.warm hW⟩⟩ rfl rfl hl.1 rfl (lv_room (Nat.le_of_ble_eq_true rfl)) dX1_takeUnit_86 (room_s hT53 hbl)) hS (fun q _ h => hf9 q h) hf9 (fun ad54 t H locs ht hvm hw hB hz1 hk1 hS => ?_)
          have hn55 := hw
          obtain ⟨hP, hK9, hD9⟩ := hB
          rw [ht] at hP
          have hD := hD9.weaken (fun _ q _ h => hf9 q.1 h)
          rw [xt_xt, ← eL53] at hP hD
          refine W_cs (k := L53.length) (n := wt L53) (by rw [eL53]; exact (len_s [] y50.1).symm) (by rw [eL53]; exact (wt_app [] y50.1).symm) ?_
          have hT : L46 = L53 ++ w52.1 := by rw [hT53, eL53]
          have h2 : y44.2 = w52.2 := by rw [h2, ew52]
          have hl := lv_sub (l' := [(0, .ref (ad a)), (1, va_re ad p0), (2, .int p1)]) hl [2, 3, 4] rfl
          have e9 : ([(0, .ref (ad a)), (1, va_re ad p0), (2, .int p1)] : List (Nat × Value)) = [(0, .ref (ad54 a)), (1, va_re ad54 p0), (2, .int p1)] := (by first | rfl | simp only [hn55 a hc, agr_re hn55 hq51])
          rw [e9] at hl
          clear e9
          have hk : (xt G L53).2.1 a = 1 := by rw [eL53]; exact xt_k _ hc hk
          have hc : a < (xt G L53).1 := by rw [eL53]; exact xt_l _ hc
          have hk2 : (xt G L53).2.1 b2 = 8 := by rw [eL53]; exact xt_k _ hc2 hk2
          have hc2 : b2 < (xt G L53).1 := by rw [eL53]; exact xt_l _ hc2
          have hk4 : (xt G L53).2.1 b4 = 5 := by rw [eL53]; exact xt_k _ hc4 hk4
          have hc4 : b4 < (xt G L53).1 := by rw [eL53]; exact xt_l _ hc4
          have hk42 : (xt G L53).2.1 b42 = 3 := by rw [eL53]; exact xt_k _ hc42 hk42
          have hc42 : b42 < (xt G L53).1 := by rw [eL53]; exact xt_l _ hc42
          have hag := agr_t (xt_ge _ _) hag hn55
          refine lv_aload_n hx hb dX1_takeUnit_89 rfl (lv_at hl 0 rfl) ?_
          obtain ⟨y56, hy56, hF⟩ := bnd_some hF
          have hf9 := wA_in hD hA9 hS
          refine va_callv (va_runV (As := []) (rest := []) ⟨hx, hb, hml, hown, hts⟩ (kX1_bridge l D ct ad54 Z (xt G L53) y50.2 H.size a y56 hc hk hy56) (cwV 0 hts gX1_takeUnit_X1_bridge rfl rfl rfl (by decide +kernel) ⟨Nat.le_of_ble_eq_true rfl, Nat.le_of_ble_eq_true rfl⟩) ⟨fun a U g mk q => by obtain ⟨q0, q1, qP, qK, qD, qZ, qN⟩ := q; exact ⟨q0, q1, qP, va_K.moved (u := U) (U := U.calling g mk a) (Vm.Alike.refl U.vm) qK, qD, sF.moved (u := U) (U := U.calling g mk a) (Vm.Alike.refl U.vm) qZ, nF.same rfl qN⟩, va_recv hK hP (ci := 1) (q0 := a) rfl (wld_o ct ad54 (xt G L53) y50.2 hc hk (by decide)), fun U hU hW => ⟨rfl, by rw [hU], by rw [hU]; exact hP, va_K.moved hW.alike hK, hD.weaken (fun _ _ _ _ => trivial), by rw [hU]; exact ((hZ.kept hS.2.1).narrow hf9).moved hW.alike, hN.warm hW⟩⟩ rfl rfl hl.1 rfl (lv_room (Nat.le_of_ble_eq_true rfl)) dX1_takeUnit_90 (room_d hT hbl)) hS (fun q _ h => hf9 q h) hf9 (fun u t H locs ht hvm hw hB hz1 hk1 hS => ?_)
          obtain ⟨hP, hK9, hD9⟩ := hB
          rw [ht] at hP
          refine W_cs (k := (L53 : NN).length) (n := wt L53) rfl rfl ?_
          have hD := hD9.weaken (fun _ q _ h => hf9 q.1 h)
          refine lv_aload_n hx hb dX1_takeUnit_93 rfl (lv_at hl 0 rfl) ?_
          obtain ⟨hq58, hF⟩ := chk_some hF
          obtain ⟨y57, hy57, hF⟩ := bnd_some hF
          obtain ⟨w59, hF, ew59⟩ := app_some hF
          obtain ⟨L60, eL60, hF⟩ := ltt_some hF
          have hT60 : L46 = (L53 ++ y57.1) ++ w59.1 := by rw [hT, ew59]; simp only [List.append_assoc]
          have hf9 := wA_in hD hA9 hS
          refine va_callv (va_runV (As := []) (rest := []) ⟨hx, hb, hml, hown, hts⟩ (kX1_beginPicture l D ct ad54 Z (xt G L53) y56 _ a y57 hc hk hy57) (cwV 0 hts gX1_takeUnit_X1_beginPicture rfl rfl rfl (by decide +kernel) ⟨Nat.le_of_ble_eq_true rfl, Nat.le_of_ble_eq_true rfl⟩) ⟨fun a U g mk q => by obtain ⟨q0, q1, qP, qK, qD, qZ, qN⟩ := q; exact ⟨q0, q1, qP, va_K.moved (u := U) (U := U.calling g mk a) (Vm.Alike.refl U.vm) qK, qD, sF.moved (u := U) (U := U.calling g mk a) (Vm.Alike.refl U.vm) qZ, nF.same rfl qN⟩, va_recv hK hP (ci := 1) (q0 := a) rfl (wld_o ct ad54 (xt G L53) y56 hc hk (by decide)), fun U hU hW => ⟨rfl, by rw [hU], by rw [hU]; exact hP, va_K.moved hW.alike hK, hD.weaken (fun _ _ _ _ => trivial), by rw [hU]; exact ((hZ.kept hS.2.1).narrow hf9).moved hW.alike, hN.warm hW⟩⟩ rfl rfl hl.1 rfl (lv_room (Nat.le_of_ble_eq_true rfl)) dX1_takeUnit_94 (room_s hT60 hbl)) hS (fun q _ h => hf9 q h) hf9 (fun ad61 t H locs ht hvm hw hB hz1 hk1 hS => ?_)
          have hn62 := hw
          obtain ⟨hP, hK9, hD9⟩ := hB
          rw [ht] at hP
          have hD := hD9.weaken (fun _ q _ h => hf9 q.1 h)
          rw [xt_xt, ← eL60] at hP hD
          refine W_cs (k := L60.length) (n := wt L60) (by rw [eL60]; exact (len_s L53 y57.1).symm) (by rw [eL60]; exact (wt_app L53 y57.1).symm) ?_
          have hT : L46 = L60 ++ w59.1 := by rw [hT60, eL60]
          have h2 : y44.2 = w59.2 := by rw [h2, ew59]
          have hl := lv_sub (l' := [(0, .ref (ad54 a)), (1, va_re ad54 p0), (2, .int p1)]) hl [0, 1, 2] rfl
          have e9 : ([(0, .ref (ad54 a)), (1, va_re ad54 p0), (2, .int p1)] : List (Nat × Value)) = [(0, .ref (ad61 a)), (1, va_re ad61 p0), (2, .int p1)] := (by first | rfl | simp only [hn62 a hc, agr_re hn62 hq58])
          rw [e9] at hl
          clear e9
          have hk : (xt G L60).2.1 a = 1 := by rw [eL60]; exact xt_k _ hc hk
          have hc : a < (xt G L60).1 := by rw [eL60]; exact xt_l _ hc
          have hk2 : (xt G L60).2.1 b2 = 8 := by rw [eL60]; exact xt_k _ hc2 hk2
          have hc2 : b2 < (xt G L60).1 := by rw [eL60]; exact xt_l _ hc2
          have hk4 : (xt G L60).2.1 b4 = 5 := by rw [eL60]; exact xt_k _ hc4 hk4
          have hc4 : b4 < (xt G L60).1 := by rw [eL60]; exact xt_l _ hc4
          have hk42 : (xt G L60).2.1 b42 = 3 := by rw [eL60]; exact xt_k _ hc42 hk42
          have hc42 : b42 < (xt G L60).1 := by rw [eL60]; exact xt_l _ hc42
          have hag := agr_t (xt_ge _ _) hag hn62
          obtain rfl := Option.some.inj hF
          have e1 : L46 = L60 := by rw [hT]; exact List.append_nil _
          have e2 : y44.2 = y57.2 := h2
          rw [e1] at J44
          try rw [e2] at J44
          exact J44 _ hag _ _ _ hP hD hS (lv_sub hl [0, 1, 2] rfl)
    · rw [if_neg c16] at hF
      refine lv_iload hx hb dX1_takeUnit_47 (lv_at hl 0 rfl) ?_
      refine lv_iconst (v := (5 : Int32)) hx hb dX1_takeUnit_49 (by decide) ?_
      obtain ⟨y63, hy63, hF⟩ := bnd_some hF
      obtain ⟨w64, hF, ew64⟩ := app_some hF
      obtain ⟨L65, eL65, hF⟩ := ltt_some hF
      have hT65 : L11 = ([] ++ y63.1) ++ w64.1 := by rw [hT, ew64]; simp only [List.append_assoc]
      have hbl65 : L65.length ≤ y.1.length ∧ wt L65 ≤ wt y.1 := by rw [eL65]; exact room_d hT65 hbl
      have J63 : ∀ (ad66 : Nat → Nat), agr G.1 ad ad66 → ∀ (H : Heap) (locs : List Loc) (ls : Array Slot), va_P D classes (wld ct ad66 (xt G L65) y63.2) H → va_D A (wld ct ad66 (xt G L65) y63.2) → va_S A s.heap H locs → lv_has ls 6 [(1, va_re ad66 p0), (2, .int p1)] → W p l e (headSpec wsX1_takeUnit ({ frames := 7, cells := y.1.length, slots := wt y.1, locals := 199 })).room s m ([.ref (ad a), va_re ad p0, .int p1] : List Value).toArray below meth c H locs (L65 : NN).length (wt L65) (MQ below (va_Qv (fun (u : Nat → Nat) => agr G.1 ad u) (fun u t => kE D ct u (xt G y.1) A y.2 t) A) ([.ref (ad a), va_re ad p0, .int p1] : List Value).toArray s y.1.length (wt y.1) A) (F0 m 141 ls []) := by
        intro ad66 hag H locs ls hP hD hS hl
        have hT : L11 = L65 ++ w64.1 := by rw [hT65, eL65]
        have h2 : y9.2 = w64.2 := by rw [h2, ew64]
        have hk : (xt G L65).2.1 a = 1 := by rw [eL65]; exact xt_k _ hc hk
        have hc : a < (xt G L65).1 := by rw [eL65]; exact xt_l _ hc
        have hk2 : (xt G L65).2.1 b2 = 8 := by rw [eL65]; exact xt_k _ hc2 hk2
        have hc2 : b2 < (xt G L65).1 := by rw [eL65]; exact xt_l _ hc2
        have hk4 : (xt G L65).2.1 b4 = 5 := by rw [eL65]; exact xt_k _ hc4 hk4
        have hc4 : b4 < (xt G L65).1 := by rw [eL65]; exact xt_l _ hc4
        obtain rfl := Option.some.inj hF
        have e1 : L11 = L65 := by rw [hT]; exact List.append_nil _
        have e2 : y9.2 = y63.2 := h2
        rw [e1] at J9
        try rw [e2] at J9
        exact J9 _ hag _ _ _ hP hD hS (lv_sub hl [0, 1] rfl)
      clear hF
      obtain ⟨w67, hw67⟩ : ∃ z, z = y63 := ⟨_, rfl⟩
      have hF := hy63
      rw [← hw67] at hF
      clear hy63
      have hT : L65 = [] ++ w67.1 := by rw [eL65, hw67]
      have h2 : y63.2 = w67.2 := by rw [hw67]
      have hbl := hbl65
      refine lv_icmp_ne (tgt := 108) hx hb dX1_takeUnit_50 (by decide) (fun c68 => ?_) (fun c68 => ?_)
      · rw [if_neg c68] at hF
        refine lv_iload hx hb dX1_takeUnit_108 (lv_at hl 0 rfl) ?_
        refine lv_bipush (v := (7 : Int32)) hx hb dX1_takeUnit_110 (by decide) ?_
        obtain ⟨y69, hy69, hF⟩ := bnd_some hF
        obtain ⟨w70, hF, ew70⟩ := app_some hF
        obtain ⟨L71, eL71, hF⟩ := ltt_some hF
        have hT71 : L65 = ([] ++ y69.1) ++ w70.1 := by rw [hT, ew70]; simp only [List.append_assoc]
        have hbl71 : L71.length ≤ y.1.length ∧ wt L71 ≤ wt y.1 := by rw [eL71]; exact room_d hT71 hbl
        have J69 : ∀ (ad72 : Nat → Nat), agr G.1 ad ad72 → ∀ (H : Heap) (locs : List Loc) (ls : Array Slot), va_P D classes (wld ct ad72 (xt G L71) y69.2) H → va_D A (wld ct ad72 (xt G L71) y69.2) → va_S A s.heap H locs → lv_has ls 6 [(1, va_re ad72 p0), (2, .int p1)] → W p l e (headSpec wsX1_takeUnit ({ frames := 7, cells := y.1.length, slots := wt y.1, locals := 199 })).room s m ([.ref (ad a), va_re ad p0, .int p1] : List Value).toArray below meth c H locs (L71 : NN).length (wt L71) (MQ below (va_Qv (fun (u : Nat → Nat) => agr G.1 ad u) (fun u t => kE D ct u (xt G y.1) A y.2 t) A) ([.ref (ad a), va_re ad p0, .int p1] : List Value).toArray s y.1.length (wt y.1) A) (F0 m 141 ls []) := by
          intro ad72 hag H locs ls hP hD hS hl
          have hT : L65 = L71 ++ w70.1 := by rw [hT71, eL71]
          have h2 : y63.2 = w70.2 := by rw [h2, ew70]
          have hk : (xt G L71).2.1 a = 1 := by rw [eL71]; exact xt_k _ hc hk
          have hc : a < (xt G L71).1 := by rw [eL71]; exact xt_l _ hc
          have hk2 : (xt G L71).2.1 b2 = 8 := by rw [eL71]; exact xt_k _ hc2 hk2
          have hc2 : b2 < (xt G L71).1 := by rw [eL71]; exact xt_l _ hc2
          have hk4 : (xt G L71).2.1 b4 = 5 := by rw [eL71]; exact xt_k _ hc4 hk4
          have hc4 : b4 < (xt G L71).1 := by rw [eL71]; exact xt_l _ hc4
          obtain rfl := Option.some.inj hF
          have e1 : L65 = L71 := by rw [hT]; exact List.append_nil _
          have e2 : y63.2 = y69.2 := h2
          rw [e1] at J63
          try rw [e2] at J63
          exact J63 _ hag _ _ _ hP hD hS (lv_sub hl [0, 1] rfl)
        clear hF
        obtain ⟨w73, hw73⟩ : ∃ z, z = y69 := ⟨_, rfl⟩
        have hF := hy69
        rw [← hw73] at hF
        clear hy69
        have hT : L71 = [] ++ w73.1 := by rw [eL71, hw73]
        have h2 : y69.2 = w73.2 := by rw [hw73]
        have hbl := hbl71
        refine lv_icmp_ne (tgt := 126) hx hb dX1_takeUnit_112 (by decide) (fun c74 => ?_) (fun c74 => ?_)
        · rw [if_neg c74] at hF
          refine lv_iload hx hb dX1_takeUnit_126 (lv_at hl 0 rfl) ?_
          refine lv_bipush (v := (8 : Int32)) hx hb dX1_takeUnit_128 (by decide) ?_
          obtain ⟨y75, hy75, hF⟩ := bnd_some hF
          obtain ⟨w76, hF, ew76⟩ := app_some hF
          obtain ⟨L77, eL77, hF⟩ := ltt_some hF
          have hT77 : L71 = ([] ++ y75.1) ++ w76.1 := by rw [hT, ew76]; simp only [List.append_assoc]
          have hbl77 : L77.length ≤ y.1.length ∧ wt L77 ≤ wt y.1 := by rw [eL77]; exact room_d hT77 hbl
          have J75 : ∀ (ad78 : Nat → Nat), agr G.1 ad ad78 → ∀ (H : Heap) (locs : List Loc) (ls : Array Slot), va_P D classes (wld ct ad78 (xt G L77) y75.2) H → va_D A (wld ct ad78 (xt G L77) y75.2) → va_S A s.heap H locs → lv_has ls 6 [(1, va_re ad78 p0), (2, .int p1)] → W p l e (headSpec wsX1_takeUnit ({ frames := 7, cells := y.1.length, slots := wt y.1, locals := 199 })).room s m ([.ref (ad a), va_re ad p0, .int p1] : List Value).toArray below meth c H locs (L77 : NN).length (wt L77) (MQ below (va_Qv (fun (u : Nat → Nat) => agr G.1 ad u) (fun u t => kE D ct u (xt G y.1) A y.2 t) A) ([.ref (ad a), va_re ad p0, .int p1] : List Value).toArray s y.1.length (wt y.1) A) (F0 m 141 ls []) := by
            intro ad78 hag H locs ls hP hD hS hl
            have hT : L71 = L77 ++ w76.1 := by rw [hT77, eL77]
            have h2 : y69.2 = w76.2 := by rw [h2, ew76]
            have hk : (xt G L77).2.1 a = 1 := by rw [eL77]; exact xt_k _ hc hk
            have hc : a < (xt G L77).1 := by rw [eL77]; exact xt_l _ hc
            have hk2 : (xt G L77).2.1 b2 = 8 := by rw [eL77]; exact xt_k _ hc2 hk2
            have hc2 : b2 < (xt G L77).1 := by rw [eL77]; exact xt_l _ hc2
            have hk4 : (xt G L77).2.1 b4 = 5 := by rw [eL77]; exact xt_k _ hc4 hk4
            have hc4 : b4 < (xt G L77).1 := by rw [eL77]; exact xt_l _ hc4
            obtain rfl := Option.some.inj hF
            have e1 : L71 = L77 := by rw [hT]; exact List.append_nil _
            have e2 : y69.2 = y75.2 := h2
            rw [e1] at J69
            try rw [e2] at J69
            exact J69 _ hag _ _ _ hP hD hS (lv_sub hl [0, 1] rfl)
          clear hF
          obtain ⟨w79, hw79⟩ : ∃ z, z = y75 := ⟨_, rfl⟩
          have hF := hy75
          rw [← hw79] at hF
          clear hy75
          have hT : L77 = [] ++ w79.1 := by rw [eL77, hw79]
          have h2 : y75.2 = w79.2 := by rw [hw79]
          have hbl := hbl77
          refine lv_icmp_ne (tgt := 141) hx hb dX1_takeUnit_130 (by decide) (fun c80 => ?_) (fun c80 => ?_)
          · rw [if_neg c80] at hF
            obtain rfl := Option.some.inj hF
            have e1 : L77 = [] := by rw [hT]; exact List.append_nil _
            have e2 : y75.2 = M8 := h2
            rw [e1] at J75
            try rw [e2] at J75
            exact J75 _ hag _ _ _ hP hD hS (lv_sub hl [3, 4] rfl)
          · rw [if_pos c80] at hF
            refine lv_aload_n hx hb dX1_takeUnit_133 rfl (lv_at hl 2 rfl) ?_
            obtain ⟨hq82, hF⟩ := chk_some hF
            obtain ⟨y81, hy81, hF⟩ := bnd_some hF
            obtain ⟨w83, hF, ew83⟩ := app_some hF
            obtain ⟨L84, eL84, hF⟩ := ltt_some hF
            have hT84 : L77 = ([] ++ y81.1) ++ w83.1 := by rw [hT, ew83]; simp only [List.append_assoc]
            have hf9 := wA_in hD hA9 hS
            refine va_callv (va_runV (As := []) (rest := []) ⟨hx, hb, hml, hown, hts⟩ (kX1_endPicture l D ct ad Z (xt G []) M8 _ a y81 hc hk hy81) (cwV 0 hts gX1_takeUnit_X1_endPicture rfl rfl rfl (by decide +kernel) ⟨Nat.le_of_ble_eq_true rfl, Nat.le_of_ble_eq_true rfl⟩) ⟨fun a U g mk q => by obtain ⟨q0, q1, qP, qK, qD, qZ, qN⟩ := q; exact ⟨q0, q1, qP, va_K.moved (u := U) (U := U.calling g mk a) (Vm.Alike.refl U.vm) qK, qD, sF.moved (u := U) (U := U.calling g mk a) (Vm.Alike.refl U.vm) qZ, nF.same rfl qN⟩, va_recv hK hP (ci := 1) (q0 := a) rfl (wld_o ct ad (xt G []) M8 hc hk (by decide)), fun U hU hW => ⟨rfl, by rw [hU], by rw [hU]; exact hP, va_K.moved hW.alike hK, hD.weaken (fun _ _ _ _ => trivial), by rw [hU]; exact ((hZ.kept hS.2.1).narrow hf9).moved hW.alike, hN.warm hW⟩⟩ rfl rfl hl.1 rfl (lv_room (Nat.le_of_ble_eq_true rfl)) dX1_takeUnit_134 (room_s hT84 hbl)) hS (fun q _ h => hf9 q h) hf9 (fun ad85 t H locs ht hvm hw hB hz1 hk1 hS => ?_)
            have hn86 := hw
            obtain ⟨hP, hK9, hD9⟩ := hB
            rw [ht] at hP
            have hD := hD9.weaken (fun _ q _ h => hf9 q.1 h)
            rw [xt_xt, ← eL84] at hP hD
            refine W_cs (k := L84.length) (n := wt L84) (by rw [eL84]; exact (len_s [] y81.1).symm) (by rw [eL84]; exact (wt_app [] y81.1).symm) ?_
            have hT : L77 = L84 ++ w83.1 := by rw [hT84, eL84]
            have h2 : y75.2 = w83.2 := by rw [h2, ew83]
            have hl := lv_sub (l' := [(0, .ref (ad a)), (1, va_re ad p0), (2, .int p1)]) hl [2, 3, 4] rfl
            have e9 : ([(0, .ref (ad a)), (1, va_re ad p0), (2, .int p1)] : List (Nat × Value)) = [(0, .ref (ad85 a)), (1, va_re ad85 p0), (2, .int p1)] := (by first | rfl | simp only [hn86 a hc, agr_re hn86 hq82])
            rw [e9] at hl
            clear e9
            have hk : (xt G L84).2.1 a = 1 := by rw [eL84]; exact xt_k _ hc hk
            have hc : a < (xt G L84).1 := by rw [eL84]; exact xt_l _ hc
            have hk2 : (xt G L84).2.1 b2 = 8 := by rw [eL84]; exact xt_k _ hc2 hk2
            have hc2 : b2 < (xt G L84).1 := by rw [eL84]; exact xt_l _ hc2
            have hk4 : (xt G L84).2.1 b4 = 5 := by rw [eL84]; exact xt_k _ hc4 hk4
            have hc4 : b4 < (xt G L84).1 := by rw [eL84]; exact xt_l _ hc4
            have hag := agr_t (xt_ge _ _) hag hn86
            refine lv_aload_n hx hb dX1_takeUnit_137 rfl (lv_at hl 0 rfl) ?_
            obtain ⟨y87, hy87, hF⟩ := bnd_some hF
            have hf9 := wA_in hD hA9 hS
            refine va_callv (va_runV (As := []) (rest := []) ⟨hx, hb, hml, hown, hts⟩ (kX1_readParameters l D ct ad85 Z (xt G L84) y81.2 H.size a y87 hc hk hy87) (cwV 0 hts gX1_takeUnit_X1_readParameters rfl rfl rfl (by decide +kernel) ⟨Nat.le_of_ble_eq_true rfl, Nat.le_of_ble_eq_true rfl⟩) ⟨fun a U g mk q => by obtain ⟨q0, q1, qP, qK, qD, qZ, qN⟩ := q; exact ⟨q0, q1, qP, va_K.moved (u := U) (U := U.calling g mk a) (Vm.Alike.refl U.vm) qK, qD, sF.moved (u := U) (U := U.calling g mk a) (Vm.Alike.refl U.vm) qZ, nF.same rfl qN⟩, va_recv hK hP (ci := 1) (q0 := a) rfl (wld_o ct ad85 (xt G L84) y81.2 hc hk (by decide)), fun U hU hW => ⟨rfl, by rw [hU], by rw [hU]; exact hP, va_K.moved hW.alike hK, hD.weaken (fun _ _ _ _ => trivial), by rw [hU]; exact ((hZ.kept hS.2.1).narrow hf9).moved hW.alike, hN.warm hW⟩⟩ rfl rfl hl.1 rfl (lv_room (Nat.le_of_ble_eq_true rfl)) dX1_takeUnit_138 (room_d hT hbl)) hS (fun q _ h => hf9 q h) hf9 (fun u t H locs ht hvm hw hB hz1 hk1 hS => ?_)
            obtain ⟨hP, hK9, hD9⟩ := hB
            rw [ht] at hP
            refine W_cs (k := (L84 : NN).length) (n := wt L84) rfl rfl ?_
            have hD := hD9.weaken (fun _ q _ h => hf9 q.1 h)
            obtain rfl := Option.some.inj hF
            have e1 : L77 = L84 := by rw [hT]; exact List.append_nil _
            have e2 : y75.2 = y87 := h2
            rw [e1] at J75
            try rw [e2] at J75
            exact J75 _ hag _ _ _ hP hD hS (lv_sub hl [1, 2] rfl)
        · rw [if_pos c74] at hF
          refine lv_aload_n hx hb dX1_takeUnit_115 rfl (lv_at hl 2 rfl) ?_
          obtain ⟨hq89, hF⟩ := chk_some hF
          obtain ⟨y88, hy88, hF⟩ := bnd_some hF
          obtain ⟨w90, hF, ew90⟩ := app_some hF
          obtain ⟨L91, eL91, hF⟩ := ltt_some hF
          have hT91 : L71 = ([] ++ y88.1) ++ w90.1 := by rw [hT, ew90]; simp only [List.append_assoc]
          have hf9 := wA_in hD hA9 hS
          refine va_callv (va_runV (As := []) (rest := []) ⟨hx, hb, hml, hown, hts⟩ (kX1_endPicture l D ct ad Z (xt G []) M8 _ a y88 hc hk hy88) (cwV 0 hts gX1_takeUnit_X1_endPicture rfl rfl rfl (by decide +kernel) ⟨Nat.le_of_ble_eq_true rfl, Nat.le_of_ble_eq_true rfl⟩) ⟨fun a U g mk q => by obtain ⟨q0, q1, qP, qK, qD, qZ, qN⟩ := q; exact ⟨q0, q1, qP, va_K.moved (u := U) (U := U.calling g mk a) (Vm.Alike.refl U.vm) qK, qD, sF.moved (u := U) (U := U.calling g mk a) (Vm.Alike.refl U.vm) qZ, nF.same rfl qN⟩, va_recv hK hP (ci := 1) (q0 := a) rfl (wld_o ct ad (xt G []) M8 hc hk (by decide)), fun U hU hW => ⟨rfl, by rw [hU], by rw [hU]; exact hP, va_K.moved hW.alike hK, hD.weaken (fun _ _ _ _ => trivial), by rw [hU]; exact ((hZ.kept hS.2.1).narrow hf9).moved hW.alike, hN.warm hW⟩⟩ rfl rfl hl.1 rfl (lv_room (Nat.le_of_ble_eq_true rfl)) dX1_takeUnit_116 (room_s hT91 hbl)) hS (fun q _ h => hf9 q h) hf9 (fun ad92 t H locs ht hvm hw hB hz1 hk1 hS => ?_)
          have hn93 := hw
          obtain ⟨hP, hK9, hD9⟩ := hB
          rw [ht] at hP
          have hD := hD9.weaken (fun _ q _ h => hf9 q.1 h)
          rw [xt_xt, ← eL91] at hP hD
          refine W_cs (k := L91.length) (n := wt L91) (by rw [eL91]; exact (len_s [] y88.1).symm) (by rw [eL91]; exact (wt_app [] y88.1).symm) ?_
          have hT : L71 = L91 ++ w90.1 := by rw [hT91, eL91]
          have h2 : y69.2 = w90.2 := by rw [h2, ew90]
          have hl := lv_sub (l' := [(0, .ref (ad a)), (1, va_re ad p0), (2, .int p1)]) hl [2, 3, 4] rfl
          have e9 : ([(0, .ref (ad a)), (1, va_re ad p0), (2, .int p1)] : List (Nat × Value)) = [(0, .ref (ad92 a)), (1, va_re ad92 p0), (2, .int p1)] := (by first | rfl | simp only [hn93 a hc, agr_re hn93 hq89])
          rw [e9] at hl
          clear e9
          have hk : (xt G L91).2.1 a = 1 := by rw [eL91]; exact xt_k _ hc hk
          have hc : a < (xt G L91).1 := by rw [eL91]; exact xt_l _ hc
          have hk2 : (xt G L91).2.1 b2 = 8 := by rw [eL91]; exact xt_k _ hc2 hk2
          have hc2 : b2 < (xt G L91).1 := by rw [eL91]; exact xt_l _ hc2
          have hk4 : (xt G L91).2.1 b4 = 5 := by rw [eL91]; exact xt_k _ hc4 hk4
          have hc4 : b4 < (xt G L91).1 := by rw [eL91]; exact xt_l _ hc4
          have hag := agr_t (xt_ge _ _) hag hn93
          refine lv_aload_n hx hb dX1_takeUnit_119 rfl (lv_at hl 0 rfl) ?_
          obtain ⟨y94, hy94, hF⟩ := bnd_some hF
          have hf9 := wA_in hD hA9 hS
          refine va_callv (va_runV (As := []) (rest := []) ⟨hx, hb, hml, hown, hts⟩ (kX1_readSequence l D ct ad92 Z (xt G L91) y88.2 H.size a y94 hc hk hy94) (cwV 0 hts gX1_takeUnit_X1_readSequence rfl rfl rfl (by decide +kernel) ⟨Nat.le_of_ble_eq_true rfl, Nat.le_of_ble_eq_true rfl⟩) ⟨fun a U g mk q => by obtain ⟨q0, q1, qP, qK, qD, qZ, qN⟩ := q; exact ⟨q0, q1, qP, va_K.moved (u := U) (U := U.calling g mk a) (Vm.Alike.refl U.vm) qK, qD, sF.moved (u := U) (U := U.calling g mk a) (Vm.Alike.refl U.vm) qZ, nF.same rfl qN⟩, va_recv hK hP (ci := 1) (q0 := a) rfl (wld_o ct ad92 (xt G L91) y88.2 hc hk (by decide)), fun U hU hW => ⟨rfl, by rw [hU], by rw [hU]; exact hP, va_K.moved hW.alike hK, hD.weaken (fun _ _ _ _ => trivial), by rw [hU]; exact ((hZ.kept hS.2.1).narrow hf9).moved hW.alike, hN.warm hW⟩⟩ rfl rfl hl.1 rfl (lv_room (Nat.le_of_ble_eq_true rfl)) dX1_takeUnit_120 (room_d hT hbl)) hS (fun q _ h => hf9 q h) hf9 (fun u t H locs ht hvm hw hB hz1 hk1 hS => ?_)
          obtain ⟨hP, hK9, hD9⟩ := hB
          rw [ht] at hP
          refine W_cs (k := (L91 : NN).length) (n := wt L91) rfl rfl ?_
          have hD := hD9.weaken (fun _ q _ h => hf9 q.1 h)
          refine lv_goto (tgt := 141) hx hb dX1_takeUnit_123 (by decide) ?_
          obtain rfl := Option.some.inj hF
          have e1 : L71 = L91 := by rw [hT]; exact List.append_nil _
          have e2 : y69.2 = y94 := h2
          rw [e1] at J69
          try rw [e2] at J69
          exact J69 _ hag _ _ _ hP hD hS (lv_sub hl [1, 2] rfl)
      · rw [if_pos c68] at hF
        refine lv_aload_n hx hb dX1_takeUnit_53 rfl (lv_at hl 2 rfl) ?_
        refine lv_iload hx hb dX1_takeUnit_54 (lv_at hl 0 rfl) ?_
        refine lv_iload_n hx hb dX1_takeUnit_56 rfl (lv_at hl 1 rfl) ?_
        refine lv_iconst (v := (5 : Int32)) hx hb dX1_takeUnit_57 (by decide) ?_
        refine lv_ishr hx hb dX1_takeUnit_58 ?_
        obtain ⟨x95, ex95, hF⟩ := ltt_some hF
        refine lv_topi (fun zx95 ezx95 => ?_)
        obtain rfl : x95 = zx95 := ex95.trans ezx95.symm
        refine lv_iconst (v := (3 : Int32)) hx hb dX1_takeUnit_59 (by decide) ?_
        refine lv_iand hx hb dX1_takeUnit_60 ?_
        obtain ⟨x96, ex96, hF⟩ := ltt_some hF
        refine lv_topi (fun zx96 ezx96 => ?_)
        obtain rfl : x96 = zx96 := ex96.trans ezx96.symm
        obtain ⟨y97, hy97, hF⟩ := bnd_some hF
        have hf9 := wA_in hD hA9 hS
        refine va_callv (va_runV (As := [.int y7, .int x96]) (rest := []) ⟨hx, hb, hml, hown, hts⟩ (kX1_readHeader l D ct ad Z (xt G []) M8 H.size a y7 x96 y97 hc hk hy97) (cwV 2 hts gX1_takeUnit_X1_readHeader rfl rfl rfl (by decide +kernel) ⟨Nat.le_of_ble_eq_true rfl, Nat.le_of_ble_eq_true rfl⟩) ⟨fun a U g mk q => by obtain ⟨q0, q1, qP, qK, qD, qZ, qN⟩ := q; exact ⟨q0, q1, qP, va_K.moved (u := U) (U := U.calling g mk a) (Vm.Alike.refl U.vm) qK, qD, sF.moved (u := U) (U := U.calling g mk a) (Vm.Alike.refl U.vm) qZ, nF.same rfl qN⟩, va_recv hK hP (ci := 1) (q0 := a) rfl (wld_o ct ad (xt G []) M8 hc hk (by decide)), fun U hU hW => ⟨rfl, by rw [hU], by rw [hU]; exact hP, va_K.moved hW.alike hK, hD.weaken (fun _ _ _ _ => trivial), by rw [hU]; exact ((hZ.kept hS.2.1).narrow hf9).moved hW.alike, hN.warm hW⟩⟩ rfl rfl hl.1 rfl (lv_room (Nat.le_of_ble_eq_true rfl)) dX1_takeUnit_61 (room_d hT hbl)) hS (fun q _ h => hf9 q h) hf9 (fun u t H locs ht hvm hw hB hz1 hk1 hS => ?_)
        obtain ⟨hP, hK9, hD9⟩ := hB
        rw [ht] at hP
        refine W_cs (k := ([] : NN).length) (n := wt []) rfl rfl ?_
        have hD := hD9.weaken (fun _ q _ h => hf9 q.1 h)
        refine lv_aload_n hx hb dX1_takeUnit_64 rfl (lv_at hl 2 rfl) ?_
        refine va_get (D := D) (ci := 1) (v := .int (y97.1 a 16)) (C := RX1) (T := TX1) (N := 22) hx hb hts (by decide +kernel) hown hK hP a (wld_o ct ad (xt G []) y97 hc hk (by decide)) rfl 16 (by decide) (hts (.fieldLink RX1 109 "VideoSuite$Decoder" "underWay" "Z") (by decide +kernel)) (fun _ h9 => h9) rfl dX1_takeUnit_65 ?_
        obtain ⟨x98, ex98, hF⟩ := ltt_some hF
        refine lv_topi (fun zx98 ezx98 => ?_)
        obtain rfl : x98 = zx98 := ex98.trans ezx98.symm
        obtain ⟨y99, hy99, hF⟩ := bnd_some hF
        obtain ⟨w100, hF, ew100⟩ := app_some hF
        obtain ⟨L101, eL101, hF⟩ := ltt_some hF
        have hT101 : L65 = ([] ++ y99.1) ++ w100.1 := by rw [hT, ew100]; simp only [List.append_assoc]
        have hbl101 : L101.length ≤ y.1.length ∧ wt L101 ≤ wt y.1 := by rw [eL101]; exact room_d hT101 hbl
        have J99 : ∀ (ad102 : Nat → Nat), agr G.1 ad ad102 → ∀ (H : Heap) (locs : List Loc) (ls : Array Slot), va_P D classes (wld ct ad102 (xt G L101) y99.2) H → va_D A (wld ct ad102 (xt G L101) y99.2) → va_S A s.heap H locs → lv_has ls 6 [(0, .ref (ad102 a)), (1, va_re ad102 p0), (2, .int p1)] → W p l e (headSpec wsX1_takeUnit ({ frames := 7, cells := y.1.length, slots := wt y.1, locals := 199 })).room s m ([.ref (ad a), va_re ad p0, .int p1] : List Value).toArray below meth c H locs (L101 : NN).length (wt L101) (MQ below (va_Qv (fun (u : Nat → Nat) => agr G.1 ad u) (fun u t => kE D ct u (xt G y.1) A y.2 t) A) ([.ref (ad a), va_re ad p0, .int p1] : List Value).toArray s y.1.length (wt y.1) A) (F0 m 97 ls []) := by
          intro ad102 hag H locs ls hP hD hS hl
          have hT : L65 = L101 ++ w100.1 := by rw [hT101, eL101]
          have h2 : y63.2 = w100.2 := by rw [h2, ew100]
          have hk : (xt G L101).2.1 a = 1 := by rw [eL101]; exact xt_k _ hc hk
          have hc : a < (xt G L101).1 := by rw [eL101]; exact xt_l _ hc
          have hk2 : (xt G L101).2.1 b2 = 8 := by rw [eL101]; exact xt_k _ hc2 hk2
          have hc2 : b2 < (xt G L101).1 := by rw [eL101]; exact xt_l _ hc2
          have hk4 : (xt G L101).2.1 b4 = 5 := by rw [eL101]; exact xt_k _ hc4 hk4
          have hc4 : b4 < (xt G L101).1 := by rw [eL101]; exact xt_l _ hc4
          refine lv_aload_n hx hb dX1_takeUnit_97 rfl (lv_at hl 0 rfl) ?_
          obtain ⟨y103, hy103, hF⟩ := bnd_some hF
          have hf9 := wA_in hD hA9 hS
          refine va_callv (va_runV (As := []) (rest := []) ⟨hx, hb, hml, hown, hts⟩ (kX1_beginSlice l D ct ad102 Z (xt G L101) y99.2 H.size a y103 hc hk hy103) (cwV 0 hts gX1_takeUnit_X1_beginSlice rfl rfl rfl (by decide +kernel) ⟨Nat.le_of_ble_eq_true rfl, Nat.le_of_ble_eq_true rfl⟩) ⟨fun a U g mk q => by obtain ⟨q0, q1, qP, qK, qD, qZ, qN⟩ := q; exact ⟨q0, q1, qP, va_K.moved (u := U) (U := U.calling g mk a) (Vm.Alike.refl U.vm) qK, qD, sF.moved (u := U) (U := U.calling g mk a) (Vm.Alike.refl U.vm) qZ, nF.same rfl qN⟩, va_recv hK hP (ci := 1) (q0 := a) rfl (wld_o ct ad102 (xt G L101) y99.2 hc hk (by decide)), fun U hU hW => ⟨rfl, by rw [hU], by rw [hU]; exact hP, va_K.moved hW.alike hK, hD.weaken (fun _ _ _ _ => trivial), by rw [hU]; exact ((hZ.kept hS.2.1).narrow hf9).moved hW.alike, hN.warm hW⟩⟩ rfl rfl hl.1 rfl (lv_room (Nat.le_of_ble_eq_true rfl)) dX1_takeUnit_98 (room_d hT hbl)) hS (fun q _ h => hf9 q h) hf9 (fun u t H locs ht hvm hw hB hz1 hk1 hS => ?_)
          obtain ⟨hP, hK9, hD9⟩ := hB
          rw [ht] at hP
          refine W_cs (k := (L101 : NN).length) (n := wt L101) rfl rfl ?_
          have hD := hD9.weaken (fun _ q _ h => hf9 q.1 h)
          refine lv_aload_n hx hb dX1_takeUnit_101 rfl (lv_at hl 0 rfl) ?_
          obtain ⟨y104, hy104, hF⟩ := bnd_some hF
          have hf9 := wA_in hD hA9 hS
          refine va_callv (va_runV (As := []) (rest := []) ⟨hx, hb, hml, hown, hts⟩ (kX1_readData l D ct ad102 Z (xt G L101) y103 H.size a y104 hc hk hy104) (cwV 0 hts gX1_takeUnit_X1_readData rfl rfl rfl (by decide +kernel) ⟨Nat.le_of_ble_eq_true rfl, Nat.le_of_ble_eq_true rfl⟩) ⟨fun a U g mk q => by obtain ⟨q0, q1, qP, qK, qD, qZ, qN⟩ := q; exact ⟨q0, q1, qP, va_K.moved (u := U) (U := U.calling g mk a) (Vm.Alike.refl U.vm) qK, qD, sF.moved (u := U) (U := U.calling g mk a) (Vm.Alike.refl U.vm) qZ, nF.same rfl qN⟩, va_recv hK hP (ci := 1) (q0 := a) rfl (wld_o ct ad102 (xt G L101) y103 hc hk (by decide)), fun U hU hW => ⟨rfl, by rw [hU], by rw [hU]; exact hP, va_K.moved hW.alike hK, hD.weaken (fun _ _ _ _ => trivial), by rw [hU]; exact ((hZ.kept hS.2.1).narrow hf9).moved hW.alike, hN.warm hW⟩⟩ rfl rfl hl.1 rfl (lv_room (Nat.le_of_ble_eq_true rfl)) dX1_takeUnit_102 (room_d hT hbl)) hS (fun q _ h => hf9 q h) hf9 (fun u t H locs ht hvm hw hB hz1 hk1 hS => ?_)
          obtain ⟨hP, hK9, hD9⟩ := hB
          rw [ht] at hP
          refine W_cs (k := (L101 : NN).length) (n := wt L101) rfl rfl ?_
          have hD := hD9.weaken (fun _ q _ h => hf9 q.1 h)
          refine lv_goto (tgt := 141) hx hb dX1_takeUnit_105 (by decide) ?_
          obtain rfl := Option.some.inj hF
          have e1 : L65 = L101 := by rw [hT]; exact List.append_nil _
          have e2 : y63.2 = y104 := h2
          rw [e1] at J63
          try rw [e2] at J63
          exact J63 _ hag _ _ _ hP hD hS (lv_sub hl [1, 2] rfl)
        clear hF
        obtain ⟨w105, hw105⟩ : ∃ z, z = y99 := ⟨_, rfl⟩
        have hF := hy99
        rw [← hw105] at hF
        clear hy99
        have hT : L101 = [] ++ w105.1 := by rw [eL101, hw105]
        have h2 : y99.2 = w105.2 := by rw [hw105]
        have hbl := hbl101
        refine lv_if_eq (tgt := 85) hx hb dX1_takeUnit_68 (by decide) (fun c106 => ?_) (fun c106 => ?_)
        · rw [if_pos c106] at hF
          refine lv_aload_n hx hb dX1_takeUnit_85 rfl (lv_at hl 2 rfl) ?_
          obtain ⟨hq108, hF⟩ := chk_some hF
          obtain ⟨y107, hy107, hF⟩ := bnd_some hF
          obtain ⟨w109, hF, ew109⟩ := app_some hF
          obtain ⟨L110, eL110, hF⟩ := ltt_some hF
          have hT110 : L101 = ([] ++ y107.1) ++ w109.1 := by rw [hT, ew109]; simp only [List.append_assoc]
          have hf9 := wA_in hD hA9 hS
          refine va_callv (va_runV (As := []) (rest := []) ⟨hx, hb, hml, hown, hts⟩ (kX1_endPicture l D ct ad Z (xt G []) y97 _ a y107 hc hk hy107) (cwV 0 hts gX1_takeUnit_X1_endPicture rfl rfl rfl (by decide +kernel) ⟨Nat.le_of_ble_eq_true rfl, Nat.le_of_ble_eq_true rfl⟩) ⟨fun a U g mk q => by obtain ⟨q0, q1, qP, qK, qD, qZ, qN⟩ := q; exact ⟨q0, q1, qP, va_K.moved (u := U) (U := U.calling g mk a) (Vm.Alike.refl U.vm) qK, qD, sF.moved (u := U) (U := U.calling g mk a) (Vm.Alike.refl U.vm) qZ, nF.same rfl qN⟩, va_recv hK hP (ci := 1) (q0 := a) rfl (wld_o ct ad (xt G []) y97 hc hk (by decide)), fun U hU hW => ⟨rfl, by rw [hU], by rw [hU]; exact hP, va_K.moved hW.alike hK, hD.weaken (fun _ _ _ _ => trivial), by rw [hU]; exact ((hZ.kept hS.2.1).narrow hf9).moved hW.alike, hN.warm hW⟩⟩ rfl rfl hl.1 rfl (lv_room (Nat.le_of_ble_eq_true rfl)) dX1_takeUnit_86 (room_s hT110 hbl)) hS (fun q _ h => hf9 q h) hf9 (fun ad111 t H locs ht hvm hw hB hz1 hk1 hS => ?_)
          have hn112 := hw
          obtain ⟨hP, hK9, hD9⟩ := hB
          rw [ht] at hP
          have hD := hD9.weaken (fun _ q _ h => hf9 q.1 h)
          rw [xt_xt, ← eL110] at hP hD
          refine W_cs (k := L110.length) (n := wt L110) (by rw [eL110]; exact (len_s [] y107.1).symm) (by rw [eL110]; exact (wt_app [] y107.1).symm) ?_
          have hT : L101 = L110 ++ w109.1 := by rw [hT110, eL110]
          have h2 : y99.2 = w109.2 := by rw [h2, ew109]
          have hl := lv_sub (l' := [(0, .ref (ad a)), (1, va_re ad p0), (2, .int p1)]) hl [2, 3, 4] rfl
          have e9 : ([(0, .ref (ad a)), (1, va_re ad p0), (2, .int p1)] : List (Nat × Value)) = [(0, .ref (ad111 a)), (1, va_re ad111 p0), (2, .int p1)] := (by first | rfl | simp only [hn112 a hc, agr_re hn112 hq108])
          rw [e9] at hl
          clear e9
          have hk : (xt G L110).2.1 a = 1 := by rw [eL110]; exact xt_k _ hc hk
          have hc : a < (xt G L110).1 := by rw [eL110]; exact xt_l _ hc
          have hk2 : (xt G L110).2.1 b2 = 8 := by rw [eL110]; exact xt_k _ hc2 hk2
          have hc2 : b2 < (xt G L110).1 := by rw [eL110]; exact xt_l _ hc2
          have hk4 : (xt G L110).2.1 b4 = 5 := by rw [eL110]; exact xt_k _ hc4 hk4
          have hc4 : b4 < (xt G L110).1 := by rw [eL110]; exact xt_l _ hc4
          have hag := agr_t (xt_ge _ _) hag hn112
          refine lv_aload_n hx hb dX1_takeUnit_89 rfl (lv_at hl 0 rfl) ?_
          obtain ⟨y113, hy113, hF⟩ := bnd_some hF
          have hf9 := wA_in hD hA9 hS
          refine va_callv (va_runV (As := []) (rest := []) ⟨hx, hb, hml, hown, hts⟩ (kX1_bridge l D ct ad111 Z (xt G L110) y107.2 H.size a y113 hc hk hy113) (cwV 0 hts gX1_takeUnit_X1_bridge rfl rfl rfl (by decide +kernel) ⟨Nat.le_of_ble_eq_true rfl, Nat.le_of_ble_eq_true rfl⟩) ⟨fun a U g mk q => by obtain ⟨q0, q1, qP, qK, qD, qZ, qN⟩ := q; exact ⟨q0, q1, qP, va_K.moved (u := U) (U := U.calling g mk a) (Vm.Alike.refl U.vm) qK, qD, sF.moved (u := U) (U := U.calling g mk a) (Vm.Alike.refl U.vm) qZ, nF.same rfl qN⟩, va_recv hK hP (ci := 1) (q0 := a) rfl (wld_o ct ad111 (xt G L110) y107.2 hc hk (by decide)), fun U hU hW => ⟨rfl, by rw [hU], by rw [hU]; exact hP, va_K.moved hW.alike hK, hD.weaken (fun _ _ _ _ => trivial), by rw [hU]; exact ((hZ.kept hS.2.1).narrow hf9).moved hW.alike, hN.warm hW⟩⟩ rfl rfl hl.1 rfl (lv_room (Nat.le_of_ble_eq_true rfl)) dX1_takeUnit_90 (room_d hT hbl)) hS (fun q _ h => hf9 q h) hf9 (fun u t H locs ht hvm hw hB hz1 hk1 hS => ?_)
          obtain ⟨hP, hK9, hD9⟩ := hB
          rw [ht] at hP
          refine W_cs (k := (L110 : NN).length) (n := wt L110) rfl rfl ?_
          have hD := hD9.weaken (fun _ q _ h => hf9 q.1 h)
          refine lv_aload_n hx hb dX1_takeUnit_93 rfl (lv_at hl 0 rfl) ?_
          obtain ⟨hq115, hF⟩ := chk_some hF
          obtain ⟨y114, hy114, hF⟩ := bnd_some hF
          obtain ⟨w116, hF, ew116⟩ := app_some hF
          obtain ⟨L117, eL117, hF⟩ := ltt_some hF
          have hT117 : L101 = (L110 ++ y114.1) ++ w116.1 := by rw [hT, ew116]; simp only [List.append_assoc]
          have hf9 := wA_in hD hA9 hS
          refine va_callv (va_runV (As := []) (rest := []) ⟨hx, hb, hml, hown, hts⟩ (kX1_beginPicture l D ct ad111 Z (xt G L110) y113 _ a y114 hc hk hy114) (cwV 0 hts gX1_takeUnit_X1_beginPicture rfl rfl rfl (by decide +kernel) ⟨Nat.le_of_ble_eq_true rfl, Nat.le_of_ble_eq_true rfl⟩) ⟨fun a U g mk q => by obtain ⟨q0, q1, qP, qK, qD, qZ, qN⟩ := q; exact ⟨q0, q1, qP, va_K.moved (u := U) (U := U.calling g mk a) (Vm.Alike.refl U.vm) qK, qD, sF.moved (u := U) (U := U.calling g mk a) (Vm.Alike.refl U.vm) qZ, nF.same rfl qN⟩, va_recv hK hP (ci := 1) (q0 := a) rfl (wld_o ct ad111 (xt G L110) y113 hc hk (by decide)), fun U hU hW => ⟨rfl, by rw [hU], by rw [hU]; exact hP, va_K.moved hW.alike hK, hD.weaken (fun _ _ _ _ => trivial), by rw [hU]; exact ((hZ.kept hS.2.1).narrow hf9).moved hW.alike, hN.warm hW⟩⟩ rfl rfl hl.1 rfl (lv_room (Nat.le_of_ble_eq_true rfl)) dX1_takeUnit_94 (room_s hT117 hbl)) hS (fun q _ h => hf9 q h) hf9 (fun ad118 t H locs ht hvm hw hB hz1 hk1 hS => ?_)
          have hn119 := hw
          obtain ⟨hP, hK9, hD9⟩ := hB
          rw [ht] at hP
          have hD := hD9.weaken (fun _ q _ h => hf9 q.1 h)
          rw [xt_xt, ← eL117] at hP hD
          refine W_cs (k := L117.length) (n := wt L117) (by rw [eL117]; exact (len_s L110 y114.1).symm) (by rw [eL117]; exact (wt_app L110 y114.1).symm) ?_
          have hT : L101 = L117 ++ w116.1 := by rw [hT117, eL117]
          have h2 : y99.2 = w116.2 := by rw [h2, ew116]
          have hl := lv_sub (l' := [(0, .ref (ad111 a)), (1, va_re ad111 p0), (2, .int p1)]) hl [0, 1, 2] rfl
          have e9 : ([(0, .ref (ad111 a)), (1, va_re ad111 p0), (2, .int p1)] : List (Nat × Value)) = [(0, .ref (ad118 a)), (1, va_re ad118 p0), (2, .int p1)] := (by first | rfl | simp only [hn119 a hc, agr_re hn119 hq115])
          rw [e9] at hl
          clear e9
          have hk : (xt G L117).2.1 a = 1 := by rw [eL117]; exact xt_k _ hc hk
          have hc : a < (xt G L117).1 := by rw [eL117]; exact xt_l _ hc
          have hk2 : (xt G L117).2.1 b2 = 8 := by rw [eL117]; exact xt_k _ hc2 hk2
          have hc2 : b2 < (xt G L117).1 := by rw [eL117]; exact xt_l _ hc2
          have hk4 : (xt G L117).2.1 b4 = 5 := by rw [eL117]; exact xt_k _ hc4 hk4
          have hc4 : b4 < (xt G L117).1 := by rw [eL117]; exact xt_l _ hc4
          have hag := agr_t (xt_ge _ _) hag hn119
          obtain rfl := Option.some.inj hF
          have e1 : L101 = L117 := by rw [hT]; exact List.append_nil _
          have e2 : y99.2 = y114.2 := h2
          rw [e1] at J99
          try rw [e2] at J99
          exact J99 _ hag _ _ _ hP hD hS (lv_sub hl [0, 1, 2] rfl)
        · rw [if_neg c106] at hF
          refine lv_aload_n hx hb dX1_takeUnit_71 rfl (lv_at hl 2 rfl) ?_
          refine va_get (D := D) (ci := 1) (v := va_re ad (y97.2 a 10)) (C := RX1) (T := TX1) (N := 22) hx hb hts (by decide +kernel) hown hK hP a (wld_o ct ad (xt G []) y97 hc hk (by decide)) rfl 10 (by decide) (hts (.fieldLink RX1 68 "VideoSuite$Decoder" "head" "LVideoSuite$Header;") (by decide +kernel)) (fun _ h9 => h9) rfl dX1_takeUnit_72 ?_
          refine lv_aload_n hx hb dX1_takeUnit_75 rfl (lv_at hl 2 rfl) ?_
          refine va_get (D := D) (ci := 1) (v := va_re ad (y97.2 a 11)) (C := RX1) (T := TX1) (N := 22) hx hb hts (by decide +kernel) hown hK hP a (wld_o ct ad (xt G []) y97 hc hk (by decide)) rfl 11 (by decide) (hts (.fieldLink RX1 72 "VideoSuite$Decoder" "latest" "LVideoSuite$Header;") (by decide +kernel)) (fun _ h9 => h9) rfl dX1_takeUnit_76 ?_
          obtain ⟨b120, ho120, hc120, hk120, hF⟩ := dr_some hF
          refine W_st (st' := [va_re ad (y97.2 a 11), .ref (ad b120)]) (by rw [va_some ho120]) ?_
          obtain ⟨y121, hy121, hF⟩ := bnd_some hF
          have hf9 := wA_in hD hA9 hS
          refine va_calli (va_runV (As := [va_re ad (y97.2 a 11)]) (rest := []) ⟨hx, hb, hml, hown, hts⟩ (kX3_beginsBehind l D ct ad Z (xt G []) y97 H.size b120 ((y97.2 a 11)) y121 hc120 hk120 hy121) (cwV 1 hts gX1_takeUnit_X3_beginsBehind rfl rfl rfl (by decide +kernel) ⟨Nat.le_of_ble_eq_true rfl, Nat.le_of_ble_eq_true rfl⟩) ⟨fun a U g mk q => by obtain ⟨q0, q1, qP, qK, qD, qZ, qN⟩ := q; exact ⟨q0, q1, qP, va_K.moved (u := U) (U := U.calling g mk a) (Vm.Alike.refl U.vm) qK, qD, sF.moved (u := U) (U := U.calling g mk a) (Vm.Alike.refl U.vm) qZ, nF.same rfl qN⟩, va_recv hK hP (ci := 3) (q0 := b120) rfl (wld_o ct ad (xt G []) y97 hc120 hk120 (by decide)), fun U hU hW => ⟨rfl, by rw [hU], by rw [hU]; exact hP, va_K.moved hW.alike hK, hD.weaken (fun _ _ _ _ => trivial), by rw [hU]; exact ((hZ.kept hS.2.1).narrow hf9).moved hW.alike, hN.warm hW⟩⟩ rfl rfl hl.1 rfl (lv_room (Nat.le_of_ble_eq_true rfl)) dX1_takeUnit_79 (room_d hT hbl)) hS (fun q _ h => hf9 q h) hf9 (fun r u t H locs ht hvm hw hB hz1 hk1 hS => ?_)
          obtain ⟨hP, hK9, hD9⟩ := hB
          rw [ht] at hP
          try dsimp only at hw
          subst hw
          refine W_cs (k := ([] : NN).length) (n := wt []) rfl rfl ?_
          have hD := hD9.weaken (fun _ q _ h => hf9 q.1 h)
          obtain ⟨y122, hy122, hF⟩ := bnd_some hF
          obtain ⟨w123, hF, ew123⟩ := app_some hF
          obtain ⟨L124, eL124, hF⟩ := ltt_some hF
          have hT124 : L101 = ([] ++ y122.1) ++ w123.1 := by rw [hT, ew123]; simp only [List.append_assoc]
          have hbl124 : L124.length ≤ y.1.length ∧ wt L124 ≤ wt y.1 := by rw [eL124]; exact room_d hT124 hbl
          have J122 : ∀ (ad125 : Nat → Nat), agr G.1 ad ad125 → ∀ (H : Heap) (locs : List Loc) (ls : Array Slot), va_P D classes (wld ct ad125 (xt G L124) y122.2) H → va_D A (wld ct ad125 (xt G L124) y122.2) → va_S A s.heap H locs → lv_has ls 6 [(0, .ref (ad125 a)), (1, va_re ad125 p0), (2, .int p1)] → W p l e (headSpec wsX1_takeUnit ({ frames := 7, cells := y.1.length, slots := wt y.1, locals := 199 })).room s m ([.ref (ad a), va_re ad p0, .int p1] : List Value).toArray below meth c H locs (L124 : NN).length (wt L124) (MQ below (va_Qv (fun (u : Nat → Nat) => agr G.1 ad u) (fun u t => kE D ct u (xt G y.1) A y.2 t) A) ([.ref (ad a), va_re ad p0, .int p1] : List Value).toArray s y.1.length (wt y.1) A) (F0 m 97 ls []) := by
            intro ad125 hag H locs ls hP hD hS hl
            have hT : L101 = L124 ++ w123.1 := by rw [hT124, eL124]
            have h2 : y99.2 = w123.2 := by rw [h2, ew123]
            have hk : (xt G L124).2.1 a = 1 := by rw [eL124]; exact xt_k _ hc hk
            have hc : a < (xt G L124).1 := by rw [eL124]; exact xt_l _ hc
            have hk2 : (xt G L124).2.1 b2 = 8 := by rw [eL124]; exact xt_k _ hc2 hk2
            have hc2 : b2 < (xt G L124).1 := by rw [eL124]; exact xt_l _ hc2
            have hk4 : (xt G L124).2.1 b4 = 5 := by rw [eL124]; exact xt_k _ hc4 hk4
            have hc4 : b4 < (xt G L124).1 := by rw [eL124]; exact xt_l _ hc4
            have hk120 : (xt G L124).2.1 b120 = 3 := by rw [eL124]; exact xt_k _ hc120 hk120
            have hc120 : b120 < (xt G L124).1 := by rw [eL124]; exact xt_l _ hc120
            obtain rfl := Option.some.inj hF
            have e1 : L101 = L124 := by rw [hT]; exact List.append_nil _
            have e2 : y99.2 = y122.2 := h2
            rw [e1] at J99
            try rw [e2] at J99
            exact J99 _ hag _ _ _ hP hD hS (lv_sub hl [0, 1, 2] rfl)
          clear hF
          obtain ⟨w126, hw126⟩ : ∃ z, z = y122 := ⟨_, rfl⟩
          have hF := hy122
          rw [← hw126] at hF
          clear hy122
          have hT : L124 = [] ++ w126.1 := by rw [eL124, hw126]
          have h2 : y122.2 = w126.2 := by rw [hw126]
          have hbl := hbl124
          refine lv_if_eq (tgt := 97) hx hb dX1_takeUnit_82 (by decide) (fun c127 => ?_) (fun c127 => ?_)
          · rw [if_pos c127] at hF
            obtain rfl := Option.some.inj hF
            have e1 : L124 = [] := by rw [hT]; exact List.append_nil _
            have e2 : y122.2 = y121.1 := h2
            rw [e1] at J122
            try rw [e2] at J122
            exact J122 _ hag _ _ _ hP hD hS (lv_sub hl [2, 3, 4] rfl)
          · rw [if_neg c127] at hF
            refine lv_aload_n hx hb dX1_takeUnit_85 rfl (lv_at hl 2 rfl) ?_
            obtain ⟨hq129, hF⟩ := chk_some hF
            obtain ⟨y128, hy128, hF⟩ := bnd_some hF
            obtain ⟨w130, hF, ew130⟩ := app_some hF
            obtain ⟨L131, eL131, hF⟩ := ltt_some hF
            have hT131 : L124 = ([] ++ y128.1) ++ w130.1 := by rw [hT, ew130]; simp only [List.append_assoc]
            have hf9 := wA_in hD hA9 hS
            refine va_callv (va_runV (As := []) (rest := []) ⟨hx, hb, hml, hown, hts⟩ (kX1_endPicture l D ct ad Z (xt G []) y121.1 _ a y128 hc hk hy128) (cwV 0 hts gX1_takeUnit_X1_endPicture rfl rfl rfl (by decide +kernel) ⟨Nat.le_of_ble_eq_true rfl, Nat.le_of_ble_eq_true rfl⟩) ⟨fun a U g mk q => by obtain ⟨q0, q1, qP, qK, qD, qZ, qN⟩ := q; exact ⟨q0, q1, qP, va_K.moved (u := U) (U := U.calling g mk a) (Vm.Alike.refl U.vm) qK, qD, sF.moved (u := U) (U := U.calling g mk a) (Vm.Alike.refl U.vm) qZ, nF.same rfl qN⟩, va_recv hK hP (ci := 1) (q0 := a) rfl (wld_o ct ad (xt G []) y121.1 hc hk (by decide)), fun U hU hW => ⟨rfl, by rw [hU], by rw [hU]; exact hP, va_K.moved hW.alike hK, hD.weaken (fun _ _ _ _ => trivial), by rw [hU]; exact ((hZ.kept hS.2.1).narrow hf9).moved hW.alike, hN.warm hW⟩⟩ rfl rfl hl.1 rfl (lv_room (Nat.le_of_ble_eq_true rfl)) dX1_takeUnit_86 (room_s hT131 hbl)) hS (fun q _ h => hf9 q h) hf9 (fun ad132 t H locs ht hvm hw hB hz1 hk1 hS => ?_)
            have hn133 := hw
            obtain ⟨hP, hK9, hD9⟩ := hB
            rw [ht] at hP
            have hD := hD9.weaken (fun _ q _ h => hf9 q.1 h)
            rw [xt_xt, ← eL131] at hP hD
            refine W_cs (k := L131.length) (n := wt L131) (by rw [eL131]; exact (len_s [] y128.1).symm) (by rw [eL131]; exact (wt_app [] y128.1).symm) ?_
            have hT : L124 = L131 ++ w130.1 := by rw [hT131, eL131]
            have h2 : y122.2 = w130.2 := by rw [h2, ew130]
            have hl := lv_sub (l' := [(0, .ref (ad a)), (1, va_re ad p0), (2, .int p1)]) hl [2, 3, 4] rfl
            have e9 : ([(0, .ref (ad a)), (1, va_re ad p0), (2, .int p1)] : List (Nat × Value)) = [(0, .ref (ad132 a)), (1, va_re ad132 p0), (2, .int p1)] := (by first | rfl | simp only [hn133 a hc, agr_re hn133 hq129])
            rw [e9] at hl
            clear e9
            have hk : (xt G L131).2.1 a = 1 := by rw [eL131]; exact xt_k _ hc hk
            have hc : a < (xt G L131).1 := by rw [eL131]; exact xt_l _ hc
            have hk2 : (xt G L131).2.1 b2 = 8 := by rw [eL131]; exact xt_k _ hc2 hk2
            have hc2 : b2 < (xt G L131).1 := by rw [eL131]; exact xt_l _ hc2
            have hk4 : (xt G L131).2.1 b4 = 5 := by rw [eL131]; exact xt_k _ hc4 hk4
            have hc4 : b4 < (xt G L131).1 := by rw [eL131]; exact xt_l _ hc4
            have hk120 : (xt G L131).2.1 b120 = 3 := by rw [eL131]; exact xt_k _ hc120 hk120
            have hc120 : b120 < (xt G L131).1 := by rw [eL131]; exact xt_l _ hc120
            have hag := agr_t (xt_ge _ _) hag hn133
            refine lv_aload_n hx hb dX1_takeUnit_89 rfl (lv_at hl 0 rfl) ?_
            obtain ⟨y134, hy134, hF⟩ := bnd_some hF
            have hf9 := wA_in hD hA9 hS
            refine va_callv (va_runV (As := []) (rest := []) ⟨hx, hb, hml, hown, hts⟩ (kX1_bridge l D ct ad132 Z (xt G L131) y128.2 H.size a y134 hc hk hy134) (cwV 0 hts gX1_takeUnit_X1_bridge rfl rfl rfl (by decide +kernel) ⟨Nat.le_of_ble_eq_true rfl, Nat.le_of_ble_eq_true rfl⟩) ⟨fun a U g mk q => by obtain ⟨q0, q1, qP, qK, qD, qZ, qN⟩ := q; exact ⟨q0, q1, qP, va_K.moved (u := U) (U := U.calling g mk a) (Vm.Alike.refl U.vm) qK, qD, sF.moved (u := U) (U := U.calling g mk a) (Vm.Alike.refl U.vm) qZ, nF.same rfl qN⟩, va_recv hK hP (ci := 1) (q0 := a) rfl (wld_o ct ad132 (xt G L131) y128.2 hc hk (by decide)), fun U hU hW => ⟨rfl, by rw [hU], by rw [hU]; exact hP, va_K.moved hW.alike hK, hD.weaken (fun _ _ _ _ => trivial), by rw [hU]; exact ((hZ.kept hS.2.1).narrow hf9).moved hW.alike, hN.warm hW⟩⟩ rfl rfl hl.1 rfl (lv_room (Nat.le_of_ble_eq_true rfl)) dX1_takeUnit_90 (room_d hT hbl)) hS (fun q _ h => hf9 q h) hf9 (fun u t H locs ht hvm hw hB hz1 hk1 hS => ?_)
            obtain ⟨hP, hK9, hD9⟩ := hB
            rw [ht] at hP
            refine W_cs (k := (L131 : NN).length) (n := wt L131) rfl rfl ?_
            have hD := hD9.weaken (fun _ q _ h => hf9 q.1 h)
            refine lv_aload_n hx hb dX1_takeUnit_93 rfl (lv_at hl 0 rfl) ?_
            obtain ⟨hq136, hF⟩ := chk_some hF
            obtain ⟨y135, hy135, hF⟩ := bnd_some hF
            obtain ⟨w137, hF, ew137⟩ := app_some hF
            obtain ⟨L138, eL138, hF⟩ := ltt_some hF
            have hT138 : L124 = (L131 ++ y135.1) ++ w137.1 := by rw [hT, ew137]; simp only [List.append_assoc]
            have hf9 := wA_in hD hA9 hS
            refine va_callv (va_runV (As := []) (rest := []) ⟨hx, hb, hml, hown, hts⟩ (kX1_beginPicture l D ct ad132 Z (xt G L131) y134 _ a y135 hc hk hy135) (cwV 0 hts gX1_takeUnit_X1_beginPicture rfl rfl rfl (by decide +kernel) ⟨Nat.le_of_ble_eq_true rfl, Nat.le_of_ble_eq_true rfl⟩) ⟨fun a U g mk q => by obtain ⟨q0, q1, qP, qK, qD, qZ, qN⟩ := q; exact ⟨q0, q1, qP, va_K.moved (u := U) (U := U.calling g mk a) (Vm.Alike.refl U.vm) qK, qD, sF.moved (u := U) (U := U.calling g mk a) (Vm.Alike.refl U.vm) qZ, nF.same rfl qN⟩, va_recv hK hP (ci := 1) (q0 := a) rfl (wld_o ct ad132 (xt G L131) y134 hc hk (by decide)), fun U hU hW => ⟨rfl, by rw [hU], by rw [hU]; exact hP, va_K.moved hW.alike hK, hD.weaken (fun _ _ _ _ => trivial), by rw [hU]; exact ((hZ.kept hS.2.1).narrow hf9).moved hW.alike, hN.warm hW⟩⟩ rfl rfl hl.1 rfl (lv_room (Nat.le_of_ble_eq_true rfl)) dX1_takeUnit_94 (room_s hT138 hbl)) hS (fun q _ h => hf9 q h) hf9 (fun ad139 t H locs ht hvm hw hB hz1 hk1 hS => ?_)
            have hn140 := hw
            obtain ⟨hP, hK9, hD9⟩ := hB
            rw [ht] at hP
            have hD := hD9.weaken (fun _ q _ h => hf9 q.1 h)
            rw [xt_xt, ← eL138] at hP hD
            refine W_cs (k := L138.length) (n := wt L138) (by rw [eL138]; exact (len_s L131 y135.1).symm) (by rw [eL138]; exact (wt_app L131 y135.1).symm) ?_
            have hT : L124 = L138 ++ w137.1 := by rw [hT138, eL138]
            have h2 : y122.2 = w137.2 := by rw [h2, ew137]
            have hl := lv_sub (l' := [(0, .ref (ad132 a)), (1, va_re ad132 p0), (2, .int p1)]) hl [0, 1, 2] rfl
            have e9 : ([(0, .ref (ad132 a)), (1, va_re ad132 p0), (2, .int p1)] : List (Nat × Value)) = [(0, .ref (ad139 a)), (1, va_re ad139 p0), (2, .int p1)] := (by first | rfl | simp only [hn140 a hc, agr_re hn140 hq136])
            rw [e9] at hl
            clear e9
            have hk : (xt G L138).2.1 a = 1 := by rw [eL138]; exact xt_k _ hc hk
            have hc : a < (xt G L138).1 := by rw [eL138]; exact xt_l _ hc
            have hk2 : (xt G L138).2.1 b2 = 8 := by rw [eL138]; exact xt_k _ hc2 hk2
            have hc2 : b2 < (xt G L138).1 := by rw [eL138]; exact xt_l _ hc2
            have hk4 : (xt G L138).2.1 b4 = 5 := by rw [eL138]; exact xt_k _ hc4 hk4
            have hc4 : b4 < (xt G L138).1 := by rw [eL138]; exact xt_l _ hc4
            have hk120 : (xt G L138).2.1 b120 = 3 := by rw [eL138]; exact xt_k _ hc120 hk120
            have hc120 : b120 < (xt G L138).1 := by rw [eL138]; exact xt_l _ hc120
            have hag := agr_t (xt_ge _ _) hag hn140
            obtain rfl := Option.some.inj hF
            have e1 : L124 = L138 := by rw [hT]; exact List.append_nil _
            have e2 : y122.2 = y135.2 := h2
            rw [e1] at J122
            try rw [e2] at J122
            exact J122 _ hag _ _ _ hP hD hS (lv_sub hl [0, 1, 2] rfl)
  clear hF
  have hF := hy7
  clear hy7
  refine lv_icmp_le (tgt := 30) hx hb dX1_takeUnit_23 (by decide) (fun c141 => ?_) (fun c141 => ?_)
  · rw [if_pos c141] at hF
    refine lv_iload_n hx hb dX1_takeUnit_30 rfl (lv_at hl 0 rfl) ?_
    refine lv_bipush (v := (31 : Int32)) hx hb dX1_takeUnit_31 (by decide) ?_
    refine lv_iand hx hb dX1_takeUnit_33 ?_
    obtain ⟨x142, ex142, hF⟩ := ltt_some hF
    refine lv_topi (fun zx142 ezx142 => ?_)
    obtain rfl : x142 = zx142 := ex142.trans ezx142.symm
    obtain rfl := Option.some.inj hF
    exact J7 _ _ _ hP hD hS (lv_sub hl [0, 1, 2, 3] rfl)
  · rw [if_neg c141] at hF
    refine lv_iconst (v := (0 : Int32)) hx hb dX1_takeUnit_26 (by decide) ?_
    refine lv_goto (tgt := 34) hx hb dX1_takeUnit_27 (by decide) ?_
    obtain rfl := Option.some.inj hF
    exact J7 _ _ _ hP hD hS (lv_sub hl [0, 1, 2, 3] rfl)
