/-! Calls and methods of the small machine against the Statement's words: the checks. -/
def od_hasA (i : Nat) (w : Cond) : Bool := od_gw w && decide (lw_tbl[i]? = some w)
theorem od_hasAI {i : Nat} {w : Cond} (h : od_hasA i w = true) : w ∈ od_WS := by
  unfold od_hasA at h
  simp only [Bool.and_eq_true, decide_eq_true_eq] at h
  exact List.mem_filter.mpr ⟨List.mem_of_getElem? h.2, h.1⟩
theorem od_hasR (i : Nat) {w : Cond} (h : lw_tbl[i]? = some w) (hg : od_gw w = true) : w ∈ od_WS := List.mem_filter.mpr ⟨List.mem_of_getElem? h, hg⟩
/-- a method's code among the words -/
def od_cw (j : Nat) : Cond := match od_ht j with
  | [] => .code (od_y j) (od_by j) (od_nl j) (od_rf j)
  | q :: r => .codeWith (od_y j) (od_by j) (od_nl j) (od_rf j) (q :: r)
/-- a method: its number, the places of its code and of its class's being initialised -/
def od_mrc (r : Nat × Nat × Nat) : Bool := od_hasA r.2.2 (.initialized (od_y r.1).cls) && plainFor (od_y r.1) && (od_y r.1).cls == od_cn (od_ow r.1) && (!od_in r.1 || (od_y r.1).name == "<init>") && decide (od_nl r.1 ≤ 50)
/-- a link: class, pool's entry, callee, kind, arguments, the places of three words -/
def od_lrc (r : Nat × Nat × Nat × Nat × Nat × Nat × Nat × Nat) : Bool := match r with
  | (own, ix, j, kd, n, i1, i2, i3) => (od_y j).cls != "java/lang/invoke/MethodHandle" && (od_y j).cls != "java/lang/invoke/VarHandle" &&
    (match kd with
    | 0 => od_hasA i1 (.methodLink (od_cn own) ix (od_y j)) && od_hasA i2 (.instanceMethod (od_y j)) && (match od_cls[od_oc j]? with
      | some q => od_hasA i3 (.selects q.1 (od_y j) (od_y j))
      | none => false) && decide ((parseMethodDescriptor (od_y j).desc).map (fun g => g.parameters.length + 1) = some n)
    | 1 => od_hasA i1 (.methodLink (od_cn own) ix (od_y j)) && od_hasA i2 (.static (od_y j)) && decide ((parseMethodDescriptor (od_y j).desc).map (fun g => g.parameters.length) = some n)
    | 2 => (od_hasA i1 (.methodLink (od_cn own) ix (od_y j)) || od_hasA i1 (.methodLinkNest (od_cn own) ix (od_y j) "OrdinalDesk")) && od_hasA i2 (.instanceMethod (od_y j)) && (od_y j).name == "<init>" && decide (od_rf j = none) && decide (od_ht j = []) && decide ((parseMethodDescriptor (od_y j).desc).map (fun g => g.parameters.length + 1) = some n)
    | _ => false)
/-! Printed by wip/whole/gen.py: the words of calls and methods by their places in lw_tbl. -/
def ol_0 : List (Nat × Nat × Nat × Nat × Nat × Nat × Nat × Nat) := [(0, 19, 6, 0, 3, 528, 529, 530), (0, 23, 10, 0, 3, 532, 533, 534), (0, 27, 8, 0, 2, 536, 489, 490), (0, 31, 9, 0, 2, 657, 485, 486), (0, 34, 14, 0, 4, 464, 465, 466), (0, 38, 18, 0, 4, 453, 454, 455), (0, 41, 24, 0, 2, 399, 400, 401), (0, 45, 23, 0, 3, 449, 450, 451), (0, 62, 19, 0, 2, 407, 408, 409), (0, 66, 22, 0, 2, 431, 432, 433)]
theorem ol_0_ok : ol_0.all od_lrc = true := by decide +kernel
def ol_1 : List (Nat × Nat × Nat × Nat × Nat × Nat × Nat × Nat) := [(0, 73, 20, 0, 1, 403, 404, 405), (0, 76, 21, 0, 2, 427, 428, 429), (0, 79, 28, 1, 6, 278, 279, 0), (0, 83, 154, 1, 2, 281, 282, 0), (0, 88, 157, 1, 2, 284, 285, 0), (1, 11, 0, 2, 1, 98, 71, 72), (1, 54, 1, 0, 1, 482, 476, 477), (1, 58, 13, 0, 2, 483, 461, 462), (1, 62, 9, 0, 2, 484, 485, 486), (1, 66, 8, 0, 2, 488, 489, 490)]
theorem ol_1_ok : ol_1.all od_lrc = true := by decide +kernel
def ol_2 : List (Nat × Nat × Nat × Nat × Nat × Nat × Nat × Nat) := [(1, 73, 27, 1, 6, 492, 493, 0), (1, 77, 14, 0, 4, 495, 465, 466), (1, 81, 25, 0, 5, 496, 497, 498), (1, 85, 18, 0, 4, 500, 454, 455), (1, 88, 12, 0, 1, 505, 506, 507), (1, 91, 15, 0, 4, 509, 510, 511), (1, 94, 23, 0, 3, 513, 450, 451), (1, 98, 30, 1, 3, 514, 480, 0), (1, 102, 3, 0, 1, 519, 520, 521), (1, 105, 16, 0, 2, 523, 396, 397)]
theorem ol_2_ok : ol_2.all od_lrc = true := by decide +kernel
def ol_3 : List (Nat × Nat × Nat × Nat × Nat × Nat × Nat × Nat) := [(1, 109, 7, 0, 1, 524, 525, 526), (1, 113, 2, 0, 1, 537, 538, 539), (1, 116, 33, 0, 4, 541, 543, 2), (1, 120, 35, 0, 4, 550, 552, 3), (1, 124, 34, 1, 2, 545, 546, 0), (1, 128, 17, 0, 3, 549, 446, 447), (1, 140, 31, 0, 4, 557, 502, 503), (1, 143, 38, 0, 4, 565, 567, 4), (1, 147, 36, 1, 3, 569, 559, 0), (2, 11, 0, 2, 1, 146, 71, 72)]
theorem ol_3_ok : ol_3.all od_lrc = true := by decide +kernel
def ol_4 : List (Nat × Nat × Nat × Nat × Nat × Nat × Nat × Nat) := [(2, 30, 12, 0, 1, 573, 506, 507), (2, 37, 9, 0, 2, 574, 485, 486), (2, 41, 27, 1, 6, 575, 493, 0), (2, 45, 8, 0, 2, 576, 489, 490), (2, 48, 25, 0, 5, 577, 497, 498), (2, 52, 18, 0, 4, 578, 454, 455), (2, 56, 15, 0, 4, 583, 510, 511), (2, 59, 40, 1, 3, 584, 571, 0), (2, 63, 23, 0, 3, 585, 450, 451), (2, 67, 14, 0, 4, 586, 465, 466)]
theorem ol_4_ok : ol_4.all od_lrc = true := by decide +kernel
def ol_5 : List (Nat × Nat × Nat × Nat × Nat × Nat × Nat × Nat) := [(2, 70, 42, 0, 3, 587, 589, 5), (2, 74, 24, 0, 2, 593, 400, 401), (2, 78, 1, 0, 1, 591, 476, 477), (2, 82, 28, 1, 6, 592, 279, 0), (3, 11, 0, 2, 1, 170, 71, 72), (3, 21, 18, 0, 4, 618, 454, 455), (3, 25, 8, 0, 2, 619, 489, 490), (3, 29, 25, 0, 5, 620, 497, 498), (3, 33, 12, 0, 1, 616, 506, 507), (3, 40, 10, 0, 3, 617, 533, 534)]
theorem ol_5_ok : ol_5.all od_lrc = true := by decide +kernel
def ol_6 : List (Nat × Nat × Nat × Nat × Nat × Nat × Nat × Nat) := [(3, 44, 6, 0, 3, 621, 529, 530), (3, 48, 20, 0, 1, 622, 404, 405), (3, 51, 44, 1, 4, 623, 624, 0), (3, 55, 21, 0, 2, 626, 428, 429), (3, 59, 13, 0, 2, 638, 461, 462), (3, 64, 5, 0, 1, 640, 610, 611), (3, 68, 45, 1, 3, 641, 614, 0), (4, 24, 0, 2, 1, 185, 71, 72), (4, 35, 11, 0, 4, 653, 654, 655), (4, 39, 9, 0, 2, 658, 485, 486)]
theorem ol_6_ok : ol_6.all od_lrc = true := by decide +kernel
def ol_7 : List (Nat × Nat × Nat × Nat × Nat × Nat × Nat × Nat) := [(4, 43, 50, 0, 4, 663, 665, 7), (4, 47, 17, 0, 3, 671, 446, 447), (4, 51, 36, 1, 3, 672, 559, 0), (4, 57, 14, 0, 4, 667, 465, 466), (4, 61, 8, 0, 2, 668, 489, 490), (4, 64, 25, 0, 5, 669, 497, 498), (4, 68, 18, 0, 4, 670, 454, 455), (5, 28, 0, 2, 1, 209, 71, 72), (5, 33, 54, 0, 3, 759, 761, 8), (5, 37, 53, 0, 1, 764, 766, 9)]
theorem ol_7_ok : ol_7.all od_lrc = true := by decide +kernel
def ol_8 : List (Nat × Nat × Nat × Nat × Nat × Nat × Nat × Nat) := [(5, 41, 5, 0, 1, 768, 610, 611), (5, 46, 45, 1, 3, 770, 614, 0), (5, 52, 12, 0, 1, 771, 506, 507), (5, 58, 44, 1, 4, 772, 624, 0), (5, 62, 13, 0, 2, 763, 461, 462), (6, 15, 12, 0, 1, 684, 506, 507), (6, 20, 57, 1, 4, 685, 686, 0), (6, 31, 20, 0, 1, 691, 404, 405), (6, 34, 21, 0, 2, 692, 428, 429), (6, 46, 8, 0, 2, 732, 489, 490)]
theorem ol_8_ok : ol_8.all od_lrc = true := by decide +kernel
def ol_9 : List (Nat × Nat × Nat × Nat × Nat × Nat × Nat × Nat) := [(6, 50, 59, 1, 2, 733, 734, 0), (6, 54, 155, 1, 2, 744, 745, 0), (6, 60, 60, 1, 1, 737, 738, 0), (6, 68, 156, 1, 2, 741, 742, 0), (7, 22, 0, 2, 1, 70, 71, 72), (7, 32, 29, 2, 1, 93, 94, 95), (7, 39, 39, 2, 1, 141, 142, 143), (7, 46, 43, 2, 1, 165, 166, 167), (7, 53, 47, 2, 1, 180, 181, 182), (7, 60, 51, 2, 1, 204, 205, 206)]
theorem ol_9_ok : ol_9.all od_lrc = true := by decide +kernel
def ol_10 : List (Nat × Nat × Nat × Nat × Nat × Nat × Nat × Nat) := [(7, 67, 55, 2, 1, 228, 229, 230), (7, 72, 80, 0, 2, 300, 302, 0), (7, 77, 82, 1, 3, 373, 374, 0), (7, 81, 83, 1, 1, 376, 377, 0), (7, 85, 16, 0, 2, 395, 396, 397), (7, 89, 17, 0, 3, 445, 446, 447), (7, 93, 13, 0, 2, 460, 461, 462), (7, 97, 26, 1, 2, 275, 276, 0), (7, 101, 1, 0, 1, 475, 476, 477), (7, 105, 30, 1, 3, 479, 480, 0)]
theorem ol_10_ok : ol_10.all od_lrc = true := by decide +kernel
def ol_11 : List (Nat × Nat × Nat × Nat × Nat × Nat × Nat × Nat) := [(7, 109, 31, 0, 4, 501, 502, 503), (7, 112, 32, 0, 4, 515, 516, 517), (7, 115, 36, 1, 3, 558, 559, 0), (7, 118, 37, 0, 4, 561, 562, 563), (7, 121, 40, 1, 3, 570, 571, 0), (7, 124, 41, 0, 5, 579, 580, 581), (7, 128, 84, 0, 2, 594, 596, 6), (7, 132, 5, 0, 1, 609, 610, 611), (7, 136, 45, 1, 3, 613, 614, 0), (7, 140, 46, 0, 4, 634, 635, 636)]
theorem ol_11_ok : ol_11.all od_lrc = true := by decide +kernel
def ol_12 : List (Nat × Nat × Nat × Nat × Nat × Nat × Nat × Nat) := [(7, 143, 48, 0, 3, 649, 650, 651), (7, 147, 49, 0, 4, 659, 660, 661), (7, 151, 56, 1, 3, 681, 682, 0), (7, 155, 4, 0, 1, 598, 599, 600), (7, 165, 58, 0, 3, 728, 729, 730), (7, 171, 52, 0, 4, 755, 756, 757), (7, 182, 81, 0, 2, 790, 792, 10), (8, 40, 88, 0, 3, 862, 864, 13), (8, 44, 89, 0, 5, 874, 876, 15), (8, 51, 87, 0, 2, 858, 860, 12)]
theorem ol_12_ok : ol_12.all od_lrc = true := by decide +kernel
def ol_13 : List (Nat × Nat × Nat × Nat × Nat × Nat × Nat × Nat) := [(8, 55, 92, 0, 3, 895, 897, 19), (8, 59, 93, 0, 3, 903, 905, 21), (8, 62, 97, 0, 2, 927, 929, 27), (8, 66, 91, 0, 3, 883, 885, 17), (8, 69, 95, 0, 5, 907, 909, 22), (8, 72, 94, 0, 3, 911, 913, 23), (8, 75, 96, 0, 3, 891, 893, 18), (8, 78, 90, 0, 4, 870, 872, 14), (8, 82, 102, 0, 4, 899, 901, 20), (8, 86, 103, 0, 4, 943, 945, 30)]
theorem ol_13_ok : ol_13.all od_lrc = true := by decide +kernel
def ol_14 : List (Nat × Nat × Nat × Nat × Nat × Nat × Nat × Nat) := [(8, 89, 106, 0, 4, 951, 953, 32), (8, 92, 107, 0, 4, 959, 961, 34), (8, 97, 100, 0, 3, 854, 856, 11), (8, 100, 98, 0, 2, 923, 925, 26), (8, 103, 99, 0, 2, 931, 933, 28), (8, 107, 101, 0, 2, 935, 937, 29), (8, 110, 109, 1, 2, 939, 940, 0), (8, 113, 104, 0, 4, 915, 917, 24), (8, 116, 113, 1, 1, 850, 851, 0), (8, 119, 114, 0, 2, 879, 881, 16)]
theorem ol_14_ok : ol_14.all od_lrc = true := by decide +kernel
def ol_15 : List (Nat × Nat × Nat × Nat × Nat × Nat × Nat × Nat) := [(8, 122, 110, 0, 4, 919, 921, 25), (8, 125, 105, 0, 4, 947, 949, 31), (8, 128, 108, 0, 3, 955, 957, 33), (8, 131, 111, 0, 4, 967, 969, 35), (8, 134, 120, 0, 3, 979, 981, 36), (8, 137, 112, 0, 5, 983, 985, 37), (8, 141, 122, 0, 4, 992, 994, 38), (8, 146, 128, 1, 2, 1016, 1017, 0), (8, 155, 130, 0, 2, 1025, 1027, 39), (9, 7, 62, 0, 3, 296, 297, 298)]
theorem ol_15_ok : ol_15.all od_lrc = true := by decide +kernel
def ol_16 : List (Nat × Nat × Nat × Nat × Nat × Nat × Nat × Nat) := [(9, 17, 63, 0, 4, 441, 442, 443), (9, 23, 64, 0, 5, 471, 472, 473), (9, 27, 65, 0, 4, 605, 606, 607), (9, 31, 66, 0, 4, 630, 631, 632), (9, 34, 67, 0, 5, 645, 646, 647), (9, 37, 68, 0, 4, 676, 677, 678), (9, 40, 69, 0, 3, 696, 697, 698), (9, 44, 70, 0, 2, 703, 704, 705), (9, 48, 71, 0, 2, 710, 711, 712), (9, 51, 72, 0, 3, 717, 718, 719)]
theorem ol_16_ok : ol_16.all od_lrc = true := by decide +kernel
def ol_17 : List (Nat × Nat × Nat × Nat × Nat × Nat × Nat × Nat) := [(9, 54, 73, 0, 3, 724, 725, 726), (9, 57, 74, 0, 4, 751, 752, 753), (9, 60, 75, 0, 2, 776, 777, 778), (9, 63, 77, 0, 3, 786, 787, 788), (9, 66, 78, 0, 3, 798, 799, 800), (9, 69, 61, 2, 1, 61, 62, 63), (9, 72, 85, 2, 1, 804, 805, 806), (9, 73, 137, 1, 3, 291, 292, 0), (9, 78, 115, 0, 3, 846, 847, 848), (9, 79, 86, 0, 1, 842, 843, 844)]
theorem ol_17_ok : ol_17.all od_lrc = true := by decide +kernel
def ol_18 : List (Nat × Nat × Nat × Nat × Nat × Nat × Nat × Nat) := [(9, 83, 138, 1, 4, 437, 438, 0), (9, 86, 116, 0, 4, 866, 867, 868), (9, 87, 139, 1, 6, 468, 469, 0), (9, 90, 117, 0, 5, 887, 888, 889), (9, 91, 140, 1, 5, 602, 603, 0), (9, 94, 118, 0, 4, 963, 964, 965), (9, 95, 141, 1, 5, 627, 628, 0), (9, 97, 119, 0, 4, 971, 972, 973), (9, 98, 142, 1, 6, 642, 643, 0), (9, 100, 121, 0, 5, 975, 976, 977)]
theorem ol_18_ok : ol_18.all od_lrc = true := by decide +kernel
def ol_19 : List (Nat × Nat × Nat × Nat × Nat × Nat × Nat × Nat) := [(9, 101, 143, 1, 5, 673, 674, 0), (9, 103, 123, 0, 4, 987, 988, 989), (9, 104, 144, 1, 4, 693, 694, 0), (9, 107, 124, 0, 3, 996, 997, 998), (9, 108, 145, 1, 3, 700, 701, 0), (9, 111, 125, 0, 2, 1000, 1001, 1002), (9, 112, 146, 1, 3, 707, 708, 0), (9, 114, 126, 0, 2, 1004, 1005, 1006), (9, 115, 147, 1, 4, 714, 715, 0), (9, 117, 127, 0, 3, 1008, 1009, 1010)]
theorem ol_19_ok : ol_19.all od_lrc = true := by decide +kernel
def ol_20 : List (Nat × Nat × Nat × Nat × Nat × Nat × Nat × Nat) := [(9, 118, 148, 1, 4, 721, 722, 0), (9, 120, 129, 0, 3, 1012, 1013, 1014), (9, 121, 149, 1, 5, 748, 749, 0), (9, 123, 131, 0, 4, 1021, 1022, 1023), (9, 124, 150, 1, 3, 773, 774, 0), (9, 126, 132, 0, 2, 1029, 1030, 1031), (9, 127, 76, 0, 1, 271, 272, 273), (9, 130, 133, 0, 1, 1033, 1034, 1035), (9, 131, 151, 1, 3, 783, 784, 0), (9, 133, 134, 0, 3, 1037, 1038, 1039)]
theorem ol_20_ok : ol_20.all od_lrc = true := by decide +kernel
def ol_21 : List (Nat × Nat × Nat × Nat × Nat × Nat × Nat × Nat) := [(9, 134, 152, 1, 3, 795, 796, 0), (9, 136, 135, 0, 3, 1041, 1042, 1043), (9, 137, 79, 0, 1, 287, 288, 289), (9, 140, 136, 0, 1, 1045, 1046, 1047)]
theorem ol_21_ok : ol_21.all od_lrc = true := by decide +kernel
def om_0 : List (Nat × Nat × Nat) := [(0, 72, 42), (1, 478, 42), (2, 540, 42), (3, 522, 42), (4, 601, 42), (5, 612, 42), (6, 531, 42), (7, 527, 42)]
theorem om_0_ok : om_0.all od_mrc = true := by decide +kernel
def om_1 : List (Nat × Nat × Nat) := [(8, 491, 42), (9, 487, 42), (10, 535, 42), (11, 656, 42), (12, 508, 42), (13, 463, 42), (14, 467, 42), (15, 512, 42)]
theorem om_1_ok : om_1.all od_mrc = true := by decide +kernel
def om_2 : List (Nat × Nat × Nat) := [(16, 398, 42), (17, 448, 42), (18, 456, 42), (19, 410, 42), (20, 406, 42), (21, 430, 42), (22, 434, 42), (23, 452, 42)]
theorem om_2_ok : om_2.all od_mrc = true := by decide +kernel
def om_3 : List (Nat × Nat × Nat) := [(24, 402, 42), (25, 499, 42), (26, 277, 42), (27, 494, 42), (28, 280, 42), (29, 95, 43), (30, 481, 43), (31, 504, 43)]
theorem om_3_ok : om_3.all od_mrc = true := by decide +kernel
def om_4 : List (Nat × Nat × Nat) := [(32, 518, 43), (33, 544, 43), (34, 547, 43), (35, 553, 43), (36, 560, 43), (37, 564, 43), (38, 568, 43), (39, 143, 44)]
theorem om_4_ok : om_4.all od_mrc = true := by decide +kernel
def om_5 : List (Nat × Nat × Nat) := [(40, 572, 44), (41, 582, 44), (42, 590, 44), (43, 167, 45), (44, 625, 45), (45, 615, 45), (46, 637, 45), (47, 182, 46)]
theorem om_5_ok : om_5.all od_mrc = true := by decide +kernel
def om_6 : List (Nat × Nat × Nat) := [(48, 652, 46), (49, 662, 46), (50, 666, 46), (51, 206, 47), (52, 758, 47), (53, 767, 47), (54, 762, 47), (55, 230, 48)]
theorem om_6_ok : om_6.all od_mrc = true := by decide +kernel
def om_7 : List (Nat × Nat × Nat) := [(56, 683, 48), (57, 687, 48), (58, 731, 48), (59, 735, 48), (60, 739, 48), (61, 63, 41), (62, 299, 41), (63, 444, 41)]
theorem om_7_ok : om_7.all od_mrc = true := by decide +kernel
def om_8 : List (Nat × Nat × Nat) := [(64, 474, 41), (65, 608, 41), (66, 633, 41), (67, 648, 41), (68, 679, 41), (69, 699, 41), (70, 706, 41), (71, 713, 41)]
theorem om_8_ok : om_8.all od_mrc = true := by decide +kernel
def om_9 : List (Nat × Nat × Nat) := [(72, 720, 41), (73, 727, 41), (74, 754, 41), (75, 779, 41), (76, 274, 41), (77, 789, 41), (78, 801, 41), (79, 290, 41)]
theorem om_9_ok : om_9.all od_mrc = true := by decide +kernel
def om_10 : List (Nat × Nat × Nat) := [(80, 303, 41), (81, 793, 41), (82, 375, 41), (83, 378, 41), (84, 597, 41), (85, 806, 49), (86, 845, 49), (87, 861, 49)]
theorem om_10_ok : om_10.all od_mrc = true := by decide +kernel
def om_11 : List (Nat × Nat × Nat) := [(88, 865, 49), (89, 877, 49), (90, 873, 49), (91, 886, 49), (92, 898, 49), (93, 906, 49), (94, 914, 49), (95, 910, 49)]
theorem om_11_ok : om_11.all od_mrc = true := by decide +kernel
def om_12 : List (Nat × Nat × Nat) := [(96, 894, 49), (97, 930, 49), (98, 926, 49), (99, 934, 49), (100, 857, 49), (101, 938, 49), (102, 902, 49), (103, 946, 49)]
theorem om_12_ok : om_12.all od_mrc = true := by decide +kernel
def om_13 : List (Nat × Nat × Nat) := [(104, 918, 49), (105, 950, 49), (106, 954, 49), (107, 962, 49), (108, 958, 49), (109, 941, 49), (110, 922, 49), (111, 970, 49)]
theorem om_13_ok : om_13.all od_mrc = true := by decide +kernel
def om_14 : List (Nat × Nat × Nat) := [(112, 986, 49), (113, 852, 49), (114, 882, 49), (115, 849, 49), (116, 869, 49), (117, 890, 49), (118, 966, 49), (119, 974, 49)]
theorem om_14_ok : om_14.all od_mrc = true := by decide +kernel
def om_15 : List (Nat × Nat × Nat) := [(120, 982, 49), (121, 978, 49), (122, 995, 49), (123, 990, 49), (124, 999, 49), (125, 1003, 49), (126, 1007, 49), (127, 1011, 49)]
theorem om_15_ok : om_15.all od_mrc = true := by decide +kernel
def om_16 : List (Nat × Nat × Nat) := [(128, 1018, 49), (129, 1015, 49), (130, 1028, 49), (131, 1024, 49), (132, 1032, 49), (133, 1036, 49), (134, 1040, 49), (135, 1044, 49)]
theorem om_16_ok : om_16.all od_mrc = true := by decide +kernel
def om_17 : List (Nat × Nat × Nat) := [(136, 1048, 49), (137, 293, 40), (138, 439, 40), (139, 470, 40), (140, 604, 40), (141, 629, 40), (142, 644, 40), (143, 675, 40)]
theorem om_17_ok : om_17.all od_mrc = true := by decide +kernel
def om_18 : List (Nat × Nat × Nat) := [(144, 695, 40), (145, 702, 40), (146, 709, 40), (147, 716, 40), (148, 723, 40), (149, 750, 40), (150, 775, 40), (151, 785, 40)]
theorem om_18_ok : om_18.all od_mrc = true := by decide +kernel
def om_19 : List (Nat × Nat × Nat) := [(152, 797, 40), (154, 283, 57), (155, 746, 57), (156, 743, 57), (157, 286, 58)]
theorem om_19_ok : om_19.all od_mrc = true := by decide +kernel
def od_lks : List (Nat × Nat × Nat × Nat × Nat × Nat × Nat × Nat) := 
  ol_0 ++ (ol_1 ++ (ol_2 ++ (ol_3 ++ (ol_4 ++ (ol_5 ++ (ol_6 ++ (ol_7 ++ (ol_8 ++ (ol_9 ++ (ol_10 ++ (ol_11 ++ (ol_12 ++ (ol_13 ++ (ol_14 ++ (ol_15 ++ (ol_16 ++ (ol_17 ++ (ol_18 ++ (ol_19 ++ (ol_20 ++ (ol_21)))))))))))))))))))))
theorem od_lks_ok : ∀ r ∈ od_lks, od_lrc r = true := List.forall_mem_append.mpr ⟨List.all_eq_true.mp ol_0_ok, List.forall_mem_append.mpr ⟨List.all_eq_true.mp ol_1_ok, List.forall_mem_append.mpr ⟨List.all_eq_true.mp ol_2_ok, List.forall_mem_append.mpr ⟨List.all_eq_true.mp ol_3_ok, List.forall_mem_append.mpr ⟨List.all_eq_true.mp ol_4_ok, List.forall_mem_append.mpr ⟨List.all_eq_true.mp ol_5_ok, List.forall_mem_append.mpr ⟨List.all_eq_true.mp ol_6_ok, List.forall_mem_append.mpr ⟨List.all_eq_true.mp ol_7_ok, List.forall_mem_append.mpr ⟨List.all_eq_true.mp ol_8_ok, List.forall_mem_append.mpr ⟨List.all_eq_true.mp ol_9_ok, List.forall_mem_append.mpr ⟨List.all_eq_true.mp ol_10_ok, List.forall_mem_append.mpr ⟨List.all_eq_true.mp ol_11_ok, List.forall_mem_append.mpr ⟨List.all_eq_true.mp ol_12_ok, List.forall_mem_append.mpr ⟨List.all_eq_true.mp ol_13_ok, List.forall_mem_append.mpr ⟨List.all_eq_true.mp ol_14_ok, List.forall_mem_append.mpr ⟨List.all_eq_true.mp ol_15_ok, List.forall_mem_append.mpr ⟨List.all_eq_true.mp ol_16_ok, List.forall_mem_append.mpr ⟨List.all_eq_true.mp ol_17_ok, List.forall_mem_append.mpr ⟨List.all_eq_true.mp ol_18_ok, List.forall_mem_append.mpr ⟨List.all_eq_true.mp ol_19_ok, List.forall_mem_append.mpr ⟨List.all_eq_true.mp ol_20_ok, List.all_eq_true.mp ol_21_ok⟩⟩⟩⟩⟩⟩⟩⟩⟩⟩⟩⟩⟩⟩⟩⟩⟩⟩⟩⟩⟩
def od_mks : List (Nat × Nat × Nat) := 
  om_0 ++ (om_1 ++ (om_2 ++ (om_3 ++ (om_4 ++ (om_5 ++ (om_6 ++ (om_7 ++ (om_8 ++ (om_9 ++ (om_10 ++ (om_11 ++ (om_12 ++ (om_13 ++ (om_14 ++ (om_15 ++ (om_16 ++ (om_17 ++ (om_18 ++ (om_19)))))))))))))))))))
set_option maxRecDepth 100000 in
theorem on_0_ok : ∀ r ∈ om_0, od_cw r.1 ∈ od_WS := List.forall_mem_cons.mpr ⟨od_hasR 72 rfl rfl, List.forall_mem_cons.mpr ⟨od_hasR 478 rfl rfl, List.forall_mem_cons.mpr ⟨od_hasR 540 rfl rfl, List.forall_mem_cons.mpr ⟨od_hasR 522 rfl rfl, List.forall_mem_cons.mpr ⟨od_hasR 601 rfl rfl, List.forall_mem_cons.mpr ⟨od_hasR 612 rfl rfl, List.forall_mem_cons.mpr ⟨od_hasR 531 rfl rfl, List.forall_mem_cons.mpr ⟨od_hasR 527 rfl rfl, fun _ h => absurd h List.not_mem_nil⟩⟩⟩⟩⟩⟩⟩⟩
set_option maxRecDepth 100000 in
theorem on_1_ok : ∀ r ∈ om_1, od_cw r.1 ∈ od_WS := List.forall_mem_cons.mpr ⟨od_hasR 491 rfl rfl, List.forall_mem_cons.mpr ⟨od_hasR 487 rfl rfl, List.forall_mem_cons.mpr ⟨od_hasR 535 rfl rfl, List.forall_mem_cons.mpr ⟨od_hasR 656 rfl rfl, List.forall_mem_cons.mpr ⟨od_hasR 508 rfl rfl, List.forall_mem_cons.mpr ⟨od_hasR 463 rfl rfl, List.forall_mem_cons.mpr ⟨od_hasR 467 rfl rfl, List.forall_mem_cons.mpr ⟨od_hasR 512 rfl rfl, fun _ h => absurd h List.not_mem_nil⟩⟩⟩⟩⟩⟩⟩⟩
set_option maxRecDepth 100000 in
theorem on_2_ok : ∀ r ∈ om_2, od_cw r.1 ∈ od_WS := List.forall_mem_cons.mpr ⟨od_hasR 398 rfl rfl, List.forall_mem_cons.mpr ⟨od_hasR 448 rfl rfl, List.forall_mem_cons.mpr ⟨od_hasR 456 rfl rfl, List.forall_mem_cons.mpr ⟨od_hasR 410 rfl rfl, List.forall_mem_cons.mpr ⟨od_hasR 406 rfl rfl, List.forall_mem_cons.mpr ⟨od_hasR 430 rfl rfl, List.forall_mem_cons.mpr ⟨od_hasR 434 rfl rfl, List.forall_mem_cons.mpr ⟨od_hasR 452 rfl rfl, fun _ h => absurd h List.not_mem_nil⟩⟩⟩⟩⟩⟩⟩⟩
set_option maxRecDepth 100000 in
theorem on_3_ok : ∀ r ∈ om_3, od_cw r.1 ∈ od_WS := List.forall_mem_cons.mpr ⟨od_hasR 402 rfl rfl, List.forall_mem_cons.mpr ⟨od_hasR 499 rfl rfl, List.forall_mem_cons.mpr ⟨od_hasR 277 rfl rfl, List.forall_mem_cons.mpr ⟨od_hasR 494 rfl rfl, List.forall_mem_cons.mpr ⟨od_hasR 280 rfl rfl, List.forall_mem_cons.mpr ⟨od_hasR 95 rfl rfl, List.forall_mem_cons.mpr ⟨od_hasR 481 rfl rfl, List.forall_mem_cons.mpr ⟨od_hasR 504 rfl rfl, fun _ h => absurd h List.not_mem_nil⟩⟩⟩⟩⟩⟩⟩⟩
set_option maxRecDepth 100000 in
theorem on_4_ok : ∀ r ∈ om_4, od_cw r.1 ∈ od_WS := List.forall_mem_cons.mpr ⟨od_hasR 518 rfl rfl, List.forall_mem_cons.mpr ⟨od_hasR 544 rfl rfl, List.forall_mem_cons.mpr ⟨od_hasR 547 rfl rfl, List.forall_mem_cons.mpr ⟨od_hasR 553 rfl rfl, List.forall_mem_cons.mpr ⟨od_hasR 560 rfl rfl, List.forall_mem_cons.mpr ⟨od_hasR 564 rfl rfl, List.forall_mem_cons.mpr ⟨od_hasR 568 rfl rfl, List.forall_mem_cons.mpr ⟨od_hasR 143 rfl rfl, fun _ h => absurd h List.not_mem_nil⟩⟩⟩⟩⟩⟩⟩⟩
set_option maxRecDepth 100000 in
theorem on_5_ok : ∀ r ∈ om_5, od_cw r.1 ∈ od_WS := List.forall_mem_cons.mpr ⟨od_hasR 572 rfl rfl, List.forall_mem_cons.mpr ⟨od_hasR 582 rfl rfl, List.forall_mem_cons.mpr ⟨od_hasR 590 rfl rfl, List.forall_mem_cons.mpr ⟨od_hasR 167 rfl rfl, List.forall_mem_cons.mpr ⟨od_hasR 625 rfl rfl, List.forall_mem_cons.mpr ⟨od_hasR 615 rfl rfl, List.forall_mem_cons.mpr ⟨od_hasR 637 rfl rfl, List.forall_mem_cons.mpr ⟨od_hasR 182 rfl rfl, fun _ h => absurd h List.not_mem_nil⟩⟩⟩⟩⟩⟩⟩⟩
set_option maxRecDepth 100000 in
theorem on_6_ok : ∀ r ∈ om_6, od_cw r.1 ∈ od_WS := List.forall_mem_cons.mpr ⟨od_hasR 652 rfl rfl, List.forall_mem_cons.mpr ⟨od_hasR 662 rfl rfl, List.forall_mem_cons.mpr ⟨od_hasR 666 rfl rfl, List.forall_mem_cons.mpr ⟨od_hasR 206 rfl rfl, List.forall_mem_cons.mpr ⟨od_hasR 758 rfl rfl, List.forall_mem_cons.mpr ⟨od_hasR 767 rfl rfl, List.forall_mem_cons.mpr ⟨od_hasR 762 rfl rfl, List.forall_mem_cons.mpr ⟨od_hasR 230 rfl rfl, fun _ h => absurd h List.not_mem_nil⟩⟩⟩⟩⟩⟩⟩⟩
set_option maxRecDepth 100000 in
theorem on_7_ok : ∀ r ∈ om_7, od_cw r.1 ∈ od_WS := List.forall_mem_cons.mpr ⟨od_hasR 683 rfl rfl, List.forall_mem_cons.mpr ⟨od_hasR 687 rfl rfl, List.forall_mem_cons.mpr ⟨od_hasR 731 rfl rfl, List.forall_mem_cons.mpr ⟨od_hasR 735 rfl rfl, List.forall_mem_cons.mpr ⟨od_hasR 739 rfl rfl, List.forall_mem_cons.mpr ⟨od_hasR 63 rfl rfl, List.forall_mem_cons.mpr ⟨od_hasR 299 rfl rfl, List.forall_mem_cons.mpr ⟨od_hasR 444 rfl rfl, fun _ h => absurd h List.not_mem_nil⟩⟩⟩⟩⟩⟩⟩⟩
set_option maxRecDepth 100000 in
theorem on_8_ok : ∀ r ∈ om_8, od_cw r.1 ∈ od_WS := List.forall_mem_cons.mpr ⟨od_hasR 474 rfl rfl, List.forall_mem_cons.mpr ⟨od_hasR 608 rfl rfl, List.forall_mem_cons.mpr ⟨od_hasR 633 rfl rfl, List.forall_mem_cons.mpr ⟨od_hasR 648 rfl rfl, List.forall_mem_cons.mpr ⟨od_hasR 679 rfl rfl, List.forall_mem_cons.mpr ⟨od_hasR 699 rfl rfl, List.forall_mem_cons.mpr ⟨od_hasR 706 rfl rfl, List.forall_mem_cons.mpr ⟨od_hasR 713 rfl rfl, fun _ h => absurd h List.not_mem_nil⟩⟩⟩⟩⟩⟩⟩⟩
set_option maxRecDepth 100000 in
theorem on_9_ok : ∀ r ∈ om_9, od_cw r.1 ∈ od_WS := List.forall_mem_cons.mpr ⟨od_hasR 720 rfl rfl, List.forall_mem_cons.mpr ⟨od_hasR 727 rfl rfl, List.forall_mem_cons.mpr ⟨od_hasR 754 rfl rfl, List.forall_mem_cons.mpr ⟨od_hasR 779 rfl rfl, List.forall_mem_cons.mpr ⟨od_hasR 274 rfl rfl, List.forall_mem_cons.mpr ⟨od_hasR 789 rfl rfl, List.forall_mem_cons.mpr ⟨od_hasR 801 rfl rfl, List.forall_mem_cons.mpr ⟨od_hasR 290 rfl rfl, fun _ h => absurd h List.not_mem_nil⟩⟩⟩⟩⟩⟩⟩⟩
set_option maxRecDepth 100000 in
theorem on_10_ok : ∀ r ∈ om_10, od_cw r.1 ∈ od_WS := List.forall_mem_cons.mpr ⟨od_hasR 303 rfl rfl, List.forall_mem_cons.mpr ⟨od_hasR 793 rfl rfl, List.forall_mem_cons.mpr ⟨od_hasR 375 rfl rfl, List.forall_mem_cons.mpr ⟨od_hasR 378 rfl rfl, List.forall_mem_cons.mpr ⟨od_hasR 597 rfl rfl, List.forall_mem_cons.mpr ⟨od_hasR 806 rfl rfl, List.forall_mem_cons.mpr ⟨od_hasR 845 rfl rfl, List.forall_mem_cons.mpr ⟨od_hasR 861 rfl rfl, fun _ h => absurd h List.not_mem_nil⟩⟩⟩⟩⟩⟩⟩⟩
set_option maxRecDepth 100000 in
theorem on_11_ok : ∀ r ∈ om_11, od_cw r.1 ∈ od_WS := List.forall_mem_cons.mpr ⟨od_hasR 865 rfl rfl, List.forall_mem_cons.mpr ⟨od_hasR 877 rfl rfl, List.forall_mem_cons.mpr ⟨od_hasR 873 rfl rfl, List.forall_mem_cons.mpr ⟨od_hasR 886 rfl rfl, List.forall_mem_cons.mpr ⟨od_hasR 898 rfl rfl, List.forall_mem_cons.mpr ⟨od_hasR 906 rfl rfl, List.forall_mem_cons.mpr ⟨od_hasR 914 rfl rfl, List.forall_mem_cons.mpr ⟨od_hasR 910 rfl rfl, fun _ h => absurd h List.not_mem_nil⟩⟩⟩⟩⟩⟩⟩⟩
set_option maxRecDepth 100000 in
theorem on_12_ok : ∀ r ∈ om_12, od_cw r.1 ∈ od_WS := List.forall_mem_cons.mpr ⟨od_hasR 894 rfl rfl, List.forall_mem_cons.mpr ⟨od_hasR 930 rfl rfl, List.forall_mem_cons.mpr ⟨od_hasR 926 rfl rfl, List.forall_mem_cons.mpr ⟨od_hasR 934 rfl rfl, List.forall_mem_cons.mpr ⟨od_hasR 857 rfl rfl, List.forall_mem_cons.mpr ⟨od_hasR 938 rfl rfl, List.forall_mem_cons.mpr ⟨od_hasR 902 rfl rfl, List.forall_mem_cons.mpr ⟨od_hasR 946 rfl rfl, fun _ h => absurd h List.not_mem_nil⟩⟩⟩⟩⟩⟩⟩⟩
set_option maxRecDepth 100000 in
theorem on_13_ok : ∀ r ∈ om_13, od_cw r.1 ∈ od_WS := List.forall_mem_cons.mpr ⟨od_hasR 918 rfl rfl, List.forall_mem_cons.mpr ⟨od_hasR 950 rfl rfl, List.forall_mem_cons.mpr ⟨od_hasR 954 rfl rfl, List.forall_mem_cons.mpr ⟨od_hasR 962 rfl rfl, List.forall_mem_cons.mpr ⟨od_hasR 958 rfl rfl, List.forall_mem_cons.mpr ⟨od_hasR 941 rfl rfl, List.forall_mem_cons.mpr ⟨od_hasR 922 rfl rfl, List.forall_mem_cons.mpr ⟨od_hasR 970 rfl rfl, fun _ h => absurd h List.not_mem_nil⟩⟩⟩⟩⟩⟩⟩⟩
set_option maxRecDepth 100000 in
theorem on_14_ok : ∀ r ∈ om_14, od_cw r.1 ∈ od_WS := List.forall_mem_cons.mpr ⟨od_hasR 986 rfl rfl, List.forall_mem_cons.mpr ⟨od_hasR 852 rfl rfl, List.forall_mem_cons.mpr ⟨od_hasR 882 rfl rfl, List.forall_mem_cons.mpr ⟨od_hasR 849 rfl rfl, List.forall_mem_cons.mpr ⟨od_hasR 869 rfl rfl, List.forall_mem_cons.mpr ⟨od_hasR 890 rfl rfl, List.forall_mem_cons.mpr ⟨od_hasR 966 rfl rfl, List.forall_mem_cons.mpr ⟨od_hasR 974 rfl rfl, fun _ h => absurd h List.not_mem_nil⟩⟩⟩⟩⟩⟩⟩⟩
set_option maxRecDepth 100000 in
theorem on_15_ok : ∀ r ∈ om_15, od_cw r.1 ∈ od_WS := List.forall_mem_cons.mpr ⟨od_hasR 982 rfl rfl, List.forall_mem_cons.mpr ⟨od_hasR 978 rfl rfl, List.forall_mem_cons.mpr ⟨od_hasR 995 rfl rfl, List.forall_mem_cons.mpr ⟨od_hasR 990 rfl rfl, List.forall_mem_cons.mpr ⟨od_hasR 999 rfl rfl, List.forall_mem_cons.mpr ⟨od_hasR 1003 rfl rfl, List.forall_mem_cons.mpr ⟨od_hasR 1007 rfl rfl, List.forall_mem_cons.mpr ⟨od_hasR 1011 rfl rfl, fun _ h => absurd h List.not_mem_nil⟩⟩⟩⟩⟩⟩⟩⟩
set_option maxRecDepth 100000 in
theorem on_16_ok : ∀ r ∈ om_16, od_cw r.1 ∈ od_WS := List.forall_mem_cons.mpr ⟨od_hasR 1018 rfl rfl, List.forall_mem_cons.mpr ⟨od_hasR 1015 rfl rfl, List.forall_mem_cons.mpr ⟨od_hasR 1028 rfl rfl, List.forall_mem_cons.mpr ⟨od_hasR 1024 rfl rfl, List.forall_mem_cons.mpr ⟨od_hasR 1032 rfl rfl, List.forall_mem_cons.mpr ⟨od_hasR 1036 rfl rfl, List.forall_mem_cons.mpr ⟨od_hasR 1040 rfl rfl, List.forall_mem_cons.mpr ⟨od_hasR 1044 rfl rfl, fun _ h => absurd h List.not_mem_nil⟩⟩⟩⟩⟩⟩⟩⟩
set_option maxRecDepth 100000 in
theorem on_17_ok : ∀ r ∈ om_17, od_cw r.1 ∈ od_WS := List.forall_mem_cons.mpr ⟨od_hasR 1048 rfl rfl, List.forall_mem_cons.mpr ⟨od_hasR 293 rfl rfl, List.forall_mem_cons.mpr ⟨od_hasR 439 rfl rfl, List.forall_mem_cons.mpr ⟨od_hasR 470 rfl rfl, List.forall_mem_cons.mpr ⟨od_hasR 604 rfl rfl, List.forall_mem_cons.mpr ⟨od_hasR 629 rfl rfl, List.forall_mem_cons.mpr ⟨od_hasR 644 rfl rfl, List.forall_mem_cons.mpr ⟨od_hasR 675 rfl rfl, fun _ h => absurd h List.not_mem_nil⟩⟩⟩⟩⟩⟩⟩⟩
set_option maxRecDepth 100000 in
theorem on_18_ok : ∀ r ∈ om_18, od_cw r.1 ∈ od_WS := List.forall_mem_cons.mpr ⟨od_hasR 695 rfl rfl, List.forall_mem_cons.mpr ⟨od_hasR 702 rfl rfl, List.forall_mem_cons.mpr ⟨od_hasR 709 rfl rfl, List.forall_mem_cons.mpr ⟨od_hasR 716 rfl rfl, List.forall_mem_cons.mpr ⟨od_hasR 723 rfl rfl, List.forall_mem_cons.mpr ⟨od_hasR 750 rfl rfl, List.forall_mem_cons.mpr ⟨od_hasR 775 rfl rfl, List.forall_mem_cons.mpr ⟨od_hasR 785 rfl rfl, fun _ h => absurd h List.not_mem_nil⟩⟩⟩⟩⟩⟩⟩⟩
set_option maxRecDepth 100000 in
theorem on_19_ok : ∀ r ∈ om_19, od_cw r.1 ∈ od_WS := List.forall_mem_cons.mpr ⟨od_hasR 797 rfl rfl, List.forall_mem_cons.mpr ⟨od_hasR 283 rfl rfl, List.forall_mem_cons.mpr ⟨od_hasR 746 rfl rfl, List.forall_mem_cons.mpr ⟨od_hasR 743 rfl rfl, List.forall_mem_cons.mpr ⟨od_hasR 286 rfl rfl, fun _ h => absurd h List.not_mem_nil⟩⟩⟩⟩⟩
theorem od_cws_ok : ∀ r ∈ od_mks, od_cw r.1 ∈ od_WS := List.forall_mem_append.mpr ⟨on_0_ok, List.forall_mem_append.mpr ⟨on_1_ok, List.forall_mem_append.mpr ⟨on_2_ok, List.forall_mem_append.mpr ⟨on_3_ok, List.forall_mem_append.mpr ⟨on_4_ok, List.forall_mem_append.mpr ⟨on_5_ok, List.forall_mem_append.mpr ⟨on_6_ok, List.forall_mem_append.mpr ⟨on_7_ok, List.forall_mem_append.mpr ⟨on_8_ok, List.forall_mem_append.mpr ⟨on_9_ok, List.forall_mem_append.mpr ⟨on_10_ok, List.forall_mem_append.mpr ⟨on_11_ok, List.forall_mem_append.mpr ⟨on_12_ok, List.forall_mem_append.mpr ⟨on_13_ok, List.forall_mem_append.mpr ⟨on_14_ok, List.forall_mem_append.mpr ⟨on_15_ok, List.forall_mem_append.mpr ⟨on_16_ok, List.forall_mem_append.mpr ⟨on_17_ok, List.forall_mem_append.mpr ⟨on_18_ok, on_19_ok⟩⟩⟩⟩⟩⟩⟩⟩⟩⟩⟩⟩⟩⟩⟩⟩⟩⟩⟩
theorem od_mks_ok : ∀ r ∈ od_mks, od_mrc r = true := List.forall_mem_append.mpr ⟨List.all_eq_true.mp om_0_ok, List.forall_mem_append.mpr ⟨List.all_eq_true.mp om_1_ok, List.forall_mem_append.mpr ⟨List.all_eq_true.mp om_2_ok, List.forall_mem_append.mpr ⟨List.all_eq_true.mp om_3_ok, List.forall_mem_append.mpr ⟨List.all_eq_true.mp om_4_ok, List.forall_mem_append.mpr ⟨List.all_eq_true.mp om_5_ok, List.forall_mem_append.mpr ⟨List.all_eq_true.mp om_6_ok, List.forall_mem_append.mpr ⟨List.all_eq_true.mp om_7_ok, List.forall_mem_append.mpr ⟨List.all_eq_true.mp om_8_ok, List.forall_mem_append.mpr ⟨List.all_eq_true.mp om_9_ok, List.forall_mem_append.mpr ⟨List.all_eq_true.mp om_10_ok, List.forall_mem_append.mpr ⟨List.all_eq_true.mp om_11_ok, List.forall_mem_append.mpr ⟨List.all_eq_true.mp om_12_ok, List.forall_mem_append.mpr ⟨List.all_eq_true.mp om_13_ok, List.forall_mem_append.mpr ⟨List.all_eq_true.mp om_14_ok, List.forall_mem_append.mpr ⟨List.all_eq_true.mp om_15_ok, List.forall_mem_append.mpr ⟨List.all_eq_true.mp om_16_ok, List.forall_mem_append.mpr ⟨List.all_eq_true.mp om_17_ok, List.forall_mem_append.mpr ⟨List.all_eq_true.mp om_18_ok, List.all_eq_true.mp om_19_ok⟩⟩⟩⟩⟩⟩⟩⟩⟩⟩⟩⟩⟩⟩⟩⟩⟩⟩⟩
