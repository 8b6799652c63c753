/-! the methods' own words, by their places -/
def kPl : List (Nat × Nat × Nat × Nat × Nat) := [(0, 0, 0, 0, 0), (104, 85, 0, 103, 0), (537, 85, 0, 535, 536), (546, 85, 0, 544, 545), (550, 85, 0, 549, 13), (560, 85, 0, 558, 559), (563, 85, 562, 0, 0), (567, 85, 0, 565, 566), (772, 85, 0, 770, 771), (776, 85, 0, 774, 775), (784, 85, 0, 782, 783), (788, 85, 0, 786, 787), (792, 85, 0, 790, 791), (797, 85, 0, 795, 796), (806, 85, 0, 804, 805), (112, 86, 0, 111, 0), (288, 86, 0, 286, 287), (292, 86, 0, 290, 291), (303, 86, 0, 301, 302), (387, 86, 0, 385, 386), (404, 86, 0, 402, 403), (541, 86, 0, 539, 540), (554, 86, 0, 552, 553), (780, 86, 0, 778, 779), (810, 86, 0, 808, 809), (265, 92, 0, 264, 0), (284, 92, 0, 282, 283), (296, 92, 0, 294, 295), (306, 92, 305, 0, 0), (310, 92, 0, 308, 309), (314, 92, 0, 313, 0), (391, 92, 0, 389, 390), (395, 92, 0, 393, 394), (438, 92, 0, 436, 437), (801, 92, 0, 799, 800), (176, 89, 0, 175, 0), (633, 89, 0, 631, 632), (686, 89, 0, 684, 685), (711, 89, 0, 709, 710), (768, 89, 0, 766, 767), (132, 87, 0, 131, 0), (571, 87, 0, 569, 570), (593, 87, 0, 592, 15), (616, 87, 0, 615, 16), (624, 87, 0, 623, 17), (629, 87, 0, 628, 18), (638, 87, 0, 637, 19), (644, 87, 0, 643, 20), (648, 87, 0, 647, 21), (664, 87, 0, 663, 22), (668, 87, 0, 667, 23), (682, 87, 0, 681, 24), (690, 87, 0, 689, 25), (701, 87, 0, 700, 26), (707, 87, 0, 706, 27), (722, 87, 0, 721, 28), (726, 87, 0, 725, 29), (734, 87, 0, 733, 30), (742, 87, 0, 741, 31), (748, 87, 0, 747, 32), (759, 87, 0, 758, 33), (763, 87, 0, 762, 34), (241, 91, 0, 240, 0), (455, 91, 0, 453, 454), (461, 91, 0, 459, 460), (465, 91, 0, 464, 9), (473, 91, 0, 471, 472), (481, 91, 0, 479, 480), (485, 91, 0, 483, 484), (233, 90, 0, 232, 0), (318, 90, 0, 316, 317), (324, 90, 0, 323, 1), (378, 90, 0, 377, 2), (383, 90, 0, 382, 3), (399, 90, 0, 398, 4), (410, 90, 0, 409, 5), (413, 90, 412, 0, 0), (417, 90, 0, 416, 6), (420, 90, 419, 0, 0), (426, 90, 0, 425, 7), (431, 90, 0, 430, 8), (477, 90, 0, 476, 10), (489, 90, 0, 488, 11), (512, 90, 0, 511, 12), (140, 88, 0, 139, 0), (575, 88, 0, 573, 574), (580, 88, 0, 578, 579), (583, 88, 582, 0, 0), (587, 88, 0, 586, 14), (598, 88, 0, 596, 597), (603, 88, 0, 601, 602), (610, 88, 0, 608, 609), (620, 88, 0, 618, 619), (652, 88, 0, 650, 651), (656, 88, 0, 654, 655), (660, 88, 659, 0, 0), (672, 88, 0, 670, 671), (676, 88, 0, 674, 675), (715, 88, 0, 713, 714), (752, 88, 0, 750, 751), (441, 98, 440, 0, 0), (445, 98, 444, 0, 0), (448, 98, 447, 0, 0), (451, 98, 450, 0, 0), (492, 98, 491, 0, 0), (693, 98, 692, 0, 0), (815, 99, 0, 814, 0), (820, 99, 0, 819, 35), (824, 99, 0, 823, 36), (828, 99, 0, 827, 37), (832, 99, 0, 831, 38), (837, 99, 0, 836, 39), (841, 99, 0, 840, 40), (845, 99, 0, 844, 41), (851, 99, 0, 850, 42), (855, 99, 0, 854, 43), (859, 99, 0, 858, 44), (863, 99, 0, 862, 45), (867, 99, 0, 866, 46), (871, 99, 0, 870, 47), (875, 99, 0, 874, 48), (879, 99, 0, 878, 49), (882, 99, 881, 0, 0), (886, 99, 0, 885, 50), (890, 99, 0, 889, 51), (895, 99, 0, 894, 52), (899, 99, 0, 898, 53), (903, 99, 0, 902, 54), (996, 99, 0, 994, 995), (1000, 99, 0, 998, 999), (1004, 99, 0, 1003, 55), (1008, 99, 0, 1007, 56), (1012, 99, 0, 1011, 57), (1016, 99, 0, 1015, 58), (1020, 99, 0, 1018, 1019), (1024, 99, 0, 1022, 1023), (1028, 99, 0, 1027, 59), (1032, 99, 0, 1031, 60), (1036, 99, 0, 1035, 61), (1040, 99, 0, 1039, 62), (1044, 99, 0, 1043, 63), (1048, 99, 0, 1047, 64), (1052, 99, 0, 1051, 65), (1056, 99, 0, 1055, 66), (1060, 99, 0, 1059, 67), (1064, 99, 0, 1063, 68), (1070, 99, 0, 1069, 69), (1074, 99, 0, 1073, 70), (1078, 99, 0, 1077, 71), (1082, 99, 0, 1081, 72), (1088, 99, 0, 1087, 73), (1092, 99, 0, 1091, 74), (1095, 99, 1094, 0, 0), (1101, 99, 0, 1100, 75), (1105, 99, 0, 1104, 76), (1109, 99, 0, 1108, 77), (1113, 99, 0, 1112, 78), (1117, 99, 0, 1116, 79), (1121, 99, 0, 1120, 80), (1125, 99, 0, 1124, 81), (1132, 99, 0, 1130, 1131), (1136, 99, 0, 1134, 1135), (1140, 99, 0, 1138, 1139), (1144, 99, 0, 1142, 1143), (1148, 99, 0, 1146, 1147), (1152, 99, 0, 1151, 82), (1156, 99, 0, 1155, 83), (1160, 99, 0, 1158, 1159), (1165, 99, 0, 1163, 1164), (328, 94, 0, 326, 327), (332, 94, 0, 330, 331), (338, 94, 0, 336, 337), (342, 94, 0, 340, 341), (348, 94, 347, 0, 0), (345, 95, 344, 0, 0), (353, 96, 352, 0, 0)]
def kP (mj : Nat) : Nat × Nat × Nat × Nat × Nat := kPl.getD mj (0, 0, 0, 0, 0)
def kEqB (a b : ByteArray) : Bool := decide (a.data.toList = b.data.toList)
theorem kEqB_s {a b : ByteArray} (h : kEqB a b = true) : a = b := by
  cases a; cases b
  exact congrArg ByteArray.mk (Array.toList_inj.mp (of_decide_eq_true h))
def kAtC (i : Nat) (y : MethodName) (b : ByteArray) (n : Nat) (r : Option FieldType) : Bool := match lw_tbl[i]? with
  | some (.code y1 b1 n1 r1) => decide (y = y1 ∧ n = n1 ∧ r = r1) && kEqB b b1
  | _ => false
theorem kAtC_s {i : Nat} {y : MethodName} {b : ByteArray} {n : Nat} {r : Option FieldType} (h : kAtC i y b n r = true) : Cond.code y b n r ∈ kWS := by
  unfold kAtC at h
  split at h
  next y1 b1 n1 r1 hq =>
    obtain ⟨h1, h2⟩ := (Bool.and_eq_true _ _).mp h
    obtain ⟨rfl, rfl, rfl⟩ := of_decide_eq_true h1
    have e := kEqB_s h2
    subst e
    exact List.mem_filter.mpr ⟨List.mem_of_getElem? hq, rfl⟩
  next => cases h
def kMok (mj : Nat) : Bool := kAtC (kP mj).1 (kY mj) (kC mj) (kL mj) (kR mj) && (kAt (kP mj).2.1 (.initialized (kY mj).cls) && (decide ((kY mj).cls = kOn (kO mj) ∧ (kY mj).cls ≠ "java/lang/invoke/MethodHandle" ∧ (kY mj).cls ≠ "java/lang/invoke/VarHandle") && (plainName (kY mj).cls && decide (kN0 mj = true → (kY mj).name = "<init>"))))
set_option maxRecDepth 100000 in
theorem kMok_1 : ((List.range 22).all (fun k => kMok (1 + k))) = true := by decide +kernel
set_option maxRecDepth 100000 in
theorem kMok_23 : ((List.range 22).all (fun k => kMok (23 + k))) = true := by decide +kernel
set_option maxRecDepth 100000 in
theorem kMok_45 : ((List.range 22).all (fun k => kMok (45 + k))) = true := by decide +kernel
set_option maxRecDepth 100000 in
theorem kMok_67 : ((List.range 22).all (fun k => kMok (67 + k))) = true := by decide +kernel
set_option maxRecDepth 100000 in
theorem kMok_89 : ((List.range 22).all (fun k => kMok (89 + k))) = true := by decide +kernel
set_option maxRecDepth 100000 in
theorem kMok_111 : ((List.range 22).all (fun k => kMok (111 + k))) = true := by decide +kernel
set_option maxRecDepth 100000 in
theorem kMok_133 : ((List.range 22).all (fun k => kMok (133 + k))) = true := by decide +kernel
set_option maxRecDepth 100000 in
theorem kMok_155 : ((List.range 21).all (fun k => kMok (155 + k))) = true := by decide +kernel
theorem kMall {mj : Nat} (h0 : 0 < mj) (h : mj < kNM) : kMok mj = true := by
  have h : mj < 176 := h
  rcases Nat.lt_or_ge mj 23 with z | z
  · have e := List.all_eq_true.mp kMok_1 (mj - 1) (List.mem_range.mpr (by omega))
    rwa [show 1 + (mj - 1) = mj by omega] at e
  rcases Nat.lt_or_ge mj 45 with z | z
  · have e := List.all_eq_true.mp kMok_23 (mj - 23) (List.mem_range.mpr (by omega))
    rwa [show 23 + (mj - 23) = mj by omega] at e
  rcases Nat.lt_or_ge mj 67 with z | z
  · have e := List.all_eq_true.mp kMok_45 (mj - 45) (List.mem_range.mpr (by omega))
    rwa [show 45 + (mj - 45) = mj by omega] at e
  rcases Nat.lt_or_ge mj 89 with z | z
  · have e := List.all_eq_true.mp kMok_67 (mj - 67) (List.mem_range.mpr (by omega))
    rwa [show 67 + (mj - 67) = mj by omega] at e
  rcases Nat.lt_or_ge mj 111 with z | z
  · have e := List.all_eq_true.mp kMok_89 (mj - 89) (List.mem_range.mpr (by omega))
    rwa [show 89 + (mj - 89) = mj by omega] at e
  rcases Nat.lt_or_ge mj 133 with z | z
  · have e := List.all_eq_true.mp kMok_111 (mj - 111) (List.mem_range.mpr (by omega))
    rwa [show 111 + (mj - 111) = mj by omega] at e
  rcases Nat.lt_or_ge mj 155 with z | z
  · have e := List.all_eq_true.mp kMok_133 (mj - 133) (List.mem_range.mpr (by omega))
    rwa [show 133 + (mj - 133) = mj by omega] at e
  rcases Nat.lt_or_ge mj 176 with z | z
  · have e := List.all_eq_true.mp kMok_155 (mj - 155) (List.mem_range.mpr (by omega))
    rwa [show 155 + (mj - 155) = mj by omega] at e
  omega
theorem kt_Y {mj : Nat} (h0 : 0 < mj) (h : mj < kNM) : Cond.code (kY mj) (kC mj) (kL mj) (kR mj) ∈ kWS ∧ Cond.initialized (kY mj).cls ∈ kWS ∧ ((kY mj).cls = kOn (kO mj) ∧ (kY mj).cls ≠ "java/lang/invoke/MethodHandle" ∧ (kY mj).cls ≠ "java/lang/invoke/VarHandle") ∧ plainName (kY mj).cls = true ∧ (kN0 mj = true → (kY mj).name = "<init>") := by
  have h1 := kMall h0 h
  unfold kMok at h1
  obtain ⟨a1, h2⟩ := (Bool.and_eq_true _ _).mp h1
  obtain ⟨a2, h3⟩ := (Bool.and_eq_true _ _).mp h2
  obtain ⟨a3, h4⟩ := (Bool.and_eq_true _ _).mp h3
  obtain ⟨a4, a5⟩ := (Bool.and_eq_true _ _).mp h4
  exact ⟨kAtC_s a1, kAt_s a2, of_decide_eq_true a3, a4, of_decide_eq_true a5⟩
/-- a call's link: 0 virtual, 1 static, 2 a maker; 5 and 6 the JDK's two -/
def kMlok (o : Nat) (q : Nat × Nat × Nat × Nat) : Bool := match q.2.2.1 with
  | 0 => kAt q.2.2.2 (.methodLink (kOn o) q.1 (kY q.2.1)) && (kAt (kP q.2.1).2.2.2.1 (.instanceMethod (kY q.2.1)) && (kAt (kP q.2.1).2.2.2.2 (.selects (kY q.2.1).cls (kY q.2.1) (kY q.2.1)) && (decide ((parseMethodDescriptor (kY q.2.1).desc).map (fun d => d.parameters.length + 1) = some (kA q.2.1)) && (if kH q.2.1 = 999 then decide ((kY q.2.1).cls = "java/lang/String") else match kCl[kH q.2.1]? with | some r => decide (r.1 = (kY q.2.1).cls) | none => false))))
  | 1 => kAt q.2.2.2 (.methodLink (kOn o) q.1 (kY q.2.1)) && (kAt (kP q.2.1).2.2.1 (.static (kY q.2.1)) && decide ((parseMethodDescriptor (kY q.2.1).desc).map (fun d => d.parameters.length) = some (kA q.2.1)))
  | 2 => kAt q.2.2.2 (.methodLink (kOn o) q.1 (kY q.2.1)) && (kAt (kP q.2.1).2.2.2.1 (.instanceMethod (kY q.2.1)) && (decide ((parseMethodDescriptor (kY q.2.1).desc).map (fun d => d.parameters.length + 1) = some (kA q.2.1)) && decide (kN0 q.2.1 = true ∧ kR q.2.1 = none)))
  | 5 => kAt q.2.2.2 (.methodLink (kOn o) q.1 Lib.Math.min.name)
  | 6 => kAt q.2.2.2 (.methodLink (kOn o) q.1 objectInit)
  | _ => false
set_option maxRecDepth 100000 in
theorem kMl_0 : (kMl.getD 0 []).all (kMlok 0) = true := by decide +kernel
set_option maxRecDepth 100000 in
theorem kMl_1 : (kMl.getD 1 []).all (kMlok 1) = true := by decide +kernel
set_option maxRecDepth 100000 in
theorem kMl_2 : (kMl.getD 2 []).all (kMlok 2) = true := by decide +kernel
set_option maxRecDepth 100000 in
theorem kMl_3 : (kMl.getD 3 []).all (kMlok 3) = true := by decide +kernel
set_option maxRecDepth 100000 in
theorem kMl_4 : (kMl.getD 4 []).all (kMlok 4) = true := by decide +kernel
set_option maxRecDepth 100000 in
theorem kMl_5 : (kMl.getD 5 []).all (kMlok 5) = true := by decide +kernel
set_option maxRecDepth 100000 in
theorem kMl_6 : (kMl.getD 6 []).all (kMlok 6) = true := by decide +kernel
set_option maxRecDepth 100000 in
theorem kMl_7 : (kMl.getD 7 []).all (kMlok 7) = true := by decide +kernel
set_option maxRecDepth 100000 in
theorem kMl_8 : (kMl.getD 8 []).all (kMlok 8) = true := by decide +kernel
set_option maxRecDepth 100000 in
theorem kMl_9 : (kMl.getD 9 []).all (kMlok 9) = true := by decide +kernel
set_option maxRecDepth 100000 in
theorem kMl_10 : (kMl.getD 10 []).all (kMlok 10) = true := by decide +kernel
set_option maxRecDepth 100000 in
theorem kMl_11 : (kMl.getD 11 []).all (kMlok 11) = true := by decide +kernel
set_option maxRecDepth 100000 in
theorem kMl_12 : (kMl.getD 12 []).all (kMlok 12) = true := by decide +kernel
set_option maxRecDepth 100000 in
theorem kMl_13 : (kMl.getD 13 []).all (kMlok 13) = true := by decide +kernel
set_option maxRecDepth 100000 in
theorem kMl_14 : (kMl.getD 14 []).all (kMlok 14) = true := by decide +kernel
set_option maxRecDepth 100000 in
theorem kMl_15 : (kMl.getD 15 []).all (kMlok 15) = true := by decide +kernel
theorem kMl_all : ((List.range 16).all (fun o => (kMl.getD o []).all (kMlok o))) = true := by
  simp only [List.all_eq_true]
  intro o ho
  have ho := List.mem_range.mp ho
  rcases Nat.lt_or_ge o 1 with z | z
  · rw [show o = 0 by omega]
    exact List.all_eq_true.mp kMl_0
  rcases Nat.lt_or_ge o 2 with z | z
  · rw [show o = 1 by omega]
    exact List.all_eq_true.mp kMl_1
  rcases Nat.lt_or_ge o 3 with z | z
  · rw [show o = 2 by omega]
    exact List.all_eq_true.mp kMl_2
  rcases Nat.lt_or_ge o 4 with z | z
  · rw [show o = 3 by omega]
    exact List.all_eq_true.mp kMl_3
  rcases Nat.lt_or_ge o 5 with z | z
  · rw [show o = 4 by omega]
    exact List.all_eq_true.mp kMl_4
  rcases Nat.lt_or_ge o 6 with z | z
  · rw [show o = 5 by omega]
    exact List.all_eq_true.mp kMl_5
  rcases Nat.lt_or_ge o 7 with z | z
  · rw [show o = 6 by omega]
    exact List.all_eq_true.mp kMl_6
  rcases Nat.lt_or_ge o 8 with z | z
  · rw [show o = 7 by omega]
    exact List.all_eq_true.mp kMl_7
  rcases Nat.lt_or_ge o 9 with z | z
  · rw [show o = 8 by omega]
    exact List.all_eq_true.mp kMl_8
  rcases Nat.lt_or_ge o 10 with z | z
  · rw [show o = 9 by omega]
    exact List.all_eq_true.mp kMl_9
  rcases Nat.lt_or_ge o 11 with z | z
  · rw [show o = 10 by omega]
    exact List.all_eq_true.mp kMl_10
  rcases Nat.lt_or_ge o 12 with z | z
  · rw [show o = 11 by omega]
    exact List.all_eq_true.mp kMl_11
  rcases Nat.lt_or_ge o 13 with z | z
  · rw [show o = 12 by omega]
    exact List.all_eq_true.mp kMl_12
  rcases Nat.lt_or_ge o 14 with z | z
  · rw [show o = 13 by omega]
    exact List.all_eq_true.mp kMl_13
  rcases Nat.lt_or_ge o 15 with z | z
  · rw [show o = 14 by omega]
    exact List.all_eq_true.mp kMl_14
  rcases Nat.lt_or_ge o 16 with z | z
  · rw [show o = 15 by omega]
    exact List.all_eq_true.mp kMl_15
  omega
theorem kt_M {o idx mj kd : Nat} (h : kM o idx = some (mj, kd)) : ∃ p, kMlok o (idx, mj, kd, p) = true := by
  unfold kM at h
  cases hq : ex_lk (kMl.getD o []) idx with
  | none => rw [hq] at h; cases h
  | some q =>
    rw [hq] at h
    obtain ⟨v2, k2, p2⟩ := q
    cases h
    exact ⟨p2, k_all kMl_all rfl (ex_lk_mem hq)⟩
theorem kt_M0 {o idx mj : Nat} (h : kM o idx = some (mj, 0)) : Cond.methodLink (kOn o) idx (kY mj) ∈ kWS ∧ Cond.instanceMethod (kY mj) ∈ kWS ∧ Cond.selects (kY mj).cls (kY mj) (kY mj) ∈ kWS ∧ (parseMethodDescriptor (kY mj).desc).map (fun d => d.parameters.length + 1) = some (kA mj) ∧ (kH mj = 999 → (kY mj).cls = "java/lang/String") ∧ (¬ kH mj = 999 → ∃ T N, kCl[kH mj]? = some ((kY mj).cls, T, N)) := by
  obtain ⟨p, h1⟩ := kt_M h
  unfold kMlok at h1
  dsimp only at h1
  obtain ⟨a1, h2⟩ := (Bool.and_eq_true _ _).mp h1
  obtain ⟨a2, h3⟩ := (Bool.and_eq_true _ _).mp h2
  obtain ⟨a3, h4⟩ := (Bool.and_eq_true _ _).mp h3
  obtain ⟨a4, a5⟩ := (Bool.and_eq_true _ _).mp h4
  refine ⟨kAt_s a1, kAt_s a2, kAt_s a3, of_decide_eq_true a4, fun hz => ?_, fun hz => ?_⟩
  · rw [if_pos hz] at a5
    exact of_decide_eq_true a5
  · rw [if_neg hz] at a5
    split at a5
    next r hr =>
      obtain ⟨C, T, N⟩ := r
      have e : C = (kY mj).cls := of_decide_eq_true a5
      subst e
      exact ⟨T, N, hr⟩
    next => cases a5
theorem kt_M1 {o idx mj : Nat} (h : kM o idx = some (mj, 1)) : Cond.methodLink (kOn o) idx (kY mj) ∈ kWS ∧ Cond.static (kY mj) ∈ kWS ∧ (parseMethodDescriptor (kY mj).desc).map (fun d => d.parameters.length) = some (kA mj) := by
  obtain ⟨p, h1⟩ := kt_M h
  unfold kMlok at h1
  dsimp only at h1
  obtain ⟨a1, h2⟩ := (Bool.and_eq_true _ _).mp h1
  obtain ⟨a2, a3⟩ := (Bool.and_eq_true _ _).mp h2
  exact ⟨kAt_s a1, kAt_s a2, of_decide_eq_true a3⟩
theorem kt_M2 {o idx mj : Nat} (h : kM o idx = some (mj, 2)) : Cond.methodLink (kOn o) idx (kY mj) ∈ kWS ∧ Cond.instanceMethod (kY mj) ∈ kWS ∧ (parseMethodDescriptor (kY mj).desc).map (fun d => d.parameters.length + 1) = some (kA mj) ∧ kN0 mj = true ∧ kR mj = none := by
  obtain ⟨p, h1⟩ := kt_M h
  unfold kMlok at h1
  dsimp only at h1
  obtain ⟨a1, h2⟩ := (Bool.and_eq_true _ _).mp h1
  obtain ⟨a2, h3⟩ := (Bool.and_eq_true _ _).mp h2
  obtain ⟨a3, a4⟩ := (Bool.and_eq_true _ _).mp h3
  exact ⟨kAt_s a1, kAt_s a2, of_decide_eq_true a3, of_decide_eq_true a4⟩
theorem kt_M5 {o idx mj : Nat} (h : kM o idx = some (mj, 5)) : Cond.methodLink (kOn o) idx Lib.Math.min.name ∈ kWS := by
  obtain ⟨p, h1⟩ := kt_M h
  exact kAt_s h1
theorem kt_M6 {o idx mj : Nat} (h : kM o idx = some (mj, 6)) : Cond.methodLink (kOn o) idx objectInit ∈ kWS := by
  obtain ⟨p, h1⟩ := kt_M h
  exact kAt_s h1
theorem kt_min : Cond.static Lib.Math.min.name ∈ kWS ∧ Cond.initialized "java/lang/Math" ∈ kWS ∧ Cond.code Lib.Math.min.name Lib.Math.min.code 2 (some .int) ∈ kWS := ⟨kAt_s (i := 298) (by decide +kernel), kAt_s (i := 93) (by decide +kernel), kAtC_s (i := 299) (by decide +kernel)⟩
theorem kt_obj : Cond.instanceMethod objectInit ∈ kWS ∧ Cond.code objectInit ⟨#[0xb1]⟩ 1 none ∈ kWS := ⟨kAt_s (i := 106) (by decide +kernel), kAtC_s (i := 107) (by decide +kernel)⟩
