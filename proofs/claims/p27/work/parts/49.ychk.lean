/-- Rule.compute's two readings of code[i]: an operation that is a word has a number of 0 or more behind it -/
noncomputable def yk_hook : ym_J := fun pos s => bif Nat.beq pos 12 then (match s with
  | (lv, st, E, C) => (match xm_get lv 6, xm_get lv 0 with
    | some w, some o => (match ym_ri E w, ym_ref E o with
      | some a, some r => bif decide (0 ≤ a.1) && (decide (a.2 < 240) && Nat.beq r 69) then (match ym_mi E (0, 134217727), ym_mi E ym_topi, ym_mi E (2, 15) with
        | (E1, v1), (E2, v2), (E3, v3) => (match ym_mi E3 ym_topi with
          | (E4, v4) => some [(26, (xm_set1 (xm_set1 lv 7 (.int 1)) 8 v1, st, E1, C)), (26, (xm_set1 (xm_set1 lv 7 (.int 0)) 8 v2, st, E2, C)), (26, (xm_set1 (xm_set1 lv 7 v3) 8 v4, st, E4, C))])) else none
      | _, _ => none)
    | _, _ => none)) else none
def yt_0 : List yI := []
theorem yk_0 : yk_inst yt_0 yi_0 [] [] yh_0 (fun _ _ => none) [] = true := by decide +kernel
def yt_1 : List yI := []
theorem yk_1 : yk_inst yt_1 yi_1 [] [] yh_1 (fun _ _ => none) [0] = true := by decide +kernel
def yt_2 : List yI := []
theorem yk_2 : yk_inst yt_2 yi_2 [(33, 100000)] [8, 1] yh_2 (fun _ _ => none) [] = true := by decide +kernel
def yt_3 : List yI := []
theorem yk_3 : yk_inst yt_3 yi_3 [(34, 100000)] [8, 1] yh_3 (fun _ _ => none) [] = true := by decide +kernel
def yt_4 : List yI := []
theorem yk_4 : yk_inst yt_4 yi_4 [(25, 100000)] [8, 1] yh_4 (fun _ _ => none) [] = true := by decide +kernel
def yt_5 : List yI := []
theorem yk_5 : yk_inst yt_5 yi_5 [(26, 100000)] [8, 1] yh_5 (fun _ _ => none) [] = true := by decide +kernel
def yt_6 : List yI := []
theorem yk_6 : yk_inst yt_6 yi_6 [(27, 100000)] [8, 1] yh_6 (fun _ _ => none) [] = true := by decide +kernel
def yt_7 : List yI := []
theorem yk_7 : yk_inst yt_7 yi_7 [(60, 100000)] [8, 1] yh_7 (fun _ _ => none) [] = true := by decide +kernel
def yt_8 : List yI := []
theorem yk_8 : yk_inst yt_8 yi_8 [(61, 100000)] [8, 1] yh_8 (fun _ _ => none) [] = true := by decide +kernel
def yt_9 : List yI := []
theorem yk_9 : yk_inst yt_9 yi_9 [(62, 100000)] [8, 1] yh_9 (fun _ _ => none) [] = true := by decide +kernel
def yt_10 : List yI := []
theorem yk_10 : yk_inst yt_10 yi_10 [(22, 100000)] [8, 1] yh_10 (fun _ _ => none) [] = true := by decide +kernel
def yt_11 : List yI := []
theorem yk_11 : yk_inst yt_11 yi_11 [(57, 100000)] [8, 1] yh_11 (fun _ _ => none) [] = true := by decide +kernel
def yt_12 : List yI := []
theorem yk_12 : yk_inst yt_12 yi_12 [(65, 100000)] [118, 1] yh_12 (fun _ _ => none) [] = true := by decide +kernel
def yt_13 : List yI := []
theorem yk_13 : yk_inst yt_13 yi_13 [(54, 0), (54, 1), (55, 100000), (56, 100000), (57, 100000), (58, 100000)] [] yh_13 (fun _ _ => none) [] = true := by decide +kernel
def yt_14 : List yI := []
theorem yk_14 : yk_inst yt_14 yi_14 [(59, 0), (60, 100000), (61, 100000), (62, 100000)] [] yh_14 (fun _ _ => none) [] = true := by decide +kernel
def yt_15 : List yI := []
theorem yk_15 : yk_inst yt_15 yi_15 [(43, 0), (43, 1), (44, 100000), (45, 100000), (46, 100000), (47, 100000)] [] yh_15 (fun _ _ => none) [] = true := by decide +kernel
def yt_16 : List yI := []
theorem yk_16 : yk_inst yt_16 yi_16 [(48, 0), (49, 100000), (50, 100000), (51, 100000)] [] yh_16 (fun _ _ => none) [] = true := by decide +kernel
def yt_17 : List yI := []
theorem yk_17 : yk_inst yt_17 yi_17 [(19, 0), (19, 1), (20, 100000), (21, 100000), (22, 100000), (23, 100000)] [] yh_17 (fun _ _ => none) [] = true := by decide +kernel
def yt_18 : List yI := []
theorem yk_18 : yk_inst yt_18 yi_18 [(24, 0), (25, 100000), (26, 100000), (27, 100000)] [] yh_18 (fun _ _ => none) [] = true := by decide +kernel
def yt_19 : List yI := []
theorem yk_19 : yk_inst yt_19 yi_19 [(82, 0), (82, 1), (83, 100000), (84, 100000), (85, 100000), (86, 100000)] [] yh_19 (fun _ _ => none) [] = true := by decide +kernel
def yt_20 : List yI := []
theorem yk_20 : yk_inst yt_20 yi_20 [(87, 0), (88, 100000), (89, 100000), (90, 100000)] [] yh_20 (fun _ _ => none) [] = true := by decide +kernel
def yt_21 : List yI := []
theorem yk_21 : yk_inst yt_21 yi_21 [(19, 0), (19, 1), (20, 100000), (21, 100000), (22, 100000), (23, 100000)] [] yh_21 (fun _ _ => none) [] = true := by decide +kernel
def yt_22 : List yI := []
theorem yk_22 : yk_inst yt_22 yi_22 [(24, 0), (25, 100000), (26, 100000), (27, 100000)] [] yh_22 (fun _ _ => none) [] = true := by decide +kernel
def yt_23 : List yI := []
theorem yk_23 : yk_inst yt_23 yi_23 [(11, 0), (11, 1), (11, 2), (11, 3), (11, 4), (11, 5), (11, 6), (11, 7), (11, 8), (11, 9), (12, 100000), (13, 100000), (14, 100000), (15, 100000), (16, 100000), (17, 100000), (18, 100000)] [] yh_23 (fun _ _ => none) [] = true := by decide +kernel
def yt_24 : List yI := []
theorem yk_24 : yk_inst yt_24 yi_24 [(74, 0), (74, 1), (74, 2), (74, 3), (74, 4), (74, 5), (74, 6), (74, 7), (74, 8), (74, 9), (75, 100000), (76, 100000), (77, 100000), (78, 100000), (79, 100000), (80, 100000), (81, 100000)] [] yh_24 (fun _ _ => none) [] = true := by decide +kernel
def yt_25 : List yI := []
theorem yk_25 : yk_inst yt_25 yi_25 [(11, 0), (11, 1), (11, 2), (11, 3), (11, 4), (11, 5), (11, 6), (11, 7), (11, 8), (11, 9), (12, 100000), (13, 100000), (14, 100000), (15, 100000), (16, 100000), (17, 100000), (18, 100000)] [] yh_25 (fun _ _ => none) [] = true := by decide +kernel
def yt_26 : List yI := [yi_2, yi_3, yi_4, yi_5, yi_6, yi_7, yi_8, yi_9, yi_10, yi_11, yi_12]
theorem yk_26 : yk_inst yt_26 yi_26 [(19, 0), (19, 1), (20, 100000), (21, 100000), (23, 100000)] [] yh_26 (fun _ _ => none) [] = true := by decide +kernel
def yt_27 : List yI := [yi_2, yi_3, yi_4, yi_5, yi_6, yi_7, yi_8, yi_9, yi_10, yi_11, yi_12]
theorem yk_27 : yk_inst yt_27 yi_27 [(54, 0), (54, 1), (55, 100000), (56, 100000), (58, 100000)] [] yh_27 (fun _ _ => none) [] = true := by decide +kernel
def yt_28 : List yI := []
theorem yk_28 : yk_inst yt_28 yi_28 [(21, 100000), (22, 100000)] [] yh_28 (fun _ _ => none) [] = true := by decide +kernel
def yt_29 : List yI := [yi_28]
theorem yk_29 : yk_inst yt_29 yi_29 [] [11, (-1)] yh_29 (fun _ _ => none) [] = true := by decide +kernel
def yt_30 : List yI := []
theorem yk_30 : yk_inst yt_30 yi_30 [(20, 100000), (22, 100000)] [] yh_30 (fun _ _ => none) [] = true := by decide +kernel
def yt_31 : List yI := [yi_29, yi_30]
theorem yk_31 : yk_inst yt_31 yi_31 [(19, 0)] [8, 1] yh_31 (fun _ _ => none) [] = true := by decide +kernel
def yt_32 : List yI := []
theorem yk_32 : yk_inst yt_32 yi_32 [(56, 100000), (57, 100000)] [] yh_32 (fun _ _ => none) [] = true := by decide +kernel
def yt_33 : List yI := [yi_28, yi_32]
theorem yk_33 : yk_inst yt_33 yi_33 [] [11, (-1)] yh_33 (fun _ _ => none) [] = true := by decide +kernel
def yt_34 : List yI := []
theorem yk_34 : yk_inst yt_34 yi_34 [(55, 100000), (57, 100000)] [] yh_34 (fun _ _ => none) [] = true := by decide +kernel
def yt_35 : List yI := [yi_29, yi_30, yi_33, yi_34]
theorem yk_35 : yk_inst yt_35 yi_35 [(54, 0)] [8, 1] yh_35 (fun _ _ => none) [] = true := by decide +kernel
def yt_36 : List yI := []
theorem yk_36 : yk_inst yt_36 yi_36 [] [8, 1] yh_36 (fun _ _ => none) [] = true := by decide +kernel
def yt_37 : List yI := []
theorem yk_37 : yk_inst yt_37 yi_37 [] [8, 1] yh_37 (fun _ _ => none) [] = true := by decide +kernel
def yt_38 : List yI := [yi_2, yi_3, yi_4, yi_5, yi_6, yi_7, yi_8, yi_9, yi_10, yi_11, yi_12]
theorem yk_38 : yk_inst yt_38 yi_38 [(24, 0)] [] yh_38 (fun _ _ => none) [] = true := by decide +kernel
def yt_39 : List yI := []
theorem yk_39 : yk_inst yt_39 yi_39 [(24, 0), (25, 100000), (26, 100000), (27, 100000)] [] yh_39 (fun _ _ => none) [] = true := by decide +kernel
def yt_40 : List yI := [yi_2, yi_3, yi_4, yi_5, yi_6, yi_7, yi_8, yi_9, yi_10, yi_11, yi_12]
theorem yk_40 : yk_inst yt_40 yi_40 [(59, 0)] [] yh_40 (fun _ _ => none) [] = true := by decide +kernel
def yt_41 : List yI := []
theorem yk_41 : yk_inst yt_41 yi_41 [(59, 0), (60, 100000), (61, 100000), (62, 100000)] [] yh_41 (fun _ _ => none) [] = true := by decide +kernel
def yt_42 : List yI := []
theorem yk_42 : yk_inst yt_42 yi_42 [] [8, 1] yh_42 (fun _ _ => none) [] = true := by decide +kernel
def yt_43 : List yI := []
theorem yk_43 : yk_inst yt_43 yi_43 [] [] yh_43 (fun _ _ => none) [] = true := by decide +kernel
def yt_44 : List yI := [yi_2, yi_3, yi_4, yi_5, yi_6, yi_7, yi_8, yi_9, yi_10, yi_11, yi_12]
theorem yk_44 : yk_inst yt_44 yi_44 [(30, 0), (30, 1), (30, 2), (30, 3), (30, 4), (30, 5), (30, 6), (30, 7), (30, 8), (30, 9)] [] yh_44 (fun _ _ => none) [] = true := by decide +kernel
def yt_45 : List yI := []
theorem yk_45 : yk_inst yt_45 yi_45 [(30, 1), (31, 100000), (32, 100000)] [] yh_45 (fun _ _ => none) [] = true := by decide +kernel
def yt_46 : List yI := []
theorem yk_46 : yk_inst yt_46 yi_46 [(30, 2), (35, 100000), (36, 100000), (37, 100000)] [] yh_46 (fun _ _ => none) [] = true := by decide +kernel
def yt_47 : List yI := []
theorem yk_47 : yk_inst yt_47 yi_47 [(30, 3), (33, 100000)] [] yh_47 (fun _ _ => none) [] = true := by decide +kernel
def yt_61 : List yI := []
theorem yk_61 : yk_inst yt_61 yi_61 [(8, 1), (9, 100000)] [] yh_61 (fun _ _ => none) [] = true := by decide +kernel
def yt_62 : List yI := [yi_48, yi_55, yi_56]
theorem yk_62 : yk_inst yt_62 yi_62 [] [] yh_62 (fun _ _ => none) [] = true := by decide +kernel
def yt_63 : List yI := [yi_48, yi_55, yi_56]
theorem yk_63 : yk_inst yt_63 yi_63 [] [] yh_63 (fun _ _ => none) [] = true := by decide +kernel
def yt_64 : List yI := [yi_48, yi_55, yi_56]
theorem yk_64 : yk_inst yt_64 yi_64 [] [] yh_64 (fun _ _ => none) [] = true := by decide +kernel
def yt_65 : List yI := [yi_48, yi_55, yi_56]
theorem yk_65 : yk_inst yt_65 yi_65 [] [] yh_65 (fun _ _ => none) [] = true := by decide +kernel
def yt_66 : List yI := [yi_48, yi_55, yi_56]
theorem yk_66 : yk_inst yt_66 yi_66 [] [] yh_66 (fun _ _ => none) [] = true := by decide +kernel
def yt_67 : List yI := [yi_48, yi_56]
theorem yk_67 : yk_inst yt_67 yi_67 [] [] yh_67 (fun _ _ => none) [] = true := by decide +kernel
def yt_68 : List yI := [yi_46, yi_47, yi_62, yi_63, yi_64, yi_65, yi_66]
theorem yk_68 : yk_inst yt_68 yi_68 [(30, 4), (34, 100000)] [] yh_68 (fun _ _ => none) [] = true := by decide +kernel
def yt_69 : List yI := [yi_45, yi_62, yi_63, yi_64, yi_65, yi_66]
theorem yk_69 : yk_inst yt_69 yi_69 [(30, 0), (30, 5), (30, 6), (30, 7), (30, 8), (30, 9)] [] yh_69 (fun _ _ => none) [] = true := by decide +kernel
def yt_70 : List yI := [yi_68, yi_69]
theorem yk_70 : yk_inst yt_70 yi_70 [] [] yh_70 (fun _ _ => none) [] = true := by decide +kernel
def yt_71 : List yI := [yi_48, yi_49, yi_50, yi_51, yi_52, yi_53, yi_54, yi_56, yi_70]
theorem yk_71 : yk_inst yt_71 yi_71 [] [] yh_71 (fun _ _ => none) [] = true := by decide +kernel
def yt_72 : List yI := [yi_44, yi_57, yi_67, yi_71]
theorem yk_72 : yk_inst yt_72 yi_72 [] [42, 1] yh_72 (fun _ _ => none) [] = true := by decide +kernel
def yt_73 : List yI := []
theorem yk_73 : yk_inst yt_73 yi_73 [(69, 3), (69, 4)] [] yh_73 (fun _ _ => none) [] = true := by decide +kernel
def yt_74 : List yI := []
theorem yk_74 : yk_inst yt_74 yi_74 [(72, 100000)] [] yh_74 (fun _ _ => none) [] = true := by decide +kernel
def yt_75 : List yI := []
theorem yk_75 : yk_inst yt_75 yi_75 [(69, 4), (71, 100000)] [] yh_75 (fun _ _ => none) [] = true := by decide +kernel
def yt_76 : List yI := [yi_48, yi_49, yi_50, yi_51, yi_52, yi_53, yi_54, yi_55, yi_56, yi_58, yi_59, yi_60]
theorem yk_76 : yk_inst yt_76 yi_76 [(39, 2)] [] yh_76 (fun _ _ => none) [] = true := by decide +kernel
def yt_77 : List yI := [yi_48, yi_58, yi_59, yi_60, yi_76]
theorem yk_77 : yk_inst yt_77 yi_77 [] [401, 1] yh_77 (fun _ _ => none) [] = true := by decide +kernel
def yt_78 : List yI := [yi_48, yi_56, yi_58, yi_59, yi_60, yi_77]
theorem yk_78 : yk_inst yt_78 yi_78 [(39, 2)] [] yh_78 (fun _ _ => none) [] = true := by decide +kernel
def yt_79 : List yI := [yi_48, yi_49, yi_50, yi_51, yi_52, yi_53, yi_54, yi_56, yi_58, yi_59, yi_60, yi_78]
theorem yk_79 : yk_inst yt_79 yi_79 [] [] yh_79 (fun _ _ => none) [] = true := by decide +kernel
def yt_80 : List yI := [yi_48, yi_49, yi_50, yi_51, yi_52, yi_53, yi_54, yi_58, yi_59, yi_60, yi_79]
theorem yk_80 : yk_inst yt_80 yi_80 [] [401, 1] yh_80 (fun _ _ => none) [] = true := by decide +kernel
def yt_81 : List yI := [yi_48, yi_49, yi_50, yi_51, yi_52, yi_53, yi_54, yi_56, yi_58, yi_59, yi_60, yi_78, yi_79, yi_80]
theorem yk_81 : yk_inst yt_81 yi_81 [] [] yh_81 (fun _ _ => none) [] = true := by decide +kernel
def yt_82 : List yI := [yi_48, yi_49, yi_50, yi_51, yi_52, yi_53, yi_54, yi_58, yi_59, yi_60, yi_79, yi_81]
theorem yk_82 : yk_inst yt_82 yi_82 [] [401, 1] yh_82 (fun _ _ => none) [] = true := by decide +kernel
def yt_83 : List yI := [yi_48, yi_49, yi_50, yi_51, yi_52, yi_53, yi_54, yi_56, yi_58, yi_59, yi_60, yi_78, yi_79, yi_80, yi_81, yi_82]
theorem yk_83 : yk_inst yt_83 yi_83 [] [] yh_83 (fun _ _ => none) [] = true := by decide +kernel
def yt_84 : List yI := [yi_48, yi_49, yi_50, yi_51, yi_52, yi_53, yi_54, yi_58, yi_59, yi_60, yi_79, yi_81, yi_83]
theorem yk_84 : yk_inst yt_84 yi_84 [] [401, 1] yh_84 (fun _ _ => none) [] = true := by decide +kernel
def yt_85 : List yI := [yi_48, yi_49, yi_50, yi_51, yi_52, yi_53, yi_54, yi_56, yi_58, yi_59, yi_60, yi_78, yi_79, yi_80, yi_81, yi_82, yi_83, yi_84]
theorem yk_85 : yk_inst yt_85 yi_85 [] [] yh_85 (fun _ _ => none) [] = true := by decide +kernel
def yt_86 : List yI := [yi_48, yi_49, yi_50, yi_51, yi_52, yi_53, yi_54, yi_58, yi_59, yi_60, yi_79, yi_81, yi_83, yi_85]
theorem yk_86 : yk_inst yt_86 yi_86 [] [401, 1] yh_86 (fun _ _ => none) [] = true := by decide +kernel
def yt_87 : List yI := [yi_48, yi_49, yi_50, yi_51, yi_52, yi_53, yi_54, yi_56, yi_58, yi_59, yi_60, yi_78, yi_79, yi_80, yi_81, yi_82, yi_83, yi_84, yi_85, yi_86]
theorem yk_87 : yk_inst yt_87 yi_87 [] [] yh_87 (fun _ _ => none) [] = true := by decide +kernel
def yt_88 : List yI := [yi_48, yi_49, yi_50, yi_51, yi_52, yi_53, yi_54, yi_58, yi_59, yi_60, yi_79, yi_81, yi_83, yi_85, yi_87]
theorem yk_88 : yk_inst yt_88 yi_88 [] [401, 1] yh_88 (fun _ _ => none) [] = true := by decide +kernel
def yt_89 : List yI := [yi_48, yi_49, yi_50, yi_51, yi_52, yi_53, yi_54, yi_56, yi_58, yi_59, yi_60, yi_78, yi_79, yi_80, yi_81, yi_82, yi_83, yi_84, yi_85, yi_86, yi_87, yi_88]
theorem yk_89 : yk_inst yt_89 yi_89 [] [] yh_89 (fun _ _ => none) [] = true := by decide +kernel
def yt_90 : List yI := [yi_48, yi_49, yi_50, yi_51, yi_52, yi_53, yi_54, yi_58, yi_59, yi_60, yi_79, yi_81, yi_83, yi_85, yi_87, yi_89]
theorem yk_90 : yk_inst yt_90 yi_90 [] [401, 1] yh_90 (fun _ _ => none) [] = true := by decide +kernel
def yt_91 : List yI := [yi_48, yi_49, yi_50, yi_51, yi_52, yi_53, yi_54, yi_56, yi_58, yi_59, yi_60, yi_78, yi_79, yi_80, yi_81, yi_82, yi_83, yi_84, yi_85, yi_86, yi_87, yi_88, yi_89, yi_90]
theorem yk_91 : yk_inst yt_91 yi_91 [] [] yh_91 (fun _ _ => none) [] = true := by decide +kernel
def yt_92 : List yI := [yi_48, yi_49, yi_50, yi_51, yi_52, yi_53, yi_54, yi_58, yi_59, yi_60, yi_79, yi_81, yi_83, yi_85, yi_87, yi_89, yi_91]
theorem yk_92 : yk_inst yt_92 yi_92 [] [401, 1] yh_92 (fun _ _ => none) [] = true := by decide +kernel
def yt_93 : List yI := [yi_48, yi_49, yi_50, yi_51, yi_52, yi_53, yi_54, yi_56, yi_58, yi_59, yi_60, yi_78, yi_79, yi_80, yi_81, yi_82, yi_83, yi_84, yi_85, yi_86, yi_87, yi_88, yi_89, yi_90, yi_91, yi_92]
theorem yk_93 : yk_inst yt_93 yi_93 [] [] yh_93 (fun _ _ => none) [] = true := by decide +kernel
def yt_94 : List yI := [yi_48, yi_49, yi_50, yi_51, yi_52, yi_53, yi_54, yi_58, yi_59, yi_60, yi_79, yi_81, yi_83, yi_85, yi_87, yi_89, yi_91, yi_93]
theorem yk_94 : yk_inst yt_94 yi_94 [] [401, 1] yh_94 (fun _ _ => none) [] = true := by decide +kernel
def yt_95 : List yI := [yi_48, yi_49, yi_50, yi_51, yi_52, yi_53, yi_54, yi_56, yi_58, yi_59, yi_60, yi_78, yi_79, yi_80, yi_81, yi_82, yi_83, yi_84, yi_85, yi_86, yi_87, yi_88, yi_89, yi_90, yi_91, yi_92, yi_93, yi_94]
theorem yk_95 : yk_inst yt_95 yi_95 [] [] yh_95 (fun _ _ => none) [] = true := by decide +kernel
def yt_96 : List yI := [yi_48, yi_49, yi_50, yi_51, yi_52, yi_53, yi_54, yi_58, yi_59, yi_60, yi_79, yi_81, yi_83, yi_85, yi_87, yi_89, yi_91, yi_93, yi_95]
theorem yk_96 : yk_inst yt_96 yi_96 [] [401, 1] yh_96 (fun _ _ => none) [] = true := by decide +kernel
def yt_97 : List yI := [yi_48, yi_49, yi_50, yi_51, yi_52, yi_53, yi_54, yi_56, yi_58, yi_59, yi_60, yi_78, yi_79, yi_80, yi_81, yi_82, yi_83, yi_84, yi_85, yi_86, yi_87, yi_88, yi_89, yi_90, yi_91, yi_92, yi_93, yi_94, yi_95, yi_96]
theorem yk_97 : yk_inst yt_97 yi_97 [] [] yh_97 (fun _ _ => none) [] = true := by decide +kernel
def yt_98 : List yI := [yi_48, yi_49, yi_50, yi_51, yi_52, yi_53, yi_54, yi_58, yi_59, yi_60, yi_79, yi_81, yi_83, yi_85, yi_87, yi_89, yi_91, yi_93, yi_95, yi_97]
theorem yk_98 : yk_inst yt_98 yi_98 [] [401, 1] yh_98 (fun _ _ => none) [] = true := by decide +kernel
def yt_99 : List yI := [yi_48, yi_49, yi_50, yi_51, yi_52, yi_53, yi_54, yi_56, yi_58, yi_59, yi_60, yi_78, yi_79, yi_80, yi_81, yi_82, yi_83, yi_84, yi_85, yi_86, yi_87, yi_88, yi_89, yi_90, yi_91, yi_92, yi_93, yi_94, yi_95, yi_96, yi_97, yi_98]
theorem yk_99 : yk_inst yt_99 yi_99 [] [] yh_99 (fun _ _ => none) [] = true := by decide +kernel
def yt_100 : List yI := [yi_48, yi_49, yi_50, yi_51, yi_52, yi_53, yi_54, yi_58, yi_59, yi_60, yi_79, yi_81, yi_83, yi_85, yi_87, yi_89, yi_91, yi_93, yi_95, yi_97, yi_99]
theorem yk_100 : yk_inst yt_100 yi_100 [] [401, 1] yh_100 (fun _ _ => none) [] = true := by decide +kernel
def yt_101 : List yI := [yi_48, yi_49, yi_50, yi_51, yi_52, yi_53, yi_54, yi_56, yi_57, yi_67, yi_73, yi_74, yi_75, yi_77, yi_80, yi_82, yi_84, yi_86, yi_88, yi_90, yi_92, yi_94, yi_96, yi_98, yi_100]
theorem yk_101 : yk_inst yt_101 yi_101 [(39, 1), (39, 2)] [20, 1] yh_101 (fun _ _ => none) [] = true := by decide +kernel
def yt_102 : List yI := []
theorem yk_102 : yk_inst yt_102 yi_102 [(68, 100000)] [241, 1] yh_102 yk_hook [] = true := by decide +kernel
def yt_103 : List yI := [yi_102]
theorem yk_103 : yk_inst yt_103 yi_103 [] [13, 1] yh_103 (fun _ _ => none) [] = true := by decide +kernel
def yt_104 : List yI := [yi_103]
theorem yk_104 : yk_inst yt_104 yi_104 [(67, 100000)] [8, 1] yh_104 (fun _ _ => none) [] = true := by decide +kernel
def yt_105 : List yI := [yi_103]
theorem yk_105 : yk_inst yt_105 yi_105 [(67, 100000)] [8, 1] yh_105 (fun _ _ => none) [] = true := by decide +kernel
def yt_106 : List yI := []
theorem yk_106 : yk_inst yt_106 yi_106 [] [] yh_106 (fun _ _ => none) [] = true := by decide +kernel
def yt_107 : List yI := [yi_0, yi_1, yi_39, yi_41, yi_104, yi_105]
theorem yk_107 : yk_inst yt_107 yi_107 [(67, 100000)] [160, 16, 8, 1] yh_107 (fun _ _ => none) [] = true := by decide +kernel
def yt_108 : List yI := [yi_0, yi_1, yi_39, yi_41, yi_104, yi_105]
theorem yk_108 : yk_inst yt_108 yi_108 [(67, 100000)] [160, 16, 8, 1] yh_108 (fun _ _ => none) [] = true := by decide +kernel
def yt_109 : List yI := [yi_13, yi_14, yi_15, yi_16, yi_17, yi_18, yi_19, yi_20, yi_21, yi_22]
theorem yk_109 : yk_inst yt_109 yi_109 [(66, 1), (66, 2), (66, 3)] [] yh_109 (fun _ _ => none) [] = true := by decide +kernel
def yt_110 : List yI := [yi_31, yi_35, yi_107, yi_108]
theorem yk_110 : yk_inst yt_110 yi_110 [] [] yh_110 (fun _ _ => none) [] = true := by decide +kernel
def yt_111 : List yI := [yi_31, yi_35]
theorem yk_111 : yk_inst yt_111 yi_111 [(53, 7), (63, 100000)] [1000, 1] yh_111 (fun _ _ => none) [] = true := by decide +kernel
def yt_112 : List yI := [yi_106, yi_107, yi_108]
theorem yk_112 : yk_inst yt_112 yi_112 [] [1001, 1] yh_112 (fun _ _ => none) [] = true := by decide +kernel
def yt_113 : List yI := []
theorem yk_113 : yk_inst yt_113 yi_113 [] [8, 1] yh_113 (fun _ _ => none) [] = true := by decide +kernel
def yt_114 : List yI := [yi_0]
theorem yk_114 : yk_inst yt_114 yi_114 [] [549755813888, 8589934592, 4294967296, 1] yh_114 (fun _ _ => none) [] = true := by decide +kernel
def yt_115 : List yI := [yi_14, yi_16, yi_18, yi_20, yi_22, yi_39, yi_41, yi_111, yi_112, yi_113, yi_114]
theorem yk_115 : yk_inst yt_115 yi_115 [] [2064, 16, 8, 1] yh_115 (fun _ _ => none) [] = true := by decide +kernel
def yt_116 : List yI := [yi_14, yi_16, yi_18, yi_20, yi_22, yi_111, yi_112, yi_114]
theorem yk_116 : yk_inst yt_116 yi_116 [(66, 3)] [129, 1] yh_116 (fun _ _ => none) [] = true := by decide +kernel
def yt_117 : List yI := [yi_43]
theorem yk_117 : yk_inst yt_117 yi_117 [] [11, 1] yh_117 (fun _ _ => none) [] = true := by decide +kernel
def yt_118 : List yI := [yi_26, yi_27, yi_38, yi_39, yi_40, yi_41, yi_43, yi_111, yi_112, yi_117]
theorem yk_118 : yk_inst yt_118 yi_118 [(53, 8), (53, 9), (53, 10), (64, 100000), (66, 2)] [672, 84, 42, 1] yh_118 (fun _ _ => none) [] = true := by decide +kernel
def yt_119 : List yI := [yi_2, yi_3, yi_4, yi_5, yi_6, yi_7, yi_8, yi_9, yi_10, yi_11, yi_12]
theorem yk_119 : yk_inst yt_119 yi_119 [(65, 100000)] [288, 1] yh_119 (fun _ _ => none) [] = true := by decide +kernel
def yt_120 : List yI := [yi_119]
theorem yk_120 : yk_inst yt_120 yi_120 [(53, 11)] [8, 1] yh_120 (fun _ _ => none) [] = true := by decide +kernel
def yt_121 : List yI := [yi_0, yi_14, yi_16, yi_18, yi_20, yi_22, yi_111, yi_112]
theorem yk_121 : yk_inst yt_121 yi_121 [(53, 12), (66, 2)] [10, 1] yh_121 (fun _ _ => none) [] = true := by decide +kernel
def yt_122 : List yI := [yi_111, yi_112]
theorem yk_122 : yk_inst yt_122 yi_122 [] [8, 1] yh_122 (fun _ _ => none) [] = true := by decide +kernel
def yt_123 : List yI := []
theorem yk_123 : yk_inst yt_123 yi_123 [] [] yh_123 (fun _ _ => none) [] = true := by decide +kernel
def yt_124 : List yI := [yi_28, yi_32, yi_111, yi_112, yi_123]
theorem yk_124 : yk_inst yt_124 yi_124 [] [11, 1] yh_124 (fun _ _ => none) [] = true := by decide +kernel
def yt_125 : List yI := [yi_23, yi_24, yi_25, yi_26, yi_27, yi_38, yi_40]
theorem yk_125 : yk_inst yt_125 yi_125 [(10, 5)] [] yh_125 (fun _ _ => none) [] = true := by decide +kernel
def yt_126 : List yI := [yi_13, yi_14, yi_15, yi_16, yi_17, yi_18, yi_19, yi_20, yi_21, yi_22, yi_23, yi_24, yi_25]
theorem yk_126 : yk_inst yt_126 yi_126 [(73, 5), (73, 6), (73, 7), (91, 100000), (92, 100000)] [] yh_126 (fun _ _ => none) [] = true := by decide +kernel
def yt_127 : List yI := [yi_13, yi_14, yi_15, yi_16, yi_17, yi_18, yi_19, yi_20, yi_21, yi_22, yi_23, yi_24, yi_25]
theorem yk_127 : yk_inst yt_127 yi_127 [(10, 5), (10, 6), (10, 7), (28, 100000), (29, 100000)] [] yh_127 (fun _ _ => none) [] = true := by decide +kernel
def yt_128 : List yI := [yi_13, yi_14, yi_15, yi_16, yi_17, yi_18, yi_19, yi_20, yi_21, yi_22]
theorem yk_128 : yk_inst yt_128 yi_128 [(40, 2), (40, 3)] [] yh_128 (fun _ _ => none) [] = true := by decide +kernel
def yt_129 : List yI := [yi_13, yi_14, yi_15, yi_16, yi_17, yi_18, yi_19, yi_20, yi_21, yi_22]
theorem yk_129 : yk_inst yt_129 yi_129 [(40, 2), (40, 3)] [] yh_129 (fun _ _ => none) [] = true := by decide +kernel
def yt_130 : List yI := []
theorem yk_130 : yk_inst yt_130 yi_130 [(40, 3)] [] yh_130 (fun _ _ => none) [] = true := by decide +kernel
def yt_131 : List yI := []
theorem yk_131 : yk_inst yt_131 yi_131 [] [] yh_131 (fun _ _ => none) [] = true := by decide +kernel
def yt_132 : List yI := []
theorem yk_132 : yk_inst yt_132 yi_132 [] [8, 1] yh_132 (fun _ _ => none) [] = true := by decide +kernel
def yt_133 : List yI := [yi_61]
theorem yk_133 : yk_inst yt_133 yi_133 [] [] yh_133 (fun _ _ => none) [] = true := by decide +kernel
def yt_134 : List yI := []
theorem yk_134 : yk_inst yt_134 yi_134 [(8, 1)] [] yh_134 (fun _ _ => none) [] = true := by decide +kernel
def yt_135 : List yI := [yi_72, yi_125, yi_130]
theorem yk_135 : yk_inst yt_135 yi_135 [(8, 1)] [] yh_135 (fun _ _ => none) [] = true := by decide +kernel
def yt_136 : List yI := [yi_101]
theorem yk_136 : yk_inst yt_136 yi_136 [(7, 8), (8, 1)] [] yh_136 (fun _ _ => none) [] = true := by decide +kernel
def yt_137 : List yI := []
theorem yk_137 : yk_inst yt_137 yi_137 [(10, 6)] [] yh_137 (fun _ _ => none) [] = true := by decide +kernel
def yt_138 : List yI := []
theorem yk_138 : yk_inst yt_138 yi_138 [] [] yh_138 (fun _ _ => none) [] = true := by decide +kernel
def yt_139 : List yI := []
theorem yk_139 : yk_inst yt_139 yi_139 [] [] yh_139 (fun _ _ => none) [] = true := by decide +kernel
def yt_140 : List yI := [yi_37]
theorem yk_140 : yk_inst yt_140 yi_140 [] [] yh_140 (fun _ _ => none) [] = true := by decide +kernel
def yt_141 : List yI := [yi_0, yi_109, yi_110, yi_128, yi_131]
theorem yk_141 : yk_inst yt_141 yi_141 [] [] yh_141 (fun _ _ => none) [] = true := by decide +kernel
def yt_142 : List yI := [yi_39, yi_41, yi_128]
theorem yk_142 : yk_inst yt_142 yi_142 [] [] yh_142 (fun _ _ => none) [] = true := by decide +kernel
def yt_143 : List yI := [yi_28, yi_32, yi_128]
theorem yk_143 : yk_inst yt_143 yi_143 [] [] yh_143 (fun _ _ => none) [] = true := by decide +kernel
def yt_144 : List yI := [yi_128]
theorem yk_144 : yk_inst yt_144 yi_144 [(19, 1)] [] yh_144 (fun _ _ => none) [] = true := by decide +kernel
def yt_145 : List yI := [yi_128]
theorem yk_145 : yk_inst yt_145 yi_145 [(23, 100000)] [] yh_145 (fun _ _ => none) [] = true := by decide +kernel
def yt_146 : List yI := [yi_129]
theorem yk_146 : yk_inst yt_146 yi_146 [] [] yh_146 (fun _ _ => none) [] = true := by decide +kernel
def yt_147 : List yI := [yi_109, yi_111, yi_112, yi_131]
theorem yk_147 : yk_inst yt_147 yi_147 [] [] yh_147 (fun _ _ => none) [] = true := by decide +kernel
def yt_148 : List yI := [yi_109, yi_111, yi_131]
theorem yk_148 : yk_inst yt_148 yi_148 [] [] yh_148 (fun _ _ => none) [] = true := by decide +kernel
def yt_149 : List yI := [yi_109, yi_111, yi_112, yi_131]
theorem yk_149 : yk_inst yt_149 yi_149 [] [] yh_149 (fun _ _ => none) [] = true := by decide +kernel
def yt_150 : List yI := [yi_0, yi_109, yi_115, yi_131]
theorem yk_150 : yk_inst yt_150 yi_150 [] [] yh_150 (fun _ _ => none) [] = true := by decide +kernel
def yt_151 : List yI := []
theorem yk_151 : yk_inst yt_151 yi_151 [(10, 5), (28, 100000), (29, 100000)] [] yh_151 (fun _ _ => none) [] = true := by decide +kernel
def yt_152 : List yI := [yi_109, yi_118, yi_131]
theorem yk_152 : yk_inst yt_152 yi_152 [] [] yh_152 (fun _ _ => none) [] = true := by decide +kernel
def yt_153 : List yI := [yi_109, yi_118, yi_120, yi_131]
theorem yk_153 : yk_inst yt_153 yi_153 [] [] yh_153 (fun _ _ => none) [] = true := by decide +kernel
def yt_154 : List yI := [yi_109, yi_121, yi_131]
theorem yk_154 : yk_inst yt_154 yi_154 [] [] yh_154 (fun _ _ => none) [] = true := by decide +kernel
def yt_155 : List yI := [yi_0, yi_109, yi_116, yi_131]
theorem yk_155 : yk_inst yt_155 yi_155 [] [] yh_155 (fun _ _ => none) [] = true := by decide +kernel
def yt_156 : List yI := [yi_132]
theorem yk_156 : yk_inst yt_156 yi_156 [] [10, 1] yh_156 (fun _ _ => none) [] = true := by decide +kernel
def yt_157 : List yI := [yi_109, yi_122, yi_131]
theorem yk_157 : yk_inst yt_157 yi_157 [(58, 100000)] [] yh_157 (fun _ _ => none) [] = true := by decide +kernel
def yt_158 : List yI := []
theorem yk_158 : yk_inst yt_158 yi_158 [(10, 7)] [] yh_158 (fun _ _ => none) [] = true := by decide +kernel
def yt_159 : List yI := [yi_42, yi_109, yi_124, yi_131]
theorem yk_159 : yk_inst yt_159 yi_159 [] [] yh_159 (fun _ _ => none) [] = true := by decide +kernel
def yt_160 : List yI := [yi_36]
theorem yk_160 : yk_inst yt_160 yi_160 [] [] yh_160 (fun _ _ => none) [] = true := by decide +kernel
def yt_161 : List yI := [yi_126, yi_127]
theorem yk_161 : yk_inst yt_161 yi_161 [(73, 8)] [] yh_161 (fun _ _ => none) [] = true := by decide +kernel
def yt_162 : List yI := [yi_126, yi_127, yi_130]
theorem yk_162 : yk_inst yt_162 yi_162 [] [] yh_162 (fun _ _ => none) [] = true := by decide +kernel
def yt_171 : List yI := []
theorem yk_171 : yk_inst yt_171 yi_171 [] [128, (-1)] yh_171 (fun _ _ => none) [] = true := by decide +kernel
def yt_172 : List yI := [yi_165, yi_166, yi_167, yi_168, yi_169, yi_170]
theorem yk_172 : yk_inst yt_172 yi_172 [(93, 9), (99, 100000)] [] yh_172 (fun _ _ => none) [] = true := by decide +kernel
def yt_173 : List yI := [yi_165, yi_166, yi_167, yi_168, yi_169, yi_170]
theorem yk_173 : yk_inst yt_173 yi_173 [(93, 9), (99, 100000)] [] yh_173 (fun _ _ => none) [] = true := by decide +kernel
def yt_174 : List yI := [yi_165, yi_166, yi_167, yi_168, yi_169, yi_170]
theorem yk_174 : yk_inst yt_174 yi_174 [(93, 9), (99, 100000)] [] yh_174 (fun _ _ => none) [] = true := by decide +kernel
def yt_175 : List yI := [yi_163, yi_165, yi_166, yi_167, yi_168, yi_169, yi_170]
theorem yk_175 : yk_inst yt_175 yi_175 [(93, 9), (99, 100000)] [] yh_175 (fun _ _ => none) [] = true := by decide +kernel
def yt_176 : List yI := [yi_165, yi_166, yi_167, yi_168, yi_169, yi_170]
theorem yk_176 : yk_inst yt_176 yi_176 [(99, 100000)] [] yh_176 (fun _ _ => none) [] = true := by decide +kernel
def yt_177 : List yI := [yi_165, yi_166, yi_167, yi_168, yi_169, yi_170]
theorem yk_177 : yk_inst yt_177 yi_177 [(99, 100000)] [] yh_177 (fun _ _ => none) [] = true := by decide +kernel
def yt_178 : List yI := [yi_165, yi_166, yi_167, yi_168, yi_169, yi_170]
theorem yk_178 : yk_inst yt_178 yi_178 [(99, 100000)] [] yh_178 (fun _ _ => none) [1] = true := by decide +kernel
def yt_179 : List yI := [yi_165, yi_166, yi_167, yi_168, yi_169, yi_170]
theorem yk_179 : yk_inst yt_179 yi_179 [(93, 9), (99, 100000)] [] yh_179 (fun _ _ => none) [] = true := by decide +kernel
def yt_180 : List yI := [yi_163, yi_165, yi_166, yi_167, yi_168, yi_169, yi_170]
theorem yk_180 : yk_inst yt_180 yi_180 [(93, 9), (99, 100000)] [] yh_180 (fun _ _ => none) [] = true := by decide +kernel
def yt_181 : List yI := [yi_164]
theorem yk_181 : yk_inst yt_181 yi_181 [] [] yh_181 (fun _ _ => none) [] = true := by decide +kernel
def yt_182 : List yI := [yi_164, yi_172, yi_173, yi_174, yi_175, yi_176, yi_177, yi_178, yi_179, yi_180]
theorem yk_182 : yk_inst yt_182 yi_182 [(93, 9)] [] yh_182 (fun _ _ => none) [] = true := by decide +kernel
def yt_183 : List yI := [yi_163, yi_164, yi_181, yi_182]
theorem yk_183 : yk_inst yt_183 yi_183 [(93, 9), (93, 14)] [] yh_183 (fun _ _ => none) [] = true := by decide +kernel
def yt_184 : List yI := [yi_163, yi_164, yi_181, yi_182]
theorem yk_184 : yk_inst yt_184 yi_184 [(93, 9), (93, 14)] [] yh_184 (fun _ _ => none) [] = true := by decide +kernel
def yt_185 : List yI := [yi_163, yi_164, yi_181, yi_182]
theorem yk_185 : yk_inst yt_185 yi_185 [(93, 9), (93, 14)] [] yh_185 (fun _ _ => none) [] = true := by decide +kernel
def yt_186 : List yI := [yi_163, yi_164, yi_181, yi_182]
theorem yk_186 : yk_inst yt_186 yi_186 [(93, 9), (93, 14)] [] yh_186 (fun _ _ => none) [] = true := by decide +kernel
def yt_187 : List yI := [yi_163, yi_164, yi_181, yi_182]
theorem yk_187 : yk_inst yt_187 yi_187 [(93, 9), (93, 14)] [] yh_187 (fun _ _ => none) [] = true := by decide +kernel
def yt_188 : List yI := [yi_163, yi_164, yi_181, yi_182]
theorem yk_188 : yk_inst yt_188 yi_188 [(93, 9), (93, 14)] [] yh_188 (fun _ _ => none) [] = true := by decide +kernel
def yt_189 : List yI := [yi_163, yi_164, yi_181, yi_182]
theorem yk_189 : yk_inst yt_189 yi_189 [(93, 9), (93, 14)] [] yh_189 (fun _ _ => none) [] = true := by decide +kernel
def yt_190 : List yI := [yi_163, yi_164, yi_181, yi_182]
theorem yk_190 : yk_inst yt_190 yi_190 [(93, 9), (93, 14)] [] yh_190 (fun _ _ => none) [] = true := by decide +kernel
def yt_191 : List yI := [yi_163, yi_164, yi_181, yi_182]
theorem yk_191 : yk_inst yt_191 yi_191 [(93, 9), (93, 14)] [] yh_191 (fun _ _ => none) [] = true := by decide +kernel
def yt_192 : List yI := [yi_163, yi_164, yi_181, yi_182]
theorem yk_192 : yk_inst yt_192 yi_192 [(93, 9), (93, 14)] [] yh_192 (fun _ _ => none) [] = true := by decide +kernel
def yt_193 : List yI := [yi_163, yi_164, yi_181, yi_182]
theorem yk_193 : yk_inst yt_193 yi_193 [(93, 9), (93, 14)] [] yh_193 (fun _ _ => none) [] = true := by decide +kernel
def yt_194 : List yI := [yi_163, yi_164, yi_181, yi_182]
theorem yk_194 : yk_inst yt_194 yi_194 [(93, 9), (93, 14)] [] yh_194 (fun _ _ => none) [] = true := by decide +kernel
def yt_195 : List yI := [yi_163, yi_164, yi_181, yi_182]
theorem yk_195 : yk_inst yt_195 yi_195 [(93, 9), (93, 14)] [] yh_195 (fun _ _ => none) [] = true := by decide +kernel
def yt_196 : List yI := [yi_163, yi_164, yi_181, yi_182]
theorem yk_196 : yk_inst yt_196 yi_196 [(93, 9), (93, 14)] [] yh_196 (fun _ _ => none) [] = true := by decide +kernel
def yt_197 : List yI := [yi_163, yi_164, yi_181, yi_182]
theorem yk_197 : yk_inst yt_197 yi_197 [(93, 9), (93, 14)] [] yh_197 (fun _ _ => none) [] = true := by decide +kernel
def yt_198 : List yI := [yi_163, yi_164, yi_181, yi_182]
theorem yk_198 : yk_inst yt_198 yi_198 [(93, 9), (93, 14)] [] yh_198 (fun _ _ => none) [] = true := by decide +kernel
def yt_199 : List yI := [yi_163, yi_164, yi_181, yi_182]
theorem yk_199 : yk_inst yt_199 yi_199 [(93, 9), (93, 14)] [] yh_199 (fun _ _ => none) [] = true := by decide +kernel
def yt_200 : List yI := [yi_163, yi_164, yi_181, yi_182]
theorem yk_200 : yk_inst yt_200 yi_200 [(93, 9), (93, 14)] [] yh_200 (fun _ _ => none) [] = true := by decide +kernel
def yt_201 : List yI := [yi_163, yi_164, yi_181, yi_182]
theorem yk_201 : yk_inst yt_201 yi_201 [(93, 9), (93, 14)] [] yh_201 (fun _ _ => none) [] = true := by decide +kernel
def yt_202 : List yI := [yi_163, yi_164, yi_181, yi_182]
theorem yk_202 : yk_inst yt_202 yi_202 [(93, 9), (93, 14)] [] yh_202 (fun _ _ => none) [] = true := by decide +kernel
def yt_203 : List yI := [yi_163, yi_164, yi_181, yi_182]
theorem yk_203 : yk_inst yt_203 yi_203 [(93, 9), (93, 14)] [] yh_203 (fun _ _ => none) [] = true := by decide +kernel
def yt_204 : List yI := [yi_163, yi_164, yi_181, yi_182]
theorem yk_204 : yk_inst yt_204 yi_204 [(93, 9), (93, 14)] [] yh_204 (fun _ _ => none) [] = true := by decide +kernel
def yt_205 : List yI := [yi_163, yi_164, yi_181, yi_182]
theorem yk_205 : yk_inst yt_205 yi_205 [(93, 9), (93, 14)] [] yh_205 (fun _ _ => none) [] = true := by decide +kernel
def yt_206 : List yI := [yi_163, yi_164, yi_181, yi_182]
theorem yk_206 : yk_inst yt_206 yi_206 [(93, 9), (93, 14)] [] yh_206 (fun _ _ => none) [] = true := by decide +kernel
def yt_207 : List yI := [yi_163, yi_164, yi_181, yi_182]
theorem yk_207 : yk_inst yt_207 yi_207 [(93, 9), (93, 14)] [] yh_207 (fun _ _ => none) [] = true := by decide +kernel
def yt_208 : List yI := [yi_163, yi_164, yi_181, yi_182]
theorem yk_208 : yk_inst yt_208 yi_208 [(93, 9), (93, 14)] [] yh_208 (fun _ _ => none) [] = true := by decide +kernel
def yt_209 : List yI := [yi_163, yi_164, yi_181, yi_182]
theorem yk_209 : yk_inst yt_209 yi_209 [(93, 9), (93, 14)] [] yh_209 (fun _ _ => none) [] = true := by decide +kernel
def yt_210 : List yI := [yi_163, yi_164, yi_181, yi_182]
theorem yk_210 : yk_inst yt_210 yi_210 [(93, 9), (93, 14)] [] yh_210 (fun _ _ => none) [] = true := by decide +kernel
def yt_211 : List yI := [yi_163, yi_164, yi_181, yi_182]
theorem yk_211 : yk_inst yt_211 yi_211 [(93, 9), (93, 14)] [] yh_211 (fun _ _ => none) [] = true := by decide +kernel
def yt_212 : List yI := [yi_163, yi_164, yi_181, yi_182]
theorem yk_212 : yk_inst yt_212 yi_212 [(93, 9), (93, 14)] [] yh_212 (fun _ _ => none) [] = true := by decide +kernel
def yt_213 : List yI := [yi_163, yi_164, yi_181, yi_182]
theorem yk_213 : yk_inst yt_213 yi_213 [(93, 9), (93, 14)] [] yh_213 (fun _ _ => none) [] = true := by decide +kernel
def yt_214 : List yI := [yi_163, yi_164, yi_181, yi_182]
theorem yk_214 : yk_inst yt_214 yi_214 [(93, 9), (93, 14)] [] yh_214 (fun _ _ => none) [] = true := by decide +kernel
def yt_215 : List yI := [yi_163, yi_164, yi_181, yi_182]
theorem yk_215 : yk_inst yt_215 yi_215 [(93, 9), (93, 14)] [] yh_215 (fun _ _ => none) [] = true := by decide +kernel
def yt_216 : List yI := [yi_163, yi_164, yi_181, yi_182]
theorem yk_216 : yk_inst yt_216 yi_216 [(93, 9), (93, 14)] [] yh_216 (fun _ _ => none) [] = true := by decide +kernel
def yt_217 : List yI := [yi_163, yi_164, yi_181, yi_182]
theorem yk_217 : yk_inst yt_217 yi_217 [(93, 9), (93, 14)] [] yh_217 (fun _ _ => none) [] = true := by decide +kernel
def yt_218 : List yI := [yi_163, yi_164, yi_181, yi_182]
theorem yk_218 : yk_inst yt_218 yi_218 [(93, 9), (93, 14)] [] yh_218 (fun _ _ => none) [] = true := by decide +kernel
def yt_219 : List yI := [yi_163, yi_164, yi_181, yi_182]
theorem yk_219 : yk_inst yt_219 yi_219 [(93, 9), (93, 14)] [] yh_219 (fun _ _ => none) [] = true := by decide +kernel
def yt_220 : List yI := [yi_163, yi_164, yi_181, yi_182]
theorem yk_220 : yk_inst yt_220 yi_220 [(93, 9), (93, 14)] [] yh_220 (fun _ _ => none) [] = true := by decide +kernel
def yt_221 : List yI := [yi_163, yi_164, yi_181, yi_182]
theorem yk_221 : yk_inst yt_221 yi_221 [(93, 9), (93, 14)] [] yh_221 (fun _ _ => none) [] = true := by decide +kernel
def yt_222 : List yI := [yi_163, yi_164, yi_181, yi_182]
theorem yk_222 : yk_inst yt_222 yi_222 [(93, 9), (93, 14)] [] yh_222 (fun _ _ => none) [] = true := by decide +kernel
def yt_223 : List yI := [yi_163, yi_164, yi_181, yi_182]
theorem yk_223 : yk_inst yt_223 yi_223 [(93, 9)] [] yh_223 (fun _ _ => none) [] = true := by decide +kernel
def yt_225 : List yI := []
theorem yk_225 : yk_inst yt_225 yi_225 [] [] yh_225 (fun _ _ => none) [1, 2] = true := by decide +kernel
def yt_226 : List yI := [yi_224, yi_225]
theorem yk_226 : yk_inst yt_226 yi_226 [(93, 11), (93, 26), (99, 100000), (103, 100000)] [8, 1] yh_226 (fun _ _ => none) [] = true := by decide +kernel
def yt_229 : List yI := [yi_225]
theorem yk_229 : yk_inst yt_229 yi_229 [] [] yh_229 (fun _ _ => none) [] = true := by decide +kernel
def yt_230 : List yI := [yi_225]
theorem yk_230 : yk_inst yt_230 yi_230 [] [] yh_230 (fun _ _ => none) [] = true := by decide +kernel
def yt_231 : List yI := [yi_229]
theorem yk_231 : yk_inst yt_231 yi_231 [] [8, 1] yh_231 (fun _ _ => none) [] = true := by decide +kernel
def yt_232 : List yI := [yi_225]
theorem yk_232 : yk_inst yt_232 yi_232 [] [8, 1] yh_232 (fun _ _ => none) [] = true := by decide +kernel
def yt_233 : List yI := [yi_225]
theorem yk_233 : yk_inst yt_233 yi_233 [] [] yh_233 (fun _ _ => none) [] = true := by decide +kernel
def yt_234 : List yI := [yi_225]
theorem yk_234 : yk_inst yt_234 yi_234 [] [] yh_234 (fun _ _ => none) [] = true := by decide +kernel
def yt_235 : List yI := [yi_225]
theorem yk_235 : yk_inst yt_235 yi_235 [(103, 11), (103, 12), (103, 22), (103, 23), (103, 33), (103, 34), (103, 44), (103, 45), (103, 55), (103, 56), (103, 66), (103, 67), (103, 77), (103, 78)] [] yh_235 (fun _ _ => none) [] = true := by decide +kernel
def yt_236 : List yI := []
theorem yk_236 : yk_inst yt_236 yi_236 [] [11, 1] yh_236 (fun _ _ => none) [] = true := by decide +kernel
def yt_237 : List yI := []
theorem yk_237 : yk_inst yt_237 yi_237 [(93, 23), (103, 10), (103, 12), (103, 21), (103, 23), (103, 32), (103, 34), (103, 43), (103, 45), (103, 54), (103, 56), (103, 65), (103, 67), (103, 76), (103, 78)] [] yh_237 (fun _ _ => none) [] = true := by decide +kernel
def yt_238 : List yI := [yi_225]
theorem yk_238 : yk_inst yt_238 yi_238 [] [] yh_238 (fun _ _ => none) [] = true := by decide +kernel
def yt_239 : List yI := [yi_238]
theorem yk_239 : yk_inst yt_239 yi_239 [] [8, 1] yh_239 (fun _ _ => none) [] = true := by decide +kernel
def yt_240 : List yI := [yi_171, yi_225, yi_231, yi_239]
theorem yk_240 : yk_inst yt_240 yi_240 [(102, 100000)] [] yh_240 (fun _ _ => none) [] = true := by decide +kernel
def yt_241 : List yI := [yi_225, yi_228, yi_229, yi_238, yi_239, yi_240]
theorem yk_241 : yk_inst yt_241 yi_241 [] [] yh_241 (fun _ _ => none) [] = true := by decide +kernel
def yt_242 : List yI := [yi_225, yi_229, yi_238, yi_241]
theorem yk_242 : yk_inst yt_242 yi_242 [] [8, 1] yh_242 (fun _ _ => none) [] = true := by decide +kernel
def yt_243 : List yI := [yi_225]
theorem yk_243 : yk_inst yt_243 yi_243 [(103, 18), (103, 19), (103, 20), (103, 29), (103, 30), (103, 31), (103, 40), (103, 41), (103, 42), (103, 51), (103, 52), (103, 53), (103, 62), (103, 63), (103, 64), (103, 73), (103, 74), (103, 75), (103, 84), (103, 85), (103, 86)] [] yh_243 (fun _ _ => none) [] = true := by decide +kernel
def yt_244 : List yI := [yi_225, yi_230, yi_235, yi_236, yi_237, yi_242, yi_243]
theorem yk_244 : yk_inst yt_244 yi_244 [(93, 23), (103, 4), (103, 18), (103, 19), (103, 20), (103, 29), (103, 30), (103, 31), (103, 40), (103, 41), (103, 42), (103, 51), (103, 52), (103, 53), (103, 62), (103, 63), (103, 64), (103, 73), (103, 74), (103, 75), (103, 84), (103, 85), (103, 86), (104, 100000)] [8, 1] yh_244 (fun _ _ => none) [] = true := by decide +kernel
def yt_245 : List yI := []
theorem yk_245 : yk_inst yt_245 yi_245 [(93, 26), (105, 100000)] [1741, 1] yh_245 (fun _ _ => none) [] = true := by decide +kernel
def yt_246 : List yI := []
theorem yk_246 : yk_inst yt_246 yi_246 [(93, 26), (103, 100000)] [88, 1] yh_246 (fun _ _ => none) [] = true := by decide +kernel
def yt_247 : List yI := [yi_244, yi_245]
theorem yk_247 : yk_inst yt_247 yi_247 [] [] yh_247 (fun _ _ => none) [] = true := by decide +kernel
def yt_248 : List yI := []
theorem yk_248 : yk_inst yt_248 yi_248 [(103, 18), (103, 19), (103, 20), (103, 29), (103, 30), (103, 31), (103, 40), (103, 41), (103, 42), (103, 51), (103, 52), (103, 53), (103, 62), (103, 63), (103, 64), (103, 73), (103, 74), (103, 75), (103, 84), (103, 85), (103, 86)] [] yh_248 (fun _ _ => none) [] = true := by decide +kernel
def yt_249 : List yI := [yi_225, yi_229, yi_245, yi_248]
theorem yk_249 : yk_inst yt_249 yi_249 [] [] yh_249 (fun _ _ => none) [] = true := by decide +kernel
def yt_250 : List yI := [yi_225, yi_230, yi_235, yi_245]
theorem yk_250 : yk_inst yt_250 yi_250 [] [] yh_250 (fun _ _ => none) [] = true := by decide +kernel
def yt_251 : List yI := [yi_245]
theorem yk_251 : yk_inst yt_251 yi_251 [(103, 8)] [] yh_251 (fun _ _ => none) [] = true := by decide +kernel
def yt_252 : List yI := [yi_225, yi_245]
theorem yk_252 : yk_inst yt_252 yi_252 [(103, 13), (103, 24), (103, 35), (103, 46), (103, 57), (103, 68), (103, 79)] [] yh_252 (fun _ _ => none) [] = true := by decide +kernel
def yt_253 : List yI := []
theorem yk_253 : yk_inst yt_253 yi_253 [(106, 100000)] [] yh_253 (fun _ _ => none) [] = true := by decide +kernel
def yt_254 : List yI := []
theorem yk_254 : yk_inst yt_254 yi_254 [(103, 100000)] [] yh_254 (fun _ _ => none) [] = true := by decide +kernel
def yt_255 : List yI := []
theorem yk_255 : yk_inst yt_255 yi_255 [(106, 100000)] [] yh_255 (fun _ _ => none) [] = true := by decide +kernel
def yt_256 : List yI := []
theorem yk_256 : yk_inst yt_256 yi_256 [(103, 100000)] [] yh_256 (fun _ _ => none) [] = true := by decide +kernel
def yt_257 : List yI := [yi_244]
theorem yk_257 : yk_inst yt_257 yi_257 [] [2147483648, 1] yh_257 (fun _ _ => none) [] = true := by decide +kernel
def yt_258 : List yI := [yi_231, yi_253, yi_254, yi_255, yi_256, yi_257]
theorem yk_258 : yk_inst yt_258 yi_258 [] [] yh_258 (fun _ _ => none) [] = true := by decide +kernel
def yt_259 : List yI := [yi_225, yi_253, yi_254, yi_255, yi_256, yi_257]
theorem yk_259 : yk_inst yt_259 yi_259 [] [] yh_259 (fun _ _ => none) [] = true := by decide +kernel
def yt_260 : List yI := [yi_225, yi_229, yi_244, yi_253, yi_254, yi_255, yi_256]
theorem yk_260 : yk_inst yt_260 yi_260 [] [101, 1] yh_260 (fun _ _ => none) [] = true := by decide +kernel
def yt_261 : List yI := [yi_225, yi_229]
theorem yk_261 : yk_inst yt_261 yi_261 [] [8, 1] yh_261 (fun _ _ => none) [] = true := by decide +kernel
def yt_262 : List yI := [yi_225, yi_229]
theorem yk_262 : yk_inst yt_262 yi_262 [] [8, 1] yh_262 (fun _ _ => none) [] = true := by decide +kernel
def yt_263 : List yI := [yi_171, yi_248, yi_253, yi_254, yi_255, yi_256, yi_257, yi_261, yi_262]
theorem yk_263 : yk_inst yt_263 yi_263 [] [2064, 16, 8, 1] yh_263 (fun _ _ => none) [] = true := by decide +kernel
def yt_264 : List yI := []
theorem yk_264 : yk_inst yt_264 yi_264 [(103, 117), (103, 118), (103, 119), (103, 120), (103, 121), (103, 122), (103, 123), (103, 124), (103, 125), (103, 126), (103, 127), (103, 128), (103, 129), (103, 130), (103, 131), (103, 132), (103, 133), (103, 134), (103, 135), (103, 136), (103, 137)] [] yh_264 (fun _ _ => none) [] = true := by decide +kernel
def yt_265 : List yI := [yi_225, yi_229]
theorem yk_265 : yk_inst yt_265 yi_265 [] [] yh_265 (fun _ _ => none) [] = true := by decide +kernel
def yt_266 : List yI := [yi_265]
theorem yk_266 : yk_inst yt_266 yi_266 [] [11, 1] yh_266 (fun _ _ => none) [] = true := by decide +kernel
def yt_267 : List yI := [yi_248, yi_257]
theorem yk_267 : yk_inst yt_267 yi_267 [(103, 4), (103, 8), (103, 10), (103, 11), (103, 12), (103, 13), (103, 18), (103, 19), (103, 20), (103, 21), (103, 22), (103, 23), (103, 24), (103, 29), (103, 30), (103, 31), (103, 32), (103, 33), (103, 34), (103, 35), (103, 40), (103, 41), (103, 42), (103, 43), (103, 44), (103, 45), (103, 46), (103, 51), (103, 52), (103, 53), (103, 54), (103, 55), (103, 56), (103, 57), (103, 62), (103, 63), (103, 64), (103, 65), (103, 66), (103, 67), (103, 68), (103, 73), (103, 74), (103, 75), (103, 76), (103, 77), (103, 78), (103, 79), (103, 84), (103, 85), (103, 86)] [8, 1] yh_267 (fun _ _ => none) [] = true := by decide +kernel
def yt_268 : List yI := [yi_225, yi_253, yi_254, yi_255, yi_256, yi_265, yi_266, yi_267]
theorem yk_268 : yk_inst yt_268 yi_268 [(93, 30), (107, 100000), (108, 100000)] [672, 84, 42, 1] yh_268 (fun _ _ => none) [] = true := by decide +kernel
def yt_269 : List yI := [yi_268]
theorem yk_269 : yk_inst yt_269 yi_269 [] [] yh_269 (fun _ _ => none) [] = true := by decide +kernel
def yt_270 : List yI := []
theorem yk_270 : yk_inst yt_270 yi_270 [] [165888, 576, 288, 1] yh_270 (fun _ _ => none) [] = true := by decide +kernel
def yt_271 : List yI := [yi_268, yi_270]
theorem yk_271 : yk_inst yt_271 yi_271 [] [8, 1] yh_271 (fun _ _ => none) [] = true := by decide +kernel
def yt_272 : List yI := [yi_171, yi_231, yi_253, yi_254, yi_255, yi_256, yi_257]
theorem yk_272 : yk_inst yt_272 yi_272 [(103, 8)] [10, 1] yh_272 (fun _ _ => none) [] = true := by decide +kernel
def yt_273 : List yI := [yi_171, yi_229, yi_253, yi_254, yi_255, yi_256, yi_257, yi_261]
theorem yk_273 : yk_inst yt_273 yi_273 [(103, 16), (103, 27), (103, 38), (103, 49), (103, 60), (103, 71), (103, 82)] [2064, 16, 8, 1] yh_273 (fun _ _ => none) [] = true := by decide +kernel
def yt_274 : List yI := [yi_225]
theorem yk_274 : yk_inst yt_274 yi_274 [] [8, 1] yh_274 (fun _ _ => none) [] = true := by decide +kernel
def yt_275 : List yI := [yi_274]
theorem yk_275 : yk_inst yt_275 yi_275 [] [10, 1] yh_275 (fun _ _ => none) [] = true := by decide +kernel
def yt_276 : List yI := [yi_244, yi_254, yi_256]
theorem yk_276 : yk_inst yt_276 yi_276 [] [101, 1] yh_276 (fun _ _ => none) [] = true := by decide +kernel
def yt_277 : List yI := [yi_225, yi_253, yi_255, yi_276]
theorem yk_277 : yk_inst yt_277 yi_277 [(103, 13), (103, 24), (103, 35), (103, 46), (103, 57), (103, 68), (103, 79)] [] yh_277 (fun _ _ => none) [] = true := by decide +kernel
def yt_278 : List yI := []
theorem yk_278 : yk_inst yt_278 yi_278 [(93, 22)] [] yh_278 (fun _ _ => none) [] = true := by decide +kernel
def yt_279 : List yI := []
theorem yk_279 : yk_inst yt_279 yi_279 [(93, 31)] [] yh_279 (fun _ _ => none) [] = true := by decide +kernel
def yt_280 : List yI := []
theorem yk_280 : yk_inst yt_280 yi_280 [(93, 31)] [] yh_280 (fun _ _ => none) [] = true := by decide +kernel
def yt_281 : List yI := [yi_225, yi_230, yi_235, yi_279, yi_280]
theorem yk_281 : yk_inst yt_281 yi_281 [(103, 88), (103, 89), (103, 99), (103, 100)] [] yh_281 (fun _ _ => none) [] = true := by decide +kernel
def yt_282 : List yI := [yi_171, yi_225, yi_229, yi_231, yi_244, yi_253, yi_254, yi_255, yi_256, yi_281]
theorem yk_282 : yk_inst yt_282 yi_282 [(93, 31)] [2013, 183, 61, 1] yh_282 (fun _ _ => none) [] = true := by decide +kernel
def yt_283 : List yI := [yi_230, yi_231]
theorem yk_283 : yk_inst yt_283 yi_283 [] [8, 1] yh_283 (fun _ _ => none) [] = true := by decide +kernel
def yt_284 : List yI := []
theorem yk_284 : yk_inst yt_284 yi_284 [(93, 1), (94, 100000)] [] yh_284 (fun _ _ => none) [] = true := by decide +kernel
def yt_285 : List yI := []
theorem yk_285 : yk_inst yt_285 yi_285 [(93, 1)] [] yh_285 (fun _ _ => none) [] = true := by decide +kernel
