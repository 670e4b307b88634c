theorem kcd_X4_row : Cond.code T_X4_row.1 T_X4_row.2.1 T_X4_row.2.2.1 T_X4_row.2.2.2.1 ∈ kx_tbl := (kx_tb 202 (by decide +kernel) (by decide +kernel))
theorem kpd_X4_row : T_X4_row.1.cls ≠ "java/lang/invoke/MethodHandle" ∧ T_X4_row.1.cls ≠ "java/lang/invoke/VarHandle" ∧ (parseMethodDescriptor T_X4_row.1.desc).map (fun d => d.parameters.length) = some 3 := ⟨by decide +kernel, by decide +kernel, by decide +kernel⟩
theorem kse_X4_row : Cond.instanceMethod T_X4_row.1 ∈ kx_tbl ∧ Cond.selects T_X4_row.1.cls T_X4_row.1 T_X4_row.1 ∈ kx_tbl := ⟨(kx_tb 200 (by decide +kernel) (by decide +kernel)), (kx_tb 201 (by decide +kernel) (by decide +kernel))⟩
theorem klk_L_13 : kx_Lk RL 13 T_X4_row 3 := ⟨kpd_X4_row, (kx_tb 199 (by decide +kernel) (by decide +kernel)), kini_X4, kcd_X4_row⟩
theorem kcd_X5_row : Cond.code T_X5_row.1 T_X5_row.2.1 T_X5_row.2.2.1 T_X5_row.2.2.2.1 ∈ kx_tbl := (kx_tb 925 (by decide +kernel) (by decide +kernel))
theorem kpd_X5_row : T_X5_row.1.cls ≠ "java/lang/invoke/MethodHandle" ∧ T_X5_row.1.cls ≠ "java/lang/invoke/VarHandle" ∧ (parseMethodDescriptor T_X5_row.1.desc).map (fun d => d.parameters.length) = some 3 := ⟨by decide +kernel, by decide +kernel, by decide +kernel⟩
theorem kse_X5_row : Cond.instanceMethod T_X5_row.1 ∈ kx_tbl ∧ Cond.selects T_X5_row.1.cls T_X5_row.1 T_X5_row.1 ∈ kx_tbl := ⟨(kx_tb 923 (by decide +kernel) (by decide +kernel)), (kx_tb 924 (by decide +kernel) (by decide +kernel))⟩
theorem klk_L_17 : kx_Lk RL 17 T_X5_row 3 := ⟨kpd_X5_row, (kx_tb 922 (by decide +kernel) (by decide +kernel)), kini_X5, kcd_X5_row⟩
theorem kcd_X4_set : Cond.code T_X4_set.1 T_X4_set.2.1 T_X4_set.2.2.1 T_X4_set.2.2.2.1 ∈ kx_tbl := (kx_tb 223 (by decide +kernel) (by decide +kernel))
theorem kpd_X4_set : T_X4_set.1.cls ≠ "java/lang/invoke/MethodHandle" ∧ T_X4_set.1.cls ≠ "java/lang/invoke/VarHandle" ∧ (parseMethodDescriptor T_X4_set.1.desc).map (fun d => d.parameters.length) = some 3 := ⟨by decide +kernel, by decide +kernel, by decide +kernel⟩
theorem kse_X4_set : Cond.instanceMethod T_X4_set.1 ∈ kx_tbl ∧ Cond.selects T_X4_set.1.cls T_X4_set.1 T_X4_set.1 ∈ kx_tbl := ⟨(kx_tb 221 (by decide +kernel) (by decide +kernel)), (kx_tb 222 (by decide +kernel) (by decide +kernel))⟩
theorem klk_L_20 : kx_Lk RL 20 T_X4_set 3 := ⟨kpd_X4_set, (kx_tb 220 (by decide +kernel) (by decide +kernel)), kini_X4, kcd_X4_set⟩
theorem kcd_X5_set : Cond.code T_X5_set.1 T_X5_set.2.1 T_X5_set.2.2.1 T_X5_set.2.2.2.1 ∈ kx_tbl := (kx_tb 939 (by decide +kernel) (by decide +kernel))
theorem kpd_X5_set : T_X5_set.1.cls ≠ "java/lang/invoke/MethodHandle" ∧ T_X5_set.1.cls ≠ "java/lang/invoke/VarHandle" ∧ (parseMethodDescriptor T_X5_set.1.desc).map (fun d => d.parameters.length) = some 3 := ⟨by decide +kernel, by decide +kernel, by decide +kernel⟩
theorem kse_X5_set : Cond.instanceMethod T_X5_set.1 ∈ kx_tbl ∧ Cond.selects T_X5_set.1.cls T_X5_set.1 T_X5_set.1 ∈ kx_tbl := ⟨(kx_tb 937 (by decide +kernel) (by decide +kernel)), (kx_tb 938 (by decide +kernel) (by decide +kernel))⟩
theorem klk_L_24 : kx_Lk RL 24 T_X5_set 3 := ⟨kpd_X5_set, (kx_tb 936 (by decide +kernel) (by decide +kernel)), kini_X5, kcd_X5_set⟩
theorem kcd_X4_copy : Cond.code T_X4_copy.1 T_X4_copy.2.1 T_X4_copy.2.2.1 T_X4_copy.2.2.2.1 ∈ kx_tbl := (kx_tb 247 (by decide +kernel) (by decide +kernel))
theorem kpd_X4_copy : T_X4_copy.1.cls ≠ "java/lang/invoke/MethodHandle" ∧ T_X4_copy.1.cls ≠ "java/lang/invoke/VarHandle" ∧ (parseMethodDescriptor T_X4_copy.1.desc).map (fun d => d.parameters.length) = some 5 := ⟨by decide +kernel, by decide +kernel, by decide +kernel⟩
theorem kse_X4_copy : Cond.instanceMethod T_X4_copy.1 ∈ kx_tbl ∧ Cond.selects T_X4_copy.1.cls T_X4_copy.1 T_X4_copy.1 ∈ kx_tbl := ⟨(kx_tb 245 (by decide +kernel) (by decide +kernel)), (kx_tb 246 (by decide +kernel) (by decide +kernel))⟩
theorem klk_L_25 : kx_Lk RL 25 T_X4_copy 5 := ⟨kpd_X4_copy, (kx_tb 244 (by decide +kernel) (by decide +kernel)), kini_X4, kcd_X4_copy⟩
theorem kcd_X5_copy : Cond.code T_X5_copy.1 T_X5_copy.2.1 T_X5_copy.2.2.1 T_X5_copy.2.2.2.1 ∈ kx_tbl := (kx_tb 954 (by decide +kernel) (by decide +kernel))
theorem kpd_X5_copy : T_X5_copy.1.cls ≠ "java/lang/invoke/MethodHandle" ∧ T_X5_copy.1.cls ≠ "java/lang/invoke/VarHandle" ∧ (parseMethodDescriptor T_X5_copy.1.desc).map (fun d => d.parameters.length) = some 5 := ⟨by decide +kernel, by decide +kernel, by decide +kernel⟩
theorem kse_X5_copy : Cond.instanceMethod T_X5_copy.1 ∈ kx_tbl ∧ Cond.selects T_X5_copy.1.cls T_X5_copy.1 T_X5_copy.1 ∈ kx_tbl := ⟨(kx_tb 952 (by decide +kernel) (by decide +kernel)), (kx_tb 953 (by decide +kernel) (by decide +kernel))⟩
theorem klk_L_29 : kx_Lk RL 29 T_X5_copy 5 := ⟨kpd_X5_copy, (kx_tb 951 (by decide +kernel) (by decide +kernel)), kini_X5, kcd_X5_copy⟩
theorem kcd_X4_element : Cond.code T_X4_element.1 T_X4_element.2.1 T_X4_element.2.2.1 T_X4_element.2.2.2.1 ∈ kx_tbl := (kx_tb 262 (by decide +kernel) (by decide +kernel))
theorem kpd_X4_element : T_X4_element.1.cls ≠ "java/lang/invoke/MethodHandle" ∧ T_X4_element.1.cls ≠ "java/lang/invoke/VarHandle" ∧ (parseMethodDescriptor T_X4_element.1.desc).map (fun d => d.parameters.length) = some 2 := ⟨by decide +kernel, by decide +kernel, by decide +kernel⟩
theorem kse_X4_element : Cond.instanceMethod T_X4_element.1 ∈ kx_tbl ∧ Cond.selects T_X4_element.1.cls T_X4_element.1 T_X4_element.1 ∈ kx_tbl := ⟨(kx_tb 260 (by decide +kernel) (by decide +kernel)), (kx_tb 261 (by decide +kernel) (by decide +kernel))⟩
theorem klk_L_30 : kx_Lk RL 30 T_X4_element 2 := ⟨kpd_X4_element, (kx_tb 259 (by decide +kernel) (by decide +kernel)), kini_X4, kcd_X4_element⟩
theorem kcd_X5_element : Cond.code T_X5_element.1 T_X5_element.2.1 T_X5_element.2.2.1 T_X5_element.2.2.2.1 ∈ kx_tbl := (kx_tb 958 (by decide +kernel) (by decide +kernel))
theorem kpd_X5_element : T_X5_element.1.cls ≠ "java/lang/invoke/MethodHandle" ∧ T_X5_element.1.cls ≠ "java/lang/invoke/VarHandle" ∧ (parseMethodDescriptor T_X5_element.1.desc).map (fun d => d.parameters.length) = some 2 := ⟨by decide +kernel, by decide +kernel, by decide +kernel⟩
theorem kse_X5_element : Cond.instanceMethod T_X5_element.1 ∈ kx_tbl ∧ Cond.selects T_X5_element.1.cls T_X5_element.1 T_X5_element.1 ∈ kx_tbl := ⟨(kx_tb 956 (by decide +kernel) (by decide +kernel)), (kx_tb 957 (by decide +kernel) (by decide +kernel))⟩
theorem klk_L_34 : kx_Lk RL 34 T_X5_element 2 := ⟨kpd_X5_element, (kx_tb 955 (by decide +kernel) (by decide +kernel)), kini_X5, kcd_X5_element⟩
theorem kcd_X4_holds : Cond.code T_X4_holds.1 T_X4_holds.2.1 T_X4_holds.2.2.1 T_X4_holds.2.2.2.1 ∈ kx_tbl := (kx_tb 266 (by decide +kernel) (by decide +kernel))
theorem kpd_X4_holds : T_X4_holds.1.cls ≠ "java/lang/invoke/MethodHandle" ∧ T_X4_holds.1.cls ≠ "java/lang/invoke/VarHandle" ∧ (parseMethodDescriptor T_X4_holds.1.desc).map (fun d => d.parameters.length) = some 1 := ⟨by decide +kernel, by decide +kernel, by decide +kernel⟩
theorem kse_X4_holds : Cond.instanceMethod T_X4_holds.1 ∈ kx_tbl ∧ Cond.selects T_X4_holds.1.cls T_X4_holds.1 T_X4_holds.1 ∈ kx_tbl := ⟨(kx_tb 264 (by decide +kernel) (by decide +kernel)), (kx_tb 265 (by decide +kernel) (by decide +kernel))⟩
theorem klk_L_35 : kx_Lk RL 35 T_X4_holds 1 := ⟨kpd_X4_holds, (kx_tb 263 (by decide +kernel) (by decide +kernel)), kini_X4, kcd_X4_holds⟩
theorem kcd_X5_holds : Cond.code T_X5_holds.1 T_X5_holds.2.1 T_X5_holds.2.2.1 T_X5_holds.2.2.2.1 ∈ kx_tbl := (kx_tb 962 (by decide +kernel) (by decide +kernel))
theorem kpd_X5_holds : T_X5_holds.1.cls ≠ "java/lang/invoke/MethodHandle" ∧ T_X5_holds.1.cls ≠ "java/lang/invoke/VarHandle" ∧ (parseMethodDescriptor T_X5_holds.1.desc).map (fun d => d.parameters.length) = some 1 := ⟨by decide +kernel, by decide +kernel, by decide +kernel⟩
theorem kse_X5_holds : Cond.instanceMethod T_X5_holds.1 ∈ kx_tbl ∧ Cond.selects T_X5_holds.1.cls T_X5_holds.1 T_X5_holds.1 ∈ kx_tbl := ⟨(kx_tb 960 (by decide +kernel) (by decide +kernel)), (kx_tb 961 (by decide +kernel) (by decide +kernel))⟩
theorem klk_L_39 : kx_Lk RL 39 T_X5_holds 1 := ⟨kpd_X5_holds, (kx_tb 959 (by decide +kernel) (by decide +kernel)), kini_X5, kcd_X5_holds⟩
theorem kcd_X4_show : Cond.code T_X4_show.1 T_X4_show.2.1 T_X4_show.2.2.1 T_X4_show.2.2.2.1 ∈ kx_tbl := (kx_tb 270 (by decide +kernel) (by decide +kernel))
theorem kpd_X4_show : T_X4_show.1.cls ≠ "java/lang/invoke/MethodHandle" ∧ T_X4_show.1.cls ≠ "java/lang/invoke/VarHandle" ∧ (parseMethodDescriptor T_X4_show.1.desc).map (fun d => d.parameters.length) = some 2 := ⟨by decide +kernel, by decide +kernel, by decide +kernel⟩
theorem kse_X4_show : Cond.instanceMethod T_X4_show.1 ∈ kx_tbl ∧ Cond.selects T_X4_show.1.cls T_X4_show.1 T_X4_show.1 ∈ kx_tbl := ⟨(kx_tb 268 (by decide +kernel) (by decide +kernel)), (kx_tb 269 (by decide +kernel) (by decide +kernel))⟩
theorem klk_L_40 : kx_Lk RL 40 T_X4_show 2 := ⟨kpd_X4_show, (kx_tb 267 (by decide +kernel) (by decide +kernel)), kini_X4, kcd_X4_show⟩
theorem kcd_X5_show : Cond.code T_X5_show.1 T_X5_show.2.1 T_X5_show.2.2.1 T_X5_show.2.2.2.1 ∈ kx_tbl := (kx_tb 966 (by decide +kernel) (by decide +kernel))
theorem kpd_X5_show : T_X5_show.1.cls ≠ "java/lang/invoke/MethodHandle" ∧ T_X5_show.1.cls ≠ "java/lang/invoke/VarHandle" ∧ (parseMethodDescriptor T_X5_show.1.desc).map (fun d => d.parameters.length) = some 2 := ⟨by decide +kernel, by decide +kernel, by decide +kernel⟩
theorem kse_X5_show : Cond.instanceMethod T_X5_show.1 ∈ kx_tbl ∧ Cond.selects T_X5_show.1.cls T_X5_show.1 T_X5_show.1 ∈ kx_tbl := ⟨(kx_tb 964 (by decide +kernel) (by decide +kernel)), (kx_tb 965 (by decide +kernel) (by decide +kernel))⟩
theorem klk_L_44 : kx_Lk RL 44 T_X5_show 2 := ⟨kpd_X5_show, (kx_tb 963 (by decide +kernel) (by decide +kernel)), kini_X5, kcd_X5_show⟩
theorem kcd_X4_says : Cond.code T_X4_says.1 T_X4_says.2.1 T_X4_says.2.2.1 T_X4_says.2.2.2.1 ∈ kx_tbl := (kx_tb 279 (by decide +kernel) (by decide +kernel))
theorem kpd_X4_says : T_X4_says.1.cls ≠ "java/lang/invoke/MethodHandle" ∧ T_X4_says.1.cls ≠ "java/lang/invoke/VarHandle" ∧ (parseMethodDescriptor T_X4_says.1.desc).map (fun d => d.parameters.length) = some 2 := ⟨by decide +kernel, by decide +kernel, by decide +kernel⟩
theorem kse_X4_says : Cond.instanceMethod T_X4_says.1 ∈ kx_tbl ∧ Cond.selects T_X4_says.1.cls T_X4_says.1 T_X4_says.1 ∈ kx_tbl := ⟨(kx_tb 277 (by decide +kernel) (by decide +kernel)), (kx_tb 278 (by decide +kernel) (by decide +kernel))⟩
theorem klk_L_45 : kx_Lk RL 45 T_X4_says 2 := ⟨kpd_X4_says, (kx_tb 276 (by decide +kernel) (by decide +kernel)), kini_X4, kcd_X4_says⟩
theorem kcd_X5_says : Cond.code T_X5_says.1 T_X5_says.2.1 T_X5_says.2.2.1 T_X5_says.2.2.2.1 ∈ kx_tbl := (kx_tb 974 (by decide +kernel) (by decide +kernel))
theorem kpd_X5_says : T_X5_says.1.cls ≠ "java/lang/invoke/MethodHandle" ∧ T_X5_says.1.cls ≠ "java/lang/invoke/VarHandle" ∧ (parseMethodDescriptor T_X5_says.1.desc).map (fun d => d.parameters.length) = some 2 := ⟨by decide +kernel, by decide +kernel, by decide +kernel⟩
theorem kse_X5_says : Cond.instanceMethod T_X5_says.1 ∈ kx_tbl ∧ Cond.selects T_X5_says.1.cls T_X5_says.1 T_X5_says.1 ∈ kx_tbl := ⟨(kx_tb 972 (by decide +kernel) (by decide +kernel)), (kx_tb 973 (by decide +kernel) (by decide +kernel))⟩
theorem klk_L_48 : kx_Lk RL 48 T_X5_says 2 := ⟨kpd_X5_says, (kx_tb 971 (by decide +kernel) (by decide +kernel)), kini_X5, kcd_X5_says⟩
theorem kcd_X4_paves : Cond.code T_X4_paves.1 T_X4_paves.2.1 T_X4_paves.2.2.1 T_X4_paves.2.2.2.1 ∈ kx_tbl := (kx_tb 311 (by decide +kernel) (by decide +kernel))
theorem kpd_X4_paves : T_X4_paves.1.cls ≠ "java/lang/invoke/MethodHandle" ∧ T_X4_paves.1.cls ≠ "java/lang/invoke/VarHandle" ∧ (parseMethodDescriptor T_X4_paves.1.desc).map (fun d => d.parameters.length) = some 1 := ⟨by decide +kernel, by decide +kernel, by decide +kernel⟩
theorem kse_X4_paves : Cond.instanceMethod T_X4_paves.1 ∈ kx_tbl ∧ Cond.selects T_X4_paves.1.cls T_X4_paves.1 T_X4_paves.1 ∈ kx_tbl := ⟨(kx_tb 309 (by decide +kernel) (by decide +kernel)), (kx_tb 310 (by decide +kernel) (by decide +kernel))⟩
theorem klk_L_49 : kx_Lk RL 49 T_X4_paves 1 := ⟨kpd_X4_paves, (kx_tb 308 (by decide +kernel) (by decide +kernel)), kini_X4, kcd_X4_paves⟩
theorem kcd_X5_paves : Cond.code T_X5_paves.1 T_X5_paves.2.1 T_X5_paves.2.2.1 T_X5_paves.2.2.2.1 ∈ kx_tbl := (kx_tb 1001 (by decide +kernel) (by decide +kernel))
theorem kpd_X5_paves : T_X5_paves.1.cls ≠ "java/lang/invoke/MethodHandle" ∧ T_X5_paves.1.cls ≠ "java/lang/invoke/VarHandle" ∧ (parseMethodDescriptor T_X5_paves.1.desc).map (fun d => d.parameters.length) = some 1 := ⟨by decide +kernel, by decide +kernel, by decide +kernel⟩
theorem kse_X5_paves : Cond.instanceMethod T_X5_paves.1 ∈ kx_tbl ∧ Cond.selects T_X5_paves.1.cls T_X5_paves.1 T_X5_paves.1 ∈ kx_tbl := ⟨(kx_tb 999 (by decide +kernel) (by decide +kernel)), (kx_tb 1000 (by decide +kernel) (by decide +kernel))⟩
theorem klk_L_52 : kx_Lk RL 52 T_X5_paves 1 := ⟨kpd_X5_paves, (kx_tb 998 (by decide +kernel) (by decide +kernel)), kini_X5, kcd_X5_paves⟩
theorem kcd_X4_visitor : Cond.code T_X4_visitor.1 T_X4_visitor.2.1 T_X4_visitor.2.2.1 T_X4_visitor.2.2.2.1 ∈ kx_tbl := (kx_tb 316 (by decide +kernel) (by decide +kernel))
theorem kpd_X4_visitor : T_X4_visitor.1.cls ≠ "java/lang/invoke/MethodHandle" ∧ T_X4_visitor.1.cls ≠ "java/lang/invoke/VarHandle" ∧ (parseMethodDescriptor T_X4_visitor.1.desc).map (fun d => d.parameters.length) = some 3 := ⟨by decide +kernel, by decide +kernel, by decide +kernel⟩
theorem kse_X4_visitor : Cond.instanceMethod T_X4_visitor.1 ∈ kx_tbl ∧ Cond.selects T_X4_visitor.1.cls T_X4_visitor.1 T_X4_visitor.1 ∈ kx_tbl := ⟨(kx_tb 314 (by decide +kernel) (by decide +kernel)), (kx_tb 315 (by decide +kernel) (by decide +kernel))⟩
theorem klk_L_53 : kx_Lk RL 53 T_X4_visitor 3 := ⟨kpd_X4_visitor, (kx_tb 313 (by decide +kernel) (by decide +kernel)), kini_X4, kcd_X4_visitor⟩
theorem kcd_X5_visitor : Cond.code T_X5_visitor.1 T_X5_visitor.2.1 T_X5_visitor.2.2.1 T_X5_visitor.2.2.2.1 ∈ kx_tbl := (kx_tb 1005 (by decide +kernel) (by decide +kernel))
theorem kpd_X5_visitor : T_X5_visitor.1.cls ≠ "java/lang/invoke/MethodHandle" ∧ T_X5_visitor.1.cls ≠ "java/lang/invoke/VarHandle" ∧ (parseMethodDescriptor T_X5_visitor.1.desc).map (fun d => d.parameters.length) = some 3 := ⟨by decide +kernel, by decide +kernel, by decide +kernel⟩
theorem kse_X5_visitor : Cond.instanceMethod T_X5_visitor.1 ∈ kx_tbl ∧ Cond.selects T_X5_visitor.1.cls T_X5_visitor.1 T_X5_visitor.1 ∈ kx_tbl := ⟨(kx_tb 1003 (by decide +kernel) (by decide +kernel)), (kx_tb 1004 (by decide +kernel) (by decide +kernel))⟩
theorem klk_L_56 : kx_Lk RL 56 T_X5_visitor 3 := ⟨kpd_X5_visitor, (kx_tb 1002 (by decide +kernel) (by decide +kernel)), kini_X5, kcd_X5_visitor⟩
theorem kcd_X4_wants : Cond.code T_X4_wants.1 T_X4_wants.2.1 T_X4_wants.2.2.1 T_X4_wants.2.2.2.1 ∈ kx_tbl := (kx_tb 331 (by decide +kernel) (by decide +kernel))
theorem kpd_X4_wants : T_X4_wants.1.cls ≠ "java/lang/invoke/MethodHandle" ∧ T_X4_wants.1.cls ≠ "java/lang/invoke/VarHandle" ∧ (parseMethodDescriptor T_X4_wants.1.desc).map (fun d => d.parameters.length) = some 2 := ⟨by decide +kernel, by decide +kernel, by decide +kernel⟩
theorem kse_X4_wants : Cond.instanceMethod T_X4_wants.1 ∈ kx_tbl ∧ Cond.selects T_X4_wants.1.cls T_X4_wants.1 T_X4_wants.1 ∈ kx_tbl := ⟨(kx_tb 329 (by decide +kernel) (by decide +kernel)), (kx_tb 330 (by decide +kernel) (by decide +kernel))⟩
theorem klk_L_57 : kx_Lk RL 57 T_X4_wants 2 := ⟨kpd_X4_wants, (kx_tb 328 (by decide +kernel) (by decide +kernel)), kini_X4, kcd_X4_wants⟩
theorem kcd_X5_wants : Cond.code T_X5_wants.1 T_X5_wants.2.1 T_X5_wants.2.2.1 T_X5_wants.2.2.2.1 ∈ kx_tbl := (kx_tb 1013 (by decide +kernel) (by decide +kernel))
theorem kpd_X5_wants : T_X5_wants.1.cls ≠ "java/lang/invoke/MethodHandle" ∧ T_X5_wants.1.cls ≠ "java/lang/invoke/VarHandle" ∧ (parseMethodDescriptor T_X5_wants.1.desc).map (fun d => d.parameters.length) = some 2 := ⟨by decide +kernel, by decide +kernel, by decide +kernel⟩
theorem kse_X5_wants : Cond.instanceMethod T_X5_wants.1 ∈ kx_tbl ∧ Cond.selects T_X5_wants.1.cls T_X5_wants.1 T_X5_wants.1 ∈ kx_tbl := ⟨(kx_tb 1011 (by decide +kernel) (by decide +kernel)), (kx_tb 1012 (by decide +kernel) (by decide +kernel))⟩
theorem klk_L_60 : kx_Lk RL 60 T_X5_wants 2 := ⟨kpd_X5_wants, (kx_tb 1010 (by decide +kernel) (by decide +kernel)), kini_X5, kcd_X5_wants⟩
theorem kcd_X4_mark : Cond.code T_X4_mark.1 T_X4_mark.2.1 T_X4_mark.2.2.1 T_X4_mark.2.2.2.1 ∈ kx_tbl := (kx_tb 335 (by decide +kernel) (by decide +kernel))
theorem kpd_X4_mark : T_X4_mark.1.cls ≠ "java/lang/invoke/MethodHandle" ∧ T_X4_mark.1.cls ≠ "java/lang/invoke/VarHandle" ∧ (parseMethodDescriptor T_X4_mark.1.desc).map (fun d => d.parameters.length) = some 3 := ⟨by decide +kernel, by decide +kernel, by decide +kernel⟩
theorem kse_X4_mark : Cond.instanceMethod T_X4_mark.1 ∈ kx_tbl ∧ Cond.selects T_X4_mark.1.cls T_X4_mark.1 T_X4_mark.1 ∈ kx_tbl := ⟨(kx_tb 333 (by decide +kernel) (by decide +kernel)), (kx_tb 334 (by decide +kernel) (by decide +kernel))⟩
theorem klk_L_61 : kx_Lk RL 61 T_X4_mark 3 := ⟨kpd_X4_mark, (kx_tb 332 (by decide +kernel) (by decide +kernel)), kini_X4, kcd_X4_mark⟩
theorem kcd_X5_mark : Cond.code T_X5_mark.1 T_X5_mark.2.1 T_X5_mark.2.2.1 T_X5_mark.2.2.2.1 ∈ kx_tbl := (kx_tb 1017 (by decide +kernel) (by decide +kernel))
theorem kpd_X5_mark : T_X5_mark.1.cls ≠ "java/lang/invoke/MethodHandle" ∧ T_X5_mark.1.cls ≠ "java/lang/invoke/VarHandle" ∧ (parseMethodDescriptor T_X5_mark.1.desc).map (fun d => d.parameters.length) = some 3 := ⟨by decide +kernel, by decide +kernel, by decide +kernel⟩
theorem kse_X5_mark : Cond.instanceMethod T_X5_mark.1 ∈ kx_tbl ∧ Cond.selects T_X5_mark.1.cls T_X5_mark.1 T_X5_mark.1 ∈ kx_tbl := ⟨(kx_tb 1015 (by decide +kernel) (by decide +kernel)), (kx_tb 1016 (by decide +kernel) (by decide +kernel))⟩
theorem klk_L_64 : kx_Lk RL 64 T_X5_mark 3 := ⟨kpd_X5_mark, (kx_tb 1014 (by decide +kernel) (by decide +kernel)), kini_X5, kcd_X5_mark⟩
theorem kcd_X4_tell : Cond.code T_X4_tell.1 T_X4_tell.2.1 T_X4_tell.2.2.1 T_X4_tell.2.2.2.1 ∈ kx_tbl := (kx_tb 350 (by decide +kernel) (by decide +kernel))
theorem kpd_X4_tell : T_X4_tell.1.cls ≠ "java/lang/invoke/MethodHandle" ∧ T_X4_tell.1.cls ≠ "java/lang/invoke/VarHandle" ∧ (parseMethodDescriptor T_X4_tell.1.desc).map (fun d => d.parameters.length) = some 2 := ⟨by decide +kernel, by decide +kernel, by decide +kernel⟩
theorem kse_X4_tell : Cond.instanceMethod T_X4_tell.1 ∈ kx_tbl ∧ Cond.selects T_X4_tell.1.cls T_X4_tell.1 T_X4_tell.1 ∈ kx_tbl := ⟨(kx_tb 348 (by decide +kernel) (by decide +kernel)), (kx_tb 349 (by decide +kernel) (by decide +kernel))⟩
theorem klk_L_65 : kx_Lk RL 65 T_X4_tell 2 := ⟨kpd_X4_tell, (kx_tb 347 (by decide +kernel) (by decide +kernel)), kini_X4, kcd_X4_tell⟩
theorem kcd_X5_tell : Cond.code T_X5_tell.1 T_X5_tell.2.1 T_X5_tell.2.2.1 T_X5_tell.2.2.2.1 ∈ kx_tbl := (kx_tb 1025 (by decide +kernel) (by decide +kernel))
theorem kpd_X5_tell : T_X5_tell.1.cls ≠ "java/lang/invoke/MethodHandle" ∧ T_X5_tell.1.cls ≠ "java/lang/invoke/VarHandle" ∧ (parseMethodDescriptor T_X5_tell.1.desc).map (fun d => d.parameters.length) = some 2 := ⟨by decide +kernel, by decide +kernel, by decide +kernel⟩
theorem kse_X5_tell : Cond.instanceMethod T_X5_tell.1 ∈ kx_tbl ∧ Cond.selects T_X5_tell.1.cls T_X5_tell.1 T_X5_tell.1 ∈ kx_tbl := ⟨(kx_tb 1023 (by decide +kernel) (by decide +kernel)), (kx_tb 1024 (by decide +kernel) (by decide +kernel))⟩
theorem klk_L_68 : kx_Lk RL 68 T_X5_tell 2 := ⟨kpd_X5_tell, (kx_tb 1022 (by decide +kernel) (by decide +kernel)), kini_X5, kcd_X5_tell⟩
theorem kcd_X4_feed : Cond.code T_X4_feed.1 T_X4_feed.2.1 T_X4_feed.2.2.1 T_X4_feed.2.2.2.1 ∈ kx_tbl := (kx_tb 354 (by decide +kernel) (by decide +kernel))
theorem kpd_X4_feed : T_X4_feed.1.cls ≠ "java/lang/invoke/MethodHandle" ∧ T_X4_feed.1.cls ≠ "java/lang/invoke/VarHandle" ∧ (parseMethodDescriptor T_X4_feed.1.desc).map (fun d => d.parameters.length) = some 1 := ⟨by decide +kernel, by decide +kernel, by decide +kernel⟩
theorem kse_X4_feed : Cond.instanceMethod T_X4_feed.1 ∈ kx_tbl ∧ Cond.selects T_X4_feed.1.cls T_X4_feed.1 T_X4_feed.1 ∈ kx_tbl := ⟨(kx_tb 352 (by decide +kernel) (by decide +kernel)), (kx_tb 353 (by decide +kernel) (by decide +kernel))⟩
theorem klk_L_69 : kx_Lk RL 69 T_X4_feed 1 := ⟨kpd_X4_feed, (kx_tb 351 (by decide +kernel) (by decide +kernel)), kini_X4, kcd_X4_feed⟩
theorem kcd_X5_feed : Cond.code T_X5_feed.1 T_X5_feed.2.1 T_X5_feed.2.2.1 T_X5_feed.2.2.2.1 ∈ kx_tbl := (kx_tb 1029 (by decide +kernel) (by decide +kernel))
theorem kpd_X5_feed : T_X5_feed.1.cls ≠ "java/lang/invoke/MethodHandle" ∧ T_X5_feed.1.cls ≠ "java/lang/invoke/VarHandle" ∧ (parseMethodDescriptor T_X5_feed.1.desc).map (fun d => d.parameters.length) = some 1 := ⟨by decide +kernel, by decide +kernel, by decide +kernel⟩
theorem kse_X5_feed : Cond.instanceMethod T_X5_feed.1 ∈ kx_tbl ∧ Cond.selects T_X5_feed.1.cls T_X5_feed.1 T_X5_feed.1 ∈ kx_tbl := ⟨(kx_tb 1027 (by decide +kernel) (by decide +kernel)), (kx_tb 1028 (by decide +kernel) (by decide +kernel))⟩
theorem klk_L_72 : kx_Lk RL 72 T_X5_feed 1 := ⟨kpd_X5_feed, (kx_tb 1026 (by decide +kernel) (by decide +kernel)), kini_X5, kcd_X5_feed⟩
theorem kcd_X4_wipe : Cond.code T_X4_wipe.1 T_X4_wipe.2.1 T_X4_wipe.2.2.1 T_X4_wipe.2.2.2.1 ∈ kx_tbl := (kx_tb 366 (by decide +kernel) (by decide +kernel))
theorem kpd_X4_wipe : T_X4_wipe.1.cls ≠ "java/lang/invoke/MethodHandle" ∧ T_X4_wipe.1.cls ≠ "java/lang/invoke/VarHandle" ∧ (parseMethodDescriptor T_X4_wipe.1.desc).map (fun d => d.parameters.length) = some 0 := ⟨by decide +kernel, by decide +kernel, by decide +kernel⟩
theorem kse_X4_wipe : Cond.instanceMethod T_X4_wipe.1 ∈ kx_tbl ∧ Cond.selects T_X4_wipe.1.cls T_X4_wipe.1 T_X4_wipe.1 ∈ kx_tbl := ⟨(kx_tb 364 (by decide +kernel) (by decide +kernel)), (kx_tb 365 (by decide +kernel) (by decide +kernel))⟩
theorem klk_L_73 : kx_Lk RL 73 T_X4_wipe 0 := ⟨kpd_X4_wipe, (kx_tb 363 (by decide +kernel) (by decide +kernel)), kini_X4, kcd_X4_wipe⟩
theorem kcd_X5_wipe : Cond.code T_X5_wipe.1 T_X5_wipe.2.1 T_X5_wipe.2.2.1 T_X5_wipe.2.2.2.1 ∈ kx_tbl := (kx_tb 1033 (by decide +kernel) (by decide +kernel))
theorem kpd_X5_wipe : T_X5_wipe.1.cls ≠ "java/lang/invoke/MethodHandle" ∧ T_X5_wipe.1.cls ≠ "java/lang/invoke/VarHandle" ∧ (parseMethodDescriptor T_X5_wipe.1.desc).map (fun d => d.parameters.length) = some 0 := ⟨by decide +kernel, by decide +kernel, by decide +kernel⟩
theorem kse_X5_wipe : Cond.instanceMethod T_X5_wipe.1 ∈ kx_tbl ∧ Cond.selects T_X5_wipe.1.cls T_X5_wipe.1 T_X5_wipe.1 ∈ kx_tbl := ⟨(kx_tb 1031 (by decide +kernel) (by decide +kernel)), (kx_tb 1032 (by decide +kernel) (by decide +kernel))⟩
theorem klk_L_77 : kx_Lk RL 77 T_X5_wipe 0 := ⟨kpd_X5_wipe, (kx_tb 1030 (by decide +kernel) (by decide +kernel)), kini_X5, kcd_X5_wipe⟩
theorem kcd_X4_view : Cond.code T_X4_view.1 T_X4_view.2.1 T_X4_view.2.2.1 T_X4_view.2.2.2.1 ∈ kx_tbl := (kx_tb 370 (by decide +kernel) (by decide +kernel))
theorem kpd_X4_view : T_X4_view.1.cls ≠ "java/lang/invoke/MethodHandle" ∧ T_X4_view.1.cls ≠ "java/lang/invoke/VarHandle" ∧ (parseMethodDescriptor T_X4_view.1.desc).map (fun d => d.parameters.length) = some 0 := ⟨by decide +kernel, by decide +kernel, by decide +kernel⟩
theorem kse_X4_view : Cond.instanceMethod T_X4_view.1 ∈ kx_tbl ∧ Cond.selects T_X4_view.1.cls T_X4_view.1 T_X4_view.1 ∈ kx_tbl := ⟨(kx_tb 368 (by decide +kernel) (by decide +kernel)), (kx_tb 369 (by decide +kernel) (by decide +kernel))⟩
theorem klk_L_78 : kx_Lk RL 78 T_X4_view 0 := ⟨kpd_X4_view, (kx_tb 367 (by decide +kernel) (by decide +kernel)), kini_X4, kcd_X4_view⟩
theorem kcd_X5_view : Cond.code T_X5_view.1 T_X5_view.2.1 T_X5_view.2.2.1 T_X5_view.2.2.2.1 ∈ kx_tbl := (kx_tb 1037 (by decide +kernel) (by decide +kernel))
theorem kpd_X5_view : T_X5_view.1.cls ≠ "java/lang/invoke/MethodHandle" ∧ T_X5_view.1.cls ≠ "java/lang/invoke/VarHandle" ∧ (parseMethodDescriptor T_X5_view.1.desc).map (fun d => d.parameters.length) = some 0 := ⟨by decide +kernel, by decide +kernel, by decide +kernel⟩
theorem kse_X5_view : Cond.instanceMethod T_X5_view.1 ∈ kx_tbl ∧ Cond.selects T_X5_view.1.cls T_X5_view.1 T_X5_view.1 ∈ kx_tbl := ⟨(kx_tb 1035 (by decide +kernel) (by decide +kernel)), (kx_tb 1036 (by decide +kernel) (by decide +kernel))⟩
theorem klk_L_81 : kx_Lk RL 81 T_X5_view 0 := ⟨kpd_X5_view, (kx_tb 1034 (by decide +kernel) (by decide +kernel)), kini_X5, kcd_X5_view⟩
theorem kcd_X4_visitorOf : Cond.code T_X4_visitorOf.1 T_X4_visitorOf.2.1 T_X4_visitorOf.2.2.1 T_X4_visitorOf.2.2.2.1 ∈ kx_tbl := (kx_tb 491 (by decide +kernel) (by decide +kernel))
theorem kpd_X4_visitorOf : T_X4_visitorOf.1.cls ≠ "java/lang/invoke/MethodHandle" ∧ T_X4_visitorOf.1.cls ≠ "java/lang/invoke/VarHandle" ∧ (parseMethodDescriptor T_X4_visitorOf.1.desc).map (fun d => d.parameters.length) = some 2 := ⟨by decide +kernel, by decide +kernel, by decide +kernel⟩
theorem kse_X4_visitorOf : Cond.instanceMethod T_X4_visitorOf.1 ∈ kx_tbl ∧ Cond.selects T_X4_visitorOf.1.cls T_X4_visitorOf.1 T_X4_visitorOf.1 ∈ kx_tbl := ⟨(kx_tb 489 (by decide +kernel) (by decide +kernel)), (kx_tb 490 (by decide +kernel) (by decide +kernel))⟩
theorem klk_L_82 : kx_Lk RL 82 T_X4_visitorOf 2 := ⟨kpd_X4_visitorOf, (kx_tb 488 (by decide +kernel) (by decide +kernel)), kini_X4, kcd_X4_visitorOf⟩
theorem kcd_X5_visitorOf : Cond.code T_X5_visitorOf.1 T_X5_visitorOf.2.1 T_X5_visitorOf.2.2.1 T_X5_visitorOf.2.2.2.1 ∈ kx_tbl := (kx_tb 1088 (by decide +kernel) (by decide +kernel))
theorem kpd_X5_visitorOf : T_X5_visitorOf.1.cls ≠ "java/lang/invoke/MethodHandle" ∧ T_X5_visitorOf.1.cls ≠ "java/lang/invoke/VarHandle" ∧ (parseMethodDescriptor T_X5_visitorOf.1.desc).map (fun d => d.parameters.length) = some 2 := ⟨by decide +kernel, by decide +kernel, by decide +kernel⟩
theorem kse_X5_visitorOf : Cond.instanceMethod T_X5_visitorOf.1 ∈ kx_tbl ∧ Cond.selects T_X5_visitorOf.1.cls T_X5_visitorOf.1 T_X5_visitorOf.1 ∈ kx_tbl := ⟨(kx_tb 1086 (by decide +kernel) (by decide +kernel)), (kx_tb 1087 (by decide +kernel) (by decide +kernel))⟩
theorem klk_L_85 : kx_Lk RL 85 T_X5_visitorOf 2 := ⟨kpd_X5_visitorOf, (kx_tb 1085 (by decide +kernel) (by decide +kernel)), kini_X5, kcd_X5_visitorOf⟩
theorem kcd_X4_cellOf : Cond.code T_X4_cellOf.1 T_X4_cellOf.2.1 T_X4_cellOf.2.2.1 T_X4_cellOf.2.2.2.1 ∈ kx_tbl := (kx_tb 496 (by decide +kernel) (by decide +kernel))
theorem kpd_X4_cellOf : T_X4_cellOf.1.cls ≠ "java/lang/invoke/MethodHandle" ∧ T_X4_cellOf.1.cls ≠ "java/lang/invoke/VarHandle" ∧ (parseMethodDescriptor T_X4_cellOf.1.desc).map (fun d => d.parameters.length) = some 2 := ⟨by decide +kernel, by decide +kernel, by decide +kernel⟩
theorem kse_X4_cellOf : Cond.instanceMethod T_X4_cellOf.1 ∈ kx_tbl ∧ Cond.selects T_X4_cellOf.1.cls T_X4_cellOf.1 T_X4_cellOf.1 ∈ kx_tbl := ⟨(kx_tb 494 (by decide +kernel) (by decide +kernel)), (kx_tb 495 (by decide +kernel) (by decide +kernel))⟩
theorem klk_L_86 : kx_Lk RL 86 T_X4_cellOf 2 := ⟨kpd_X4_cellOf, (kx_tb 493 (by decide +kernel) (by decide +kernel)), kini_X4, kcd_X4_cellOf⟩
theorem kcd_X5_cellOf : Cond.code T_X5_cellOf.1 T_X5_cellOf.2.1 T_X5_cellOf.2.2.1 T_X5_cellOf.2.2.2.1 ∈ kx_tbl := (kx_tb 1092 (by decide +kernel) (by decide +kernel))
theorem kpd_X5_cellOf : T_X5_cellOf.1.cls ≠ "java/lang/invoke/MethodHandle" ∧ T_X5_cellOf.1.cls ≠ "java/lang/invoke/VarHandle" ∧ (parseMethodDescriptor T_X5_cellOf.1.desc).map (fun d => d.parameters.length) = some 2 := ⟨by decide +kernel, by decide +kernel, by decide +kernel⟩
theorem kse_X5_cellOf : Cond.instanceMethod T_X5_cellOf.1 ∈ kx_tbl ∧ Cond.selects T_X5_cellOf.1.cls T_X5_cellOf.1 T_X5_cellOf.1 ∈ kx_tbl := ⟨(kx_tb 1090 (by decide +kernel) (by decide +kernel)), (kx_tb 1091 (by decide +kernel) (by decide +kernel))⟩
theorem klk_L_89 : kx_Lk RL 89 T_X5_cellOf 2 := ⟨kpd_X5_cellOf, (kx_tb 1089 (by decide +kernel) (by decide +kernel)), kini_X5, kcd_X5_cellOf⟩
theorem kcd_X4_open : Cond.code T_X4_open.1 T_X4_open.2.1 T_X4_open.2.2.1 T_X4_open.2.2.2.1 ∈ kx_tbl := (kx_tb 507 (by decide +kernel) (by decide +kernel))
theorem kpd_X4_open : T_X4_open.1.cls ≠ "java/lang/invoke/MethodHandle" ∧ T_X4_open.1.cls ≠ "java/lang/invoke/VarHandle" ∧ (parseMethodDescriptor T_X4_open.1.desc).map (fun d => d.parameters.length) = some 2 := ⟨by decide +kernel, by decide +kernel, by decide +kernel⟩
theorem kse_X4_open : Cond.instanceMethod T_X4_open.1 ∈ kx_tbl ∧ Cond.selects T_X4_open.1.cls T_X4_open.1 T_X4_open.1 ∈ kx_tbl := ⟨(kx_tb 505 (by decide +kernel) (by decide +kernel)), (kx_tb 506 (by decide +kernel) (by decide +kernel))⟩
theorem klk_L_90 : kx_Lk RL 90 T_X4_open 2 := ⟨kpd_X4_open, (kx_tb 504 (by decide +kernel) (by decide +kernel)), kini_X4, kcd_X4_open⟩
theorem kcd_X5_open : Cond.code T_X5_open.1 T_X5_open.2.1 T_X5_open.2.2.1 T_X5_open.2.2.2.1 ∈ kx_tbl := (kx_tb 1100 (by decide +kernel) (by decide +kernel))
theorem kpd_X5_open : T_X5_open.1.cls ≠ "java/lang/invoke/MethodHandle" ∧ T_X5_open.1.cls ≠ "java/lang/invoke/VarHandle" ∧ (parseMethodDescriptor T_X5_open.1.desc).map (fun d => d.parameters.length) = some 2 := ⟨by decide +kernel, by decide +kernel, by decide +kernel⟩
theorem kse_X5_open : Cond.instanceMethod T_X5_open.1 ∈ kx_tbl ∧ Cond.selects T_X5_open.1.cls T_X5_open.1 T_X5_open.1 ∈ kx_tbl := ⟨(kx_tb 1098 (by decide +kernel) (by decide +kernel)), (kx_tb 1099 (by decide +kernel) (by decide +kernel))⟩
theorem klk_L_93 : kx_Lk RL 93 T_X5_open 2 := ⟨kpd_X5_open, (kx_tb 1097 (by decide +kernel) (by decide +kernel)), kini_X5, kcd_X5_open⟩
theorem kcd_X4_shown : Cond.code T_X4_shown.1 T_X4_shown.2.1 T_X4_shown.2.2.1 T_X4_shown.2.2.2.1 ∈ kx_tbl := (kx_tb 524 (by decide +kernel) (by decide +kernel))
theorem kpd_X4_shown : T_X4_shown.1.cls ≠ "java/lang/invoke/MethodHandle" ∧ T_X4_shown.1.cls ≠ "java/lang/invoke/VarHandle" ∧ (parseMethodDescriptor T_X4_shown.1.desc).map (fun d => d.parameters.length) = some 2 := ⟨by decide +kernel, by decide +kernel, by decide +kernel⟩
theorem kse_X4_shown : Cond.instanceMethod T_X4_shown.1 ∈ kx_tbl ∧ Cond.selects T_X4_shown.1.cls T_X4_shown.1 T_X4_shown.1 ∈ kx_tbl := ⟨(kx_tb 522 (by decide +kernel) (by decide +kernel)), (kx_tb 523 (by decide +kernel) (by decide +kernel))⟩
theorem klk_L_94 : kx_Lk RL 94 T_X4_shown 2 := ⟨kpd_X4_shown, (kx_tb 521 (by decide +kernel) (by decide +kernel)), kini_X4, kcd_X4_shown⟩
theorem kcd_X5_shown : Cond.code T_X5_shown.1 T_X5_shown.2.1 T_X5_shown.2.2.1 T_X5_shown.2.2.2.1 ∈ kx_tbl := (kx_tb 1108 (by decide +kernel) (by decide +kernel))
theorem kpd_X5_shown : T_X5_shown.1.cls ≠ "java/lang/invoke/MethodHandle" ∧ T_X5_shown.1.cls ≠ "java/lang/invoke/VarHandle" ∧ (parseMethodDescriptor T_X5_shown.1.desc).map (fun d => d.parameters.length) = some 2 := ⟨by decide +kernel, by decide +kernel, by decide +kernel⟩
theorem kse_X5_shown : Cond.instanceMethod T_X5_shown.1 ∈ kx_tbl ∧ Cond.selects T_X5_shown.1.cls T_X5_shown.1 T_X5_shown.1 ∈ kx_tbl := ⟨(kx_tb 1106 (by decide +kernel) (by decide +kernel)), (kx_tb 1107 (by decide +kernel) (by decide +kernel))⟩
theorem klk_L_97 : kx_Lk RL 97 T_X5_shown 2 := ⟨kpd_X5_shown, (kx_tb 1105 (by decide +kernel) (by decide +kernel)), kini_X5, kcd_X5_shown⟩
theorem kcd_X4_known : Cond.code T_X4_known.1 T_X4_known.2.1 T_X4_known.2.2.1 T_X4_known.2.2.2.1 ∈ kx_tbl := (kx_tb 533 (by decide +kernel) (by decide +kernel))
theorem kpd_X4_known : T_X4_known.1.cls ≠ "java/lang/invoke/MethodHandle" ∧ T_X4_known.1.cls ≠ "java/lang/invoke/VarHandle" ∧ (parseMethodDescriptor T_X4_known.1.desc).map (fun d => d.parameters.length) = some 1 := ⟨by decide +kernel, by decide +kernel, by decide +kernel⟩
theorem kse_X4_known : Cond.instanceMethod T_X4_known.1 ∈ kx_tbl ∧ Cond.selects T_X4_known.1.cls T_X4_known.1 T_X4_known.1 ∈ kx_tbl := ⟨(kx_tb 531 (by decide +kernel) (by decide +kernel)), (kx_tb 532 (by decide +kernel) (by decide +kernel))⟩
theorem klk_L_98 : kx_Lk RL 98 T_X4_known 1 := ⟨kpd_X4_known, (kx_tb 530 (by decide +kernel) (by decide +kernel)), kini_X4, kcd_X4_known⟩
theorem kcd_X5_known : Cond.code T_X5_known.1 T_X5_known.2.1 T_X5_known.2.2.1 T_X5_known.2.2.2.1 ∈ kx_tbl := (kx_tb 1116 (by decide +kernel) (by decide +kernel))
theorem kpd_X5_known : T_X5_known.1.cls ≠ "java/lang/invoke/MethodHandle" ∧ T_X5_known.1.cls ≠ "java/lang/invoke/VarHandle" ∧ (parseMethodDescriptor T_X5_known.1.desc).map (fun d => d.parameters.length) = some 1 := ⟨by decide +kernel, by decide +kernel, by decide +kernel⟩
theorem kse_X5_known : Cond.instanceMethod T_X5_known.1 ∈ kx_tbl ∧ Cond.selects T_X5_known.1.cls T_X5_known.1 T_X5_known.1 ∈ kx_tbl := ⟨(kx_tb 1114 (by decide +kernel) (by decide +kernel)), (kx_tb 1115 (by decide +kernel) (by decide +kernel))⟩
theorem klk_L_101 : kx_Lk RL 101 T_X5_known 1 := ⟨kpd_X5_known, (kx_tb 1113 (by decide +kernel) (by decide +kernel)), kini_X5, kcd_X5_known⟩
theorem kcd_X4_fresh : Cond.code T_X4_fresh.1 T_X4_fresh.2.1 T_X4_fresh.2.2.1 T_X4_fresh.2.2.2.1 ∈ kx_tbl := (kx_tb 542 (by decide +kernel) (by decide +kernel))
theorem kpd_X4_fresh : T_X4_fresh.1.cls ≠ "java/lang/invoke/MethodHandle" ∧ T_X4_fresh.1.cls ≠ "java/lang/invoke/VarHandle" ∧ (parseMethodDescriptor T_X4_fresh.1.desc).map (fun d => d.parameters.length) = some 1 := ⟨by decide +kernel, by decide +kernel, by decide +kernel⟩
theorem kse_X4_fresh : Cond.instanceMethod T_X4_fresh.1 ∈ kx_tbl ∧ Cond.selects T_X4_fresh.1.cls T_X4_fresh.1 T_X4_fresh.1 ∈ kx_tbl := ⟨(kx_tb 540 (by decide +kernel) (by decide +kernel)), (kx_tb 541 (by decide +kernel) (by decide +kernel))⟩
theorem klk_L_102 : kx_Lk RL 102 T_X4_fresh 1 := ⟨kpd_X4_fresh, (kx_tb 539 (by decide +kernel) (by decide +kernel)), kini_X4, kcd_X4_fresh⟩
theorem kcd_X5_fresh : Cond.code T_X5_fresh.1 T_X5_fresh.2.1 T_X5_fresh.2.2.1 T_X5_fresh.2.2.2.1 ∈ kx_tbl := (kx_tb 1124 (by decide +kernel) (by decide +kernel))
theorem kpd_X5_fresh : T_X5_fresh.1.cls ≠ "java/lang/invoke/MethodHandle" ∧ T_X5_fresh.1.cls ≠ "java/lang/invoke/VarHandle" ∧ (parseMethodDescriptor T_X5_fresh.1.desc).map (fun d => d.parameters.length) = some 1 := ⟨by decide +kernel, by decide +kernel, by decide +kernel⟩
theorem kse_X5_fresh : Cond.instanceMethod T_X5_fresh.1 ∈ kx_tbl ∧ Cond.selects T_X5_fresh.1.cls T_X5_fresh.1 T_X5_fresh.1 ∈ kx_tbl := ⟨(kx_tb 1122 (by decide +kernel) (by decide +kernel)), (kx_tb 1123 (by decide +kernel) (by decide +kernel))⟩
theorem klk_L_105 : kx_Lk RL 105 T_X5_fresh 1 := ⟨kpd_X5_fresh, (kx_tb 1121 (by decide +kernel) (by decide +kernel)), kini_X5, kcd_X5_fresh⟩
theorem kcd_X4_veilThen : Cond.code T_X4_veilThen.1 T_X4_veilThen.2.1 T_X4_veilThen.2.2.1 T_X4_veilThen.2.2.2.1 ∈ kx_tbl := (kx_tb 556 (by decide +kernel) (by decide +kernel))
theorem kpd_X4_veilThen : T_X4_veilThen.1.cls ≠ "java/lang/invoke/MethodHandle" ∧ T_X4_veilThen.1.cls ≠ "java/lang/invoke/VarHandle" ∧ (parseMethodDescriptor T_X4_veilThen.1.desc).map (fun d => d.parameters.length) = some 1 := ⟨by decide +kernel, by decide +kernel, by decide +kernel⟩
theorem kse_X4_veilThen : Cond.instanceMethod T_X4_veilThen.1 ∈ kx_tbl ∧ Cond.selects T_X4_veilThen.1.cls T_X4_veilThen.1 T_X4_veilThen.1 ∈ kx_tbl := ⟨(kx_tb 554 (by decide +kernel) (by decide +kernel)), (kx_tb 555 (by decide +kernel) (by decide +kernel))⟩
theorem klk_L_106 : kx_Lk RL 106 T_X4_veilThen 1 := ⟨kpd_X4_veilThen, (kx_tb 553 (by decide +kernel) (by decide +kernel)), kini_X4, kcd_X4_veilThen⟩
theorem kcd_X5_veilThen : Cond.code T_X5_veilThen.1 T_X5_veilThen.2.1 T_X5_veilThen.2.2.1 T_X5_veilThen.2.2.2.1 ∈ kx_tbl := (kx_tb 1140 (by decide +kernel) (by decide +kernel))
theorem kpd_X5_veilThen : T_X5_veilThen.1.cls ≠ "java/lang/invoke/MethodHandle" ∧ T_X5_veilThen.1.cls ≠ "java/lang/invoke/VarHandle" ∧ (parseMethodDescriptor T_X5_veilThen.1.desc).map (fun d => d.parameters.length) = some 1 := ⟨by decide +kernel, by decide +kernel, by decide +kernel⟩
theorem kse_X5_veilThen : Cond.instanceMethod T_X5_veilThen.1 ∈ kx_tbl ∧ Cond.selects T_X5_veilThen.1.cls T_X5_veilThen.1 T_X5_veilThen.1 ∈ kx_tbl := ⟨(kx_tb 1138 (by decide +kernel) (by decide +kernel)), (kx_tb 1139 (by decide +kernel) (by decide +kernel))⟩
theorem klk_L_109 : kx_Lk RL 109 T_X5_veilThen 1 := ⟨kpd_X5_veilThen, (kx_tb 1137 (by decide +kernel) (by decide +kernel)), kini_X5, kcd_X5_veilThen⟩
theorem kcd_X4_send : Cond.code T_X4_send.1 T_X4_send.2.1 T_X4_send.2.2.1 T_X4_send.2.2.2.1 ∈ kx_tbl := (kx_tb 568 (by decide +kernel) (by decide +kernel))
theorem kpd_X4_send : T_X4_send.1.cls ≠ "java/lang/invoke/MethodHandle" ∧ T_X4_send.1.cls ≠ "java/lang/invoke/VarHandle" ∧ (parseMethodDescriptor T_X4_send.1.desc).map (fun d => d.parameters.length) = some 1 := ⟨by decide +kernel, by decide +kernel, by decide +kernel⟩
theorem kse_X4_send : Cond.instanceMethod T_X4_send.1 ∈ kx_tbl ∧ Cond.selects T_X4_send.1.cls T_X4_send.1 T_X4_send.1 ∈ kx_tbl := ⟨(kx_tb 566 (by decide +kernel) (by decide +kernel)), (kx_tb 567 (by decide +kernel) (by decide +kernel))⟩
theorem klk_L_110 : kx_Lk RL 110 T_X4_send 1 := ⟨kpd_X4_send, (kx_tb 565 (by decide +kernel) (by decide +kernel)), kini_X4, kcd_X4_send⟩
theorem kcd_X5_send : Cond.code T_X5_send.1 T_X5_send.2.1 T_X5_send.2.2.1 T_X5_send.2.2.2.1 ∈ kx_tbl := (kx_tb 1148 (by decide +kernel) (by decide +kernel))
theorem kpd_X5_send : T_X5_send.1.cls ≠ "java/lang/invoke/MethodHandle" ∧ T_X5_send.1.cls ≠ "java/lang/invoke/VarHandle" ∧ (parseMethodDescriptor T_X5_send.1.desc).map (fun d => d.parameters.length) = some 1 := ⟨by decide +kernel, by decide +kernel, by decide +kernel⟩
theorem kse_X5_send : Cond.instanceMethod T_X5_send.1 ∈ kx_tbl ∧ Cond.selects T_X5_send.1.cls T_X5_send.1 T_X5_send.1 ∈ kx_tbl := ⟨(kx_tb 1146 (by decide +kernel) (by decide +kernel)), (kx_tb 1147 (by decide +kernel) (by decide +kernel))⟩
theorem klk_L_113 : kx_Lk RL 113 T_X5_send 1 := ⟨kpd_X5_send, (kx_tb 1145 (by decide +kernel) (by decide +kernel)), kini_X5, kcd_X5_send⟩
theorem kcd_X4_fewest : Cond.code T_X4_fewest.1 T_X4_fewest.2.1 T_X4_fewest.2.2.1 T_X4_fewest.2.2.2.1 ∈ kx_tbl := (kx_tb 573 (by decide +kernel) (by decide +kernel))
theorem kpd_X4_fewest : T_X4_fewest.1.cls ≠ "java/lang/invoke/MethodHandle" ∧ T_X4_fewest.1.cls ≠ "java/lang/invoke/VarHandle" ∧ (parseMethodDescriptor T_X4_fewest.1.desc).map (fun d => d.parameters.length) = some 1 := ⟨by decide +kernel, by decide +kernel, by decide +kernel⟩
theorem kse_X4_fewest : Cond.instanceMethod T_X4_fewest.1 ∈ kx_tbl ∧ Cond.selects T_X4_fewest.1.cls T_X4_fewest.1 T_X4_fewest.1 ∈ kx_tbl := ⟨(kx_tb 571 (by decide +kernel) (by decide +kernel)), (kx_tb 572 (by decide +kernel) (by decide +kernel))⟩
theorem klk_L_114 : kx_Lk RL 114 T_X4_fewest 1 := ⟨kpd_X4_fewest, (kx_tb 570 (by decide +kernel) (by decide +kernel)), kini_X4, kcd_X4_fewest⟩
theorem kcd_X5_fewest : Cond.code T_X5_fewest.1 T_X5_fewest.2.1 T_X5_fewest.2.2.1 T_X5_fewest.2.2.2.1 ∈ kx_tbl := (kx_tb 1152 (by decide +kernel) (by decide +kernel))
theorem kpd_X5_fewest : T_X5_fewest.1.cls ≠ "java/lang/invoke/MethodHandle" ∧ T_X5_fewest.1.cls ≠ "java/lang/invoke/VarHandle" ∧ (parseMethodDescriptor T_X5_fewest.1.desc).map (fun d => d.parameters.length) = some 1 := ⟨by decide +kernel, by decide +kernel, by decide +kernel⟩
theorem kse_X5_fewest : Cond.instanceMethod T_X5_fewest.1 ∈ kx_tbl ∧ Cond.selects T_X5_fewest.1.cls T_X5_fewest.1 T_X5_fewest.1 ∈ kx_tbl := ⟨(kx_tb 1150 (by decide +kernel) (by decide +kernel)), (kx_tb 1151 (by decide +kernel) (by decide +kernel))⟩
theorem klk_L_117 : kx_Lk RL 117 T_X5_fewest 1 := ⟨kpd_X5_fewest, (kx_tb 1149 (by decide +kernel) (by decide +kernel)), kini_X5, kcd_X5_fewest⟩
theorem kcd_X4_order : Cond.code T_X4_order.1 T_X4_order.2.1 T_X4_order.2.2.1 T_X4_order.2.2.2.1 ∈ kx_tbl := (kx_tb 586 (by decide +kernel) (by decide +kernel))
theorem kpd_X4_order : T_X4_order.1.cls ≠ "java/lang/invoke/MethodHandle" ∧ T_X4_order.1.cls ≠ "java/lang/invoke/VarHandle" ∧ (parseMethodDescriptor T_X4_order.1.desc).map (fun d => d.parameters.length) = some 2 := ⟨by decide +kernel, by decide +kernel, by decide +kernel⟩
theorem kse_X4_order : Cond.instanceMethod T_X4_order.1 ∈ kx_tbl ∧ Cond.selects T_X4_order.1.cls T_X4_order.1 T_X4_order.1 ∈ kx_tbl := ⟨(kx_tb 584 (by decide +kernel) (by decide +kernel)), (kx_tb 585 (by decide +kernel) (by decide +kernel))⟩
theorem klk_L_118 : kx_Lk RL 118 T_X4_order 2 := ⟨kpd_X4_order, (kx_tb 583 (by decide +kernel) (by decide +kernel)), kini_X4, kcd_X4_order⟩
theorem kcd_X5_order : Cond.code T_X5_order.1 T_X5_order.2.1 T_X5_order.2.2.1 T_X5_order.2.2.2.1 ∈ kx_tbl := (kx_tb 1160 (by decide +kernel) (by decide +kernel))
theorem kpd_X5_order : T_X5_order.1.cls ≠ "java/lang/invoke/MethodHandle" ∧ T_X5_order.1.cls ≠ "java/lang/invoke/VarHandle" ∧ (parseMethodDescriptor T_X5_order.1.desc).map (fun d => d.parameters.length) = some 2 := ⟨by decide +kernel, by decide +kernel, by decide +kernel⟩
theorem kse_X5_order : Cond.instanceMethod T_X5_order.1 ∈ kx_tbl ∧ Cond.selects T_X5_order.1.cls T_X5_order.1 T_X5_order.1 ∈ kx_tbl := ⟨(kx_tb 1158 (by decide +kernel) (by decide +kernel)), (kx_tb 1159 (by decide +kernel) (by decide +kernel))⟩
theorem klk_L_121 : kx_Lk RL 121 T_X5_order 2 := ⟨kpd_X5_order, (kx_tb 1157 (by decide +kernel) (by decide +kernel)), kini_X5, kcd_X5_order⟩
theorem kcd_X4_how : Cond.code T_X4_how.1 T_X4_how.2.1 T_X4_how.2.2.1 T_X4_how.2.2.2.1 ∈ kx_tbl := (kx_tb 611 (by decide +kernel) (by decide +kernel))
theorem kpd_X4_how : T_X4_how.1.cls ≠ "java/lang/invoke/MethodHandle" ∧ T_X4_how.1.cls ≠ "java/lang/invoke/VarHandle" ∧ (parseMethodDescriptor T_X4_how.1.desc).map (fun d => d.parameters.length) = some 2 := ⟨by decide +kernel, by decide +kernel, by decide +kernel⟩
theorem kse_X4_how : Cond.instanceMethod T_X4_how.1 ∈ kx_tbl ∧ Cond.selects T_X4_how.1.cls T_X4_how.1 T_X4_how.1 ∈ kx_tbl := ⟨(kx_tb 609 (by decide +kernel) (by decide +kernel)), (kx_tb 610 (by decide +kernel) (by decide +kernel))⟩
theorem klk_L_122 : kx_Lk RL 122 T_X4_how 2 := ⟨kpd_X4_how, (kx_tb 608 (by decide +kernel) (by decide +kernel)), kini_X4, kcd_X4_how⟩
theorem kcd_X5_how : Cond.code T_X5_how.1 T_X5_how.2.1 T_X5_how.2.2.1 T_X5_how.2.2.2.1 ∈ kx_tbl := (kx_tb 1176 (by decide +kernel) (by decide +kernel))
theorem kpd_X5_how : T_X5_how.1.cls ≠ "java/lang/invoke/MethodHandle" ∧ T_X5_how.1.cls ≠ "java/lang/invoke/VarHandle" ∧ (parseMethodDescriptor T_X5_how.1.desc).map (fun d => d.parameters.length) = some 2 := ⟨by decide +kernel, by decide +kernel, by decide +kernel⟩
theorem kse_X5_how : Cond.instanceMethod T_X5_how.1 ∈ kx_tbl ∧ Cond.selects T_X5_how.1.cls T_X5_how.1 T_X5_how.1 ∈ kx_tbl := ⟨(kx_tb 1174 (by decide +kernel) (by decide +kernel)), (kx_tb 1175 (by decide +kernel) (by decide +kernel))⟩
theorem klk_L_125 : kx_Lk RL 125 T_X5_how 2 := ⟨kpd_X5_how, (kx_tb 1173 (by decide +kernel) (by decide +kernel)), kini_X5, kcd_X5_how⟩
theorem kcd_X4_lifted : Cond.code T_X4_lifted.1 T_X4_lifted.2.1 T_X4_lifted.2.2.1 T_X4_lifted.2.2.2.1 ∈ kx_tbl := (kx_tb 624 (by decide +kernel) (by decide +kernel))
theorem kpd_X4_lifted : T_X4_lifted.1.cls ≠ "java/lang/invoke/MethodHandle" ∧ T_X4_lifted.1.cls ≠ "java/lang/invoke/VarHandle" ∧ (parseMethodDescriptor T_X4_lifted.1.desc).map (fun d => d.parameters.length) = some 3 := ⟨by decide +kernel, by decide +kernel, by decide +kernel⟩
theorem kse_X4_lifted : Cond.instanceMethod T_X4_lifted.1 ∈ kx_tbl ∧ Cond.selects T_X4_lifted.1.cls T_X4_lifted.1 T_X4_lifted.1 ∈ kx_tbl := ⟨(kx_tb 622 (by decide +kernel) (by decide +kernel)), (kx_tb 623 (by decide +kernel) (by decide +kernel))⟩
theorem klk_L_126 : kx_Lk RL 126 T_X4_lifted 3 := ⟨kpd_X4_lifted, (kx_tb 621 (by decide +kernel) (by decide +kernel)), kini_X4, kcd_X4_lifted⟩
theorem kcd_X5_lifted : Cond.code T_X5_lifted.1 T_X5_lifted.2.1 T_X5_lifted.2.2.1 T_X5_lifted.2.2.2.1 ∈ kx_tbl := (kx_tb 1184 (by decide +kernel) (by decide +kernel))
theorem kpd_X5_lifted : T_X5_lifted.1.cls ≠ "java/lang/invoke/MethodHandle" ∧ T_X5_lifted.1.cls ≠ "java/lang/invoke/VarHandle" ∧ (parseMethodDescriptor T_X5_lifted.1.desc).map (fun d => d.parameters.length) = some 3 := ⟨by decide +kernel, by decide +kernel, by decide +kernel⟩
theorem kse_X5_lifted : Cond.instanceMethod T_X5_lifted.1 ∈ kx_tbl ∧ Cond.selects T_X5_lifted.1.cls T_X5_lifted.1 T_X5_lifted.1 ∈ kx_tbl := ⟨(kx_tb 1182 (by decide +kernel) (by decide +kernel)), (kx_tb 1183 (by decide +kernel) (by decide +kernel))⟩
theorem klk_L_129 : kx_Lk RL 129 T_X5_lifted 3 := ⟨kpd_X5_lifted, (kx_tb 1181 (by decide +kernel) (by decide +kernel)), kini_X5, kcd_X5_lifted⟩
theorem kcd_X4_register : Cond.code T_X4_register.1 T_X4_register.2.1 T_X4_register.2.2.1 T_X4_register.2.2.2.1 ∈ kx_tbl := (kx_tb 629 (by decide +kernel) (by decide +kernel))
theorem kpd_X4_register : T_X4_register.1.cls ≠ "java/lang/invoke/MethodHandle" ∧ T_X4_register.1.cls ≠ "java/lang/invoke/VarHandle" ∧ (parseMethodDescriptor T_X4_register.1.desc).map (fun d => d.parameters.length) = some 4 := ⟨by decide +kernel, by decide +kernel, by decide +kernel⟩
theorem kse_X4_register : Cond.instanceMethod T_X4_register.1 ∈ kx_tbl ∧ Cond.selects T_X4_register.1.cls T_X4_register.1 T_X4_register.1 ∈ kx_tbl := ⟨(kx_tb 627 (by decide +kernel) (by decide +kernel)), (kx_tb 628 (by decide +kernel) (by decide +kernel))⟩
theorem klk_L_130 : kx_Lk RL 130 T_X4_register 4 := ⟨kpd_X4_register, (kx_tb 626 (by decide +kernel) (by decide +kernel)), kini_X4, kcd_X4_register⟩
theorem kcd_X5_register : Cond.code T_X5_register.1 T_X5_register.2.1 T_X5_register.2.2.1 T_X5_register.2.2.2.1 ∈ kx_tbl := (kx_tb 1188 (by decide +kernel) (by decide +kernel))
theorem kpd_X5_register : T_X5_register.1.cls ≠ "java/lang/invoke/MethodHandle" ∧ T_X5_register.1.cls ≠ "java/lang/invoke/VarHandle" ∧ (parseMethodDescriptor T_X5_register.1.desc).map (fun d => d.parameters.length) = some 4 := ⟨by decide +kernel, by decide +kernel, by decide +kernel⟩
theorem kse_X5_register : Cond.instanceMethod T_X5_register.1 ∈ kx_tbl ∧ Cond.selects T_X5_register.1.cls T_X5_register.1 T_X5_register.1 ∈ kx_tbl := ⟨(kx_tb 1186 (by decide +kernel) (by decide +kernel)), (kx_tb 1187 (by decide +kernel) (by decide +kernel))⟩
theorem klk_L_134 : kx_Lk RL 134 T_X5_register 4 := ⟨kpd_X5_register, (kx_tb 1185 (by decide +kernel) (by decide +kernel)), kini_X5, kcd_X5_register⟩
theorem kcd_X4_fits : Cond.code T_X4_fits.1 T_X4_fits.2.1 T_X4_fits.2.2.1 T_X4_fits.2.2.2.1 ∈ kx_tbl := (kx_tb 637 (by decide +kernel) (by decide +kernel))
theorem kpd_X4_fits : T_X4_fits.1.cls ≠ "java/lang/invoke/MethodHandle" ∧ T_X4_fits.1.cls ≠ "java/lang/invoke/VarHandle" ∧ (parseMethodDescriptor T_X4_fits.1.desc).map (fun d => d.parameters.length) = some 4 := ⟨by decide +kernel, by decide +kernel, by decide +kernel⟩
theorem kse_X4_fits : Cond.instanceMethod T_X4_fits.1 ∈ kx_tbl ∧ Cond.selects T_X4_fits.1.cls T_X4_fits.1 T_X4_fits.1 ∈ kx_tbl := ⟨(kx_tb 635 (by decide +kernel) (by decide +kernel)), (kx_tb 636 (by decide +kernel) (by decide +kernel))⟩
theorem klk_L_135 : kx_Lk RL 135 T_X4_fits 4 := ⟨kpd_X4_fits, (kx_tb 634 (by decide +kernel) (by decide +kernel)), kini_X4, kcd_X4_fits⟩
theorem kcd_X5_fits : Cond.code T_X5_fits.1 T_X5_fits.2.1 T_X5_fits.2.2.1 T_X5_fits.2.2.2.1 ∈ kx_tbl := (kx_tb 1208 (by decide +kernel) (by decide +kernel))
theorem kpd_X5_fits : T_X5_fits.1.cls ≠ "java/lang/invoke/MethodHandle" ∧ T_X5_fits.1.cls ≠ "java/lang/invoke/VarHandle" ∧ (parseMethodDescriptor T_X5_fits.1.desc).map (fun d => d.parameters.length) = some 4 := ⟨by decide +kernel, by decide +kernel, by decide +kernel⟩
theorem kse_X5_fits : Cond.instanceMethod T_X5_fits.1 ∈ kx_tbl ∧ Cond.selects T_X5_fits.1.cls T_X5_fits.1 T_X5_fits.1 ∈ kx_tbl := ⟨(kx_tb 1206 (by decide +kernel) (by decide +kernel)), (kx_tb 1207 (by decide +kernel) (by decide +kernel))⟩
theorem klk_L_138 : kx_Lk RL 138 T_X5_fits 4 := ⟨kpd_X5_fits, (kx_tb 1205 (by decide +kernel) (by decide +kernel)), kini_X5, kcd_X5_fits⟩
theorem kcd_X4_together : Cond.code T_X4_together.1 T_X4_together.2.1 T_X4_together.2.2.1 T_X4_together.2.2.2.1 ∈ kx_tbl := (kx_tb 659 (by decide +kernel) (by decide +kernel))
theorem kpd_X4_together : T_X4_together.1.cls ≠ "java/lang/invoke/MethodHandle" ∧ T_X4_together.1.cls ≠ "java/lang/invoke/VarHandle" ∧ (parseMethodDescriptor T_X4_together.1.desc).map (fun d => d.parameters.length) = some 0 := ⟨by decide +kernel, by decide +kernel, by decide +kernel⟩
theorem kse_X4_together : Cond.instanceMethod T_X4_together.1 ∈ kx_tbl ∧ Cond.selects T_X4_together.1.cls T_X4_together.1 T_X4_together.1 ∈ kx_tbl := ⟨(kx_tb 657 (by decide +kernel) (by decide +kernel)), (kx_tb 658 (by decide +kernel) (by decide +kernel))⟩
theorem klk_L_139 : kx_Lk RL 139 T_X4_together 0 := ⟨kpd_X4_together, (kx_tb 656 (by decide +kernel) (by decide +kernel)), kini_X4, kcd_X4_together⟩
theorem kcd_X5_together : Cond.code T_X5_together.1 T_X5_together.2.1 T_X5_together.2.2.1 T_X5_together.2.2.2.1 ∈ kx_tbl := (kx_tb 1216 (by decide +kernel) (by decide +kernel))
theorem kpd_X5_together : T_X5_together.1.cls ≠ "java/lang/invoke/MethodHandle" ∧ T_X5_together.1.cls ≠ "java/lang/invoke/VarHandle" ∧ (parseMethodDescriptor T_X5_together.1.desc).map (fun d => d.parameters.length) = some 0 := ⟨by decide +kernel, by decide +kernel, by decide +kernel⟩
theorem kse_X5_together : Cond.instanceMethod T_X5_together.1 ∈ kx_tbl ∧ Cond.selects T_X5_together.1.cls T_X5_together.1 T_X5_together.1 ∈ kx_tbl := ⟨(kx_tb 1214 (by decide +kernel) (by decide +kernel)), (kx_tb 1215 (by decide +kernel) (by decide +kernel))⟩
theorem klk_L_142 : kx_Lk RL 142 T_X5_together 0 := ⟨kpd_X5_together, (kx_tb 1213 (by decide +kernel) (by decide +kernel)), kini_X5, kcd_X5_together⟩
theorem kcd_X4_needed : Cond.code T_X4_needed.1 T_X4_needed.2.1 T_X4_needed.2.2.1 T_X4_needed.2.2.2.1 ∈ kx_tbl := (kx_tb 663 (by decide +kernel) (by decide +kernel))
theorem kpd_X4_needed : T_X4_needed.1.cls ≠ "java/lang/invoke/MethodHandle" ∧ T_X4_needed.1.cls ≠ "java/lang/invoke/VarHandle" ∧ (parseMethodDescriptor T_X4_needed.1.desc).map (fun d => d.parameters.length) = some 0 := ⟨by decide +kernel, by decide +kernel, by decide +kernel⟩
theorem kse_X4_needed : Cond.instanceMethod T_X4_needed.1 ∈ kx_tbl ∧ Cond.selects T_X4_needed.1.cls T_X4_needed.1 T_X4_needed.1 ∈ kx_tbl := ⟨(kx_tb 661 (by decide +kernel) (by decide +kernel)), (kx_tb 662 (by decide +kernel) (by decide +kernel))⟩
theorem klk_L_143 : kx_Lk RL 143 T_X4_needed 0 := ⟨kpd_X4_needed, (kx_tb 660 (by decide +kernel) (by decide +kernel)), kini_X4, kcd_X4_needed⟩
theorem kcd_X5_needed : Cond.code T_X5_needed.1 T_X5_needed.2.1 T_X5_needed.2.2.1 T_X5_needed.2.2.2.1 ∈ kx_tbl := (kx_tb 1224 (by decide +kernel) (by decide +kernel))
theorem kpd_X5_needed : T_X5_needed.1.cls ≠ "java/lang/invoke/MethodHandle" ∧ T_X5_needed.1.cls ≠ "java/lang/invoke/VarHandle" ∧ (parseMethodDescriptor T_X5_needed.1.desc).map (fun d => d.parameters.length) = some 0 := ⟨by decide +kernel, by decide +kernel, by decide +kernel⟩
theorem kse_X5_needed : Cond.instanceMethod T_X5_needed.1 ∈ kx_tbl ∧ Cond.selects T_X5_needed.1.cls T_X5_needed.1 T_X5_needed.1 ∈ kx_tbl := ⟨(kx_tb 1222 (by decide +kernel) (by decide +kernel)), (kx_tb 1223 (by decide +kernel) (by decide +kernel))⟩
theorem klk_L_146 : kx_Lk RL 146 T_X5_needed 0 := ⟨kpd_X5_needed, (kx_tb 1221 (by decide +kernel) (by decide +kernel)), kini_X5, kcd_X5_needed⟩
theorem kcd_X4_picture : Cond.code T_X4_picture.1 T_X4_picture.2.1 T_X4_picture.2.2.1 T_X4_picture.2.2.2.1 ∈ kx_tbl := (kx_tb 667 (by decide +kernel) (by decide +kernel))
theorem kpd_X4_picture : T_X4_picture.1.cls ≠ "java/lang/invoke/MethodHandle" ∧ T_X4_picture.1.cls ≠ "java/lang/invoke/VarHandle" ∧ (parseMethodDescriptor T_X4_picture.1.desc).map (fun d => d.parameters.length) = some 3 := ⟨by decide +kernel, by decide +kernel, by decide +kernel⟩
theorem kse_X4_picture : Cond.instanceMethod T_X4_picture.1 ∈ kx_tbl ∧ Cond.selects T_X4_picture.1.cls T_X4_picture.1 T_X4_picture.1 ∈ kx_tbl := ⟨(kx_tb 665 (by decide +kernel) (by decide +kernel)), (kx_tb 666 (by decide +kernel) (by decide +kernel))⟩
theorem klk_L_147 : kx_Lk RL 147 T_X4_picture 3 := ⟨kpd_X4_picture, (kx_tb 664 (by decide +kernel) (by decide +kernel)), kini_X4, kcd_X4_picture⟩
theorem kcd_X5_picture : Cond.code T_X5_picture.1 T_X5_picture.2.1 T_X5_picture.2.2.1 T_X5_picture.2.2.2.1 ∈ kx_tbl := (kx_tb 1228 (by decide +kernel) (by decide +kernel))
theorem kpd_X5_picture : T_X5_picture.1.cls ≠ "java/lang/invoke/MethodHandle" ∧ T_X5_picture.1.cls ≠ "java/lang/invoke/VarHandle" ∧ (parseMethodDescriptor T_X5_picture.1.desc).map (fun d => d.parameters.length) = some 3 := ⟨by decide +kernel, by decide +kernel, by decide +kernel⟩
theorem kse_X5_picture : Cond.instanceMethod T_X5_picture.1 ∈ kx_tbl ∧ Cond.selects T_X5_picture.1.cls T_X5_picture.1 T_X5_picture.1 ∈ kx_tbl := ⟨(kx_tb 1226 (by decide +kernel) (by decide +kernel)), (kx_tb 1227 (by decide +kernel) (by decide +kernel))⟩
theorem klk_L_150 : kx_Lk RL 150 T_X5_picture 3 := ⟨kpd_X5_picture, (kx_tb 1225 (by decide +kernel) (by decide +kernel)), kini_X5, kcd_X5_picture⟩
theorem kcd_X4_lift : Cond.code T_X4_lift.1 T_X4_lift.2.1 T_X4_lift.2.2.1 T_X4_lift.2.2.2.1 ∈ kx_tbl := (kx_tb 675 (by decide +kernel) (by decide +kernel))
theorem kpd_X4_lift : T_X4_lift.1.cls ≠ "java/lang/invoke/MethodHandle" ∧ T_X4_lift.1.cls ≠ "java/lang/invoke/VarHandle" ∧ (parseMethodDescriptor T_X4_lift.1.desc).map (fun d => d.parameters.length) = some 2 := ⟨by decide +kernel, by decide +kernel, by decide +kernel⟩
theorem kse_X4_lift : Cond.instanceMethod T_X4_lift.1 ∈ kx_tbl ∧ Cond.selects T_X4_lift.1.cls T_X4_lift.1 T_X4_lift.1 ∈ kx_tbl := ⟨(kx_tb 673 (by decide +kernel) (by decide +kernel)), (kx_tb 674 (by decide +kernel) (by decide +kernel))⟩
theorem klk_L_151 : kx_Lk RL 151 T_X4_lift 2 := ⟨kpd_X4_lift, (kx_tb 672 (by decide +kernel) (by decide +kernel)), kini_X4, kcd_X4_lift⟩
theorem kcd_X5_lift : Cond.code T_X5_lift.1 T_X5_lift.2.1 T_X5_lift.2.2.1 T_X5_lift.2.2.2.1 ∈ kx_tbl := (kx_tb 1236 (by decide +kernel) (by decide +kernel))
theorem kpd_X5_lift : T_X5_lift.1.cls ≠ "java/lang/invoke/MethodHandle" ∧ T_X5_lift.1.cls ≠ "java/lang/invoke/VarHandle" ∧ (parseMethodDescriptor T_X5_lift.1.desc).map (fun d => d.parameters.length) = some 2 := ⟨by decide +kernel, by decide +kernel, by decide +kernel⟩
theorem kse_X5_lift : Cond.instanceMethod T_X5_lift.1 ∈ kx_tbl ∧ Cond.selects T_X5_lift.1.cls T_X5_lift.1 T_X5_lift.1 ∈ kx_tbl := ⟨(kx_tb 1234 (by decide +kernel) (by decide +kernel)), (kx_tb 1235 (by decide +kernel) (by decide +kernel))⟩
theorem klk_L_154 : kx_Lk RL 154 T_X5_lift 2 := ⟨kpd_X5_lift, (kx_tb 1233 (by decide +kernel) (by decide +kernel)), kini_X5, kcd_X5_lift⟩
theorem kcd_X4_chance : Cond.code T_X4_chance.1 T_X4_chance.2.1 T_X4_chance.2.2.1 T_X4_chance.2.2.2.1 ∈ kx_tbl := (kx_tb 687 (by decide +kernel) (by decide +kernel))
theorem kpd_X4_chance : T_X4_chance.1.cls ≠ "java/lang/invoke/MethodHandle" ∧ T_X4_chance.1.cls ≠ "java/lang/invoke/VarHandle" ∧ (parseMethodDescriptor T_X4_chance.1.desc).map (fun d => d.parameters.length) = some 2 := ⟨by decide +kernel, by decide +kernel, by decide +kernel⟩
theorem kse_X4_chance : Cond.instanceMethod T_X4_chance.1 ∈ kx_tbl ∧ Cond.selects T_X4_chance.1.cls T_X4_chance.1 T_X4_chance.1 ∈ kx_tbl := ⟨(kx_tb 685 (by decide +kernel) (by decide +kernel)), (kx_tb 686 (by decide +kernel) (by decide +kernel))⟩
theorem klk_L_155 : kx_Lk RL 155 T_X4_chance 2 := ⟨kpd_X4_chance, (kx_tb 684 (by decide +kernel) (by decide +kernel)), kini_X4, kcd_X4_chance⟩
theorem kcd_X5_chance : Cond.code T_X5_chance.1 T_X5_chance.2.1 T_X5_chance.2.2.1 T_X5_chance.2.2.2.1 ∈ kx_tbl := (kx_tb 1244 (by decide +kernel) (by decide +kernel))
theorem kpd_X5_chance : T_X5_chance.1.cls ≠ "java/lang/invoke/MethodHandle" ∧ T_X5_chance.1.cls ≠ "java/lang/invoke/VarHandle" ∧ (parseMethodDescriptor T_X5_chance.1.desc).map (fun d => d.parameters.length) = some 2 := ⟨by decide +kernel, by decide +kernel, by decide +kernel⟩
theorem kse_X5_chance : Cond.instanceMethod T_X5_chance.1 ∈ kx_tbl ∧ Cond.selects T_X5_chance.1.cls T_X5_chance.1 T_X5_chance.1 ∈ kx_tbl := ⟨(kx_tb 1242 (by decide +kernel) (by decide +kernel)), (kx_tb 1243 (by decide +kernel) (by decide +kernel))⟩
theorem klk_L_158 : kx_Lk RL 158 T_X5_chance 2 := ⟨kpd_X5_chance, (kx_tb 1241 (by decide +kernel) (by decide +kernel)), kini_X5, kcd_X5_chance⟩
theorem kcd_X4_mean : Cond.code T_X4_mean.1 T_X4_mean.2.1 T_X4_mean.2.2.1 T_X4_mean.2.2.2.1 ∈ kx_tbl := (kx_tb 692 (by decide +kernel) (by decide +kernel))
theorem kpd_X4_mean : T_X4_mean.1.cls ≠ "java/lang/invoke/MethodHandle" ∧ T_X4_mean.1.cls ≠ "java/lang/invoke/VarHandle" ∧ (parseMethodDescriptor T_X4_mean.1.desc).map (fun d => d.parameters.length) = some 1 := ⟨by decide +kernel, by decide +kernel, by decide +kernel⟩
theorem kse_X4_mean : Cond.instanceMethod T_X4_mean.1 ∈ kx_tbl ∧ Cond.selects T_X4_mean.1.cls T_X4_mean.1 T_X4_mean.1 ∈ kx_tbl := ⟨(kx_tb 690 (by decide +kernel) (by decide +kernel)), (kx_tb 691 (by decide +kernel) (by decide +kernel))⟩
theorem klk_L_159 : kx_Lk RL 159 T_X4_mean 1 := ⟨kpd_X4_mean, (kx_tb 689 (by decide +kernel) (by decide +kernel)), kini_X4, kcd_X4_mean⟩
theorem kcd_X5_mean : Cond.code T_X5_mean.1 T_X5_mean.2.1 T_X5_mean.2.2.1 T_X5_mean.2.2.2.1 ∈ kx_tbl := (kx_tb 1249 (by decide +kernel) (by decide +kernel))
theorem kpd_X5_mean : T_X5_mean.1.cls ≠ "java/lang/invoke/MethodHandle" ∧ T_X5_mean.1.cls ≠ "java/lang/invoke/VarHandle" ∧ (parseMethodDescriptor T_X5_mean.1.desc).map (fun d => d.parameters.length) = some 1 := ⟨by decide +kernel, by decide +kernel, by decide +kernel⟩
theorem kse_X5_mean : Cond.instanceMethod T_X5_mean.1 ∈ kx_tbl ∧ Cond.selects T_X5_mean.1.cls T_X5_mean.1 T_X5_mean.1 ∈ kx_tbl := ⟨(kx_tb 1247 (by decide +kernel) (by decide +kernel)), (kx_tb 1248 (by decide +kernel) (by decide +kernel))⟩
theorem klk_L_162 : kx_Lk RL 162 T_X5_mean 1 := ⟨kpd_X5_mean, (kx_tb 1246 (by decide +kernel) (by decide +kernel)), kini_X5, kcd_X5_mean⟩
theorem kcd_X4_hidden : Cond.code T_X4_hidden.1 T_X4_hidden.2.1 T_X4_hidden.2.2.1 T_X4_hidden.2.2.2.1 ∈ kx_tbl := (kx_tb 696 (by decide +kernel) (by decide +kernel))
theorem kpd_X4_hidden : T_X4_hidden.1.cls ≠ "java/lang/invoke/MethodHandle" ∧ T_X4_hidden.1.cls ≠ "java/lang/invoke/VarHandle" ∧ (parseMethodDescriptor T_X4_hidden.1.desc).map (fun d => d.parameters.length) = some 0 := ⟨by decide +kernel, by decide +kernel, by decide +kernel⟩
theorem kse_X4_hidden : Cond.instanceMethod T_X4_hidden.1 ∈ kx_tbl ∧ Cond.selects T_X4_hidden.1.cls T_X4_hidden.1 T_X4_hidden.1 ∈ kx_tbl := ⟨(kx_tb 694 (by decide +kernel) (by decide +kernel)), (kx_tb 695 (by decide +kernel) (by decide +kernel))⟩
theorem klk_L_163 : kx_Lk RL 163 T_X4_hidden 0 := ⟨kpd_X4_hidden, (kx_tb 693 (by decide +kernel) (by decide +kernel)), kini_X4, kcd_X4_hidden⟩
theorem kcd_X5_hidden : Cond.code T_X5_hidden.1 T_X5_hidden.2.1 T_X5_hidden.2.2.1 T_X5_hidden.2.2.2.1 ∈ kx_tbl := (kx_tb 1253 (by decide +kernel) (by decide +kernel))
theorem kpd_X5_hidden : T_X5_hidden.1.cls ≠ "java/lang/invoke/MethodHandle" ∧ T_X5_hidden.1.cls ≠ "java/lang/invoke/VarHandle" ∧ (parseMethodDescriptor T_X5_hidden.1.desc).map (fun d => d.parameters.length) = some 0 := ⟨by decide +kernel, by decide +kernel, by decide +kernel⟩
theorem kse_X5_hidden : Cond.instanceMethod T_X5_hidden.1 ∈ kx_tbl ∧ Cond.selects T_X5_hidden.1.cls T_X5_hidden.1 T_X5_hidden.1 ∈ kx_tbl := ⟨(kx_tb 1251 (by decide +kernel) (by decide +kernel)), (kx_tb 1252 (by decide +kernel) (by decide +kernel))⟩
theorem klk_L_166 : kx_Lk RL 166 T_X5_hidden 0 := ⟨kpd_X5_hidden, (kx_tb 1250 (by decide +kernel) (by decide +kernel)), kini_X5, kcd_X5_hidden⟩
theorem kcd_X4_best : Cond.code T_X4_best.1 T_X4_best.2.1 T_X4_best.2.2.1 T_X4_best.2.2.2.1 ∈ kx_tbl := (kx_tb 701 (by decide +kernel) (by decide +kernel))
theorem kpd_X4_best : T_X4_best.1.cls ≠ "java/lang/invoke/MethodHandle" ∧ T_X4_best.1.cls ≠ "java/lang/invoke/VarHandle" ∧ (parseMethodDescriptor T_X4_best.1.desc).map (fun d => d.parameters.length) = some 1 := ⟨by decide +kernel, by decide +kernel, by decide +kernel⟩
theorem kse_X4_best : Cond.instanceMethod T_X4_best.1 ∈ kx_tbl ∧ Cond.selects T_X4_best.1.cls T_X4_best.1 T_X4_best.1 ∈ kx_tbl := ⟨(kx_tb 699 (by decide +kernel) (by decide +kernel)), (kx_tb 700 (by decide +kernel) (by decide +kernel))⟩
theorem klk_L_167 : kx_Lk RL 167 T_X4_best 1 := ⟨kpd_X4_best, (kx_tb 698 (by decide +kernel) (by decide +kernel)), kini_X4, kcd_X4_best⟩
theorem kcd_X5_best : Cond.code T_X5_best.1 T_X5_best.2.1 T_X5_best.2.2.1 T_X5_best.2.2.2.1 ∈ kx_tbl := (kx_tb 1257 (by decide +kernel) (by decide +kernel))
theorem kpd_X5_best : T_X5_best.1.cls ≠ "java/lang/invoke/MethodHandle" ∧ T_X5_best.1.cls ≠ "java/lang/invoke/VarHandle" ∧ (parseMethodDescriptor T_X5_best.1.desc).map (fun d => d.parameters.length) = some 1 := ⟨by decide +kernel, by decide +kernel, by decide +kernel⟩
theorem kse_X5_best : Cond.instanceMethod T_X5_best.1 ∈ kx_tbl ∧ Cond.selects T_X5_best.1.cls T_X5_best.1 T_X5_best.1 ∈ kx_tbl := ⟨(kx_tb 1255 (by decide +kernel) (by decide +kernel)), (kx_tb 1256 (by decide +kernel) (by decide +kernel))⟩
theorem klk_L_170 : kx_Lk RL 170 T_X5_best 1 := ⟨kpd_X5_best, (kx_tb 1254 (by decide +kernel) (by decide +kernel)), kini_X5, kcd_X5_best⟩
theorem kcd_X4_mate : Cond.code T_X4_mate.1 T_X4_mate.2.1 T_X4_mate.2.2.1 T_X4_mate.2.2.2.1 ∈ kx_tbl := (kx_tb 705 (by decide +kernel) (by decide +kernel))
theorem kpd_X4_mate : T_X4_mate.1.cls ≠ "java/lang/invoke/MethodHandle" ∧ T_X4_mate.1.cls ≠ "java/lang/invoke/VarHandle" ∧ (parseMethodDescriptor T_X4_mate.1.desc).map (fun d => d.parameters.length) = some 1 := ⟨by decide +kernel, by decide +kernel, by decide +kernel⟩
theorem kse_X4_mate : Cond.instanceMethod T_X4_mate.1 ∈ kx_tbl ∧ Cond.selects T_X4_mate.1.cls T_X4_mate.1 T_X4_mate.1 ∈ kx_tbl := ⟨(kx_tb 703 (by decide +kernel) (by decide +kernel)), (kx_tb 704 (by decide +kernel) (by decide +kernel))⟩
theorem klk_L_171 : kx_Lk RL 171 T_X4_mate 1 := ⟨kpd_X4_mate, (kx_tb 702 (by decide +kernel) (by decide +kernel)), kini_X4, kcd_X4_mate⟩
theorem kcd_X5_mate : Cond.code T_X5_mate.1 T_X5_mate.2.1 T_X5_mate.2.2.1 T_X5_mate.2.2.2.1 ∈ kx_tbl := (kx_tb 1261 (by decide +kernel) (by decide +kernel))
theorem kpd_X5_mate : T_X5_mate.1.cls ≠ "java/lang/invoke/MethodHandle" ∧ T_X5_mate.1.cls ≠ "java/lang/invoke/VarHandle" ∧ (parseMethodDescriptor T_X5_mate.1.desc).map (fun d => d.parameters.length) = some 1 := ⟨by decide +kernel, by decide +kernel, by decide +kernel⟩
theorem kse_X5_mate : Cond.instanceMethod T_X5_mate.1 ∈ kx_tbl ∧ Cond.selects T_X5_mate.1.cls T_X5_mate.1 T_X5_mate.1 ∈ kx_tbl := ⟨(kx_tb 1259 (by decide +kernel) (by decide +kernel)), (kx_tb 1260 (by decide +kernel) (by decide +kernel))⟩
theorem klk_L_174 : kx_Lk RL 174 T_X5_mate 1 := ⟨kpd_X5_mate, (kx_tb 1258 (by decide +kernel) (by decide +kernel)), kini_X5, kcd_X5_mate⟩
theorem kcd_X4_rarest : Cond.code T_X4_rarest.1 T_X4_rarest.2.1 T_X4_rarest.2.2.1 T_X4_rarest.2.2.2.1 ∈ kx_tbl := (kx_tb 709 (by decide +kernel) (by decide +kernel))
theorem kpd_X4_rarest : T_X4_rarest.1.cls ≠ "java/lang/invoke/MethodHandle" ∧ T_X4_rarest.1.cls ≠ "java/lang/invoke/VarHandle" ∧ (parseMethodDescriptor T_X4_rarest.1.desc).map (fun d => d.parameters.length) = some 1 := ⟨by decide +kernel, by decide +kernel, by decide +kernel⟩
theorem kse_X4_rarest : Cond.instanceMethod T_X4_rarest.1 ∈ kx_tbl ∧ Cond.selects T_X4_rarest.1.cls T_X4_rarest.1 T_X4_rarest.1 ∈ kx_tbl := ⟨(kx_tb 707 (by decide +kernel) (by decide +kernel)), (kx_tb 708 (by decide +kernel) (by decide +kernel))⟩
theorem klk_L_175 : kx_Lk RL 175 T_X4_rarest 1 := ⟨kpd_X4_rarest, (kx_tb 706 (by decide +kernel) (by decide +kernel)), kini_X4, kcd_X4_rarest⟩
theorem kcd_X5_rarest : Cond.code T_X5_rarest.1 T_X5_rarest.2.1 T_X5_rarest.2.2.1 T_X5_rarest.2.2.2.1 ∈ kx_tbl := (kx_tb 1265 (by decide +kernel) (by decide +kernel))
theorem kpd_X5_rarest : T_X5_rarest.1.cls ≠ "java/lang/invoke/MethodHandle" ∧ T_X5_rarest.1.cls ≠ "java/lang/invoke/VarHandle" ∧ (parseMethodDescriptor T_X5_rarest.1.desc).map (fun d => d.parameters.length) = some 1 := ⟨by decide +kernel, by decide +kernel, by decide +kernel⟩
theorem kse_X5_rarest : Cond.instanceMethod T_X5_rarest.1 ∈ kx_tbl ∧ Cond.selects T_X5_rarest.1.cls T_X5_rarest.1 T_X5_rarest.1 ∈ kx_tbl := ⟨(kx_tb 1263 (by decide +kernel) (by decide +kernel)), (kx_tb 1264 (by decide +kernel) (by decide +kernel))⟩
theorem klk_L_178 : kx_Lk RL 178 T_X5_rarest 1 := ⟨kpd_X5_rarest, (kx_tb 1262 (by decide +kernel) (by decide +kernel)), kini_X5, kcd_X5_rarest⟩
theorem kcd_X4_both : Cond.code T_X4_both.1 T_X4_both.2.1 T_X4_both.2.2.1 T_X4_both.2.2.2.1 ∈ kx_tbl := (kx_tb 713 (by decide +kernel) (by decide +kernel))
theorem kpd_X4_both : T_X4_both.1.cls ≠ "java/lang/invoke/MethodHandle" ∧ T_X4_both.1.cls ≠ "java/lang/invoke/VarHandle" ∧ (parseMethodDescriptor T_X4_both.1.desc).map (fun d => d.parameters.length) = some 2 := ⟨by decide +kernel, by decide +kernel, by decide +kernel⟩
theorem kse_X4_both : Cond.instanceMethod T_X4_both.1 ∈ kx_tbl ∧ Cond.selects T_X4_both.1.cls T_X4_both.1 T_X4_both.1 ∈ kx_tbl := ⟨(kx_tb 711 (by decide +kernel) (by decide +kernel)), (kx_tb 712 (by decide +kernel) (by decide +kernel))⟩
theorem klk_L_179 : kx_Lk RL 179 T_X4_both 2 := ⟨kpd_X4_both, (kx_tb 710 (by decide +kernel) (by decide +kernel)), kini_X4, kcd_X4_both⟩
theorem kcd_X5_both : Cond.code T_X5_both.1 T_X5_both.2.1 T_X5_both.2.2.1 T_X5_both.2.2.2.1 ∈ kx_tbl := (kx_tb 1269 (by decide +kernel) (by decide +kernel))
theorem kpd_X5_both : T_X5_both.1.cls ≠ "java/lang/invoke/MethodHandle" ∧ T_X5_both.1.cls ≠ "java/lang/invoke/VarHandle" ∧ (parseMethodDescriptor T_X5_both.1.desc).map (fun d => d.parameters.length) = some 2 := ⟨by decide +kernel, by decide +kernel, by decide +kernel⟩
theorem kse_X5_both : Cond.instanceMethod T_X5_both.1 ∈ kx_tbl ∧ Cond.selects T_X5_both.1.cls T_X5_both.1 T_X5_both.1 ∈ kx_tbl := ⟨(kx_tb 1267 (by decide +kernel) (by decide +kernel)), (kx_tb 1268 (by decide +kernel) (by decide +kernel))⟩
theorem klk_L_182 : kx_Lk RL 182 T_X5_both 2 := ⟨kpd_X5_both, (kx_tb 1266 (by decide +kernel) (by decide +kernel)), kini_X5, kcd_X5_both⟩
theorem kcd_X4_visitsTill : Cond.code T_X4_visitsTill.1 T_X4_visitsTill.2.1 T_X4_visitsTill.2.2.1 T_X4_visitsTill.2.2.2.1 ∈ kx_tbl := (kx_tb 717 (by decide +kernel) (by decide +kernel))
theorem kpd_X4_visitsTill : T_X4_visitsTill.1.cls ≠ "java/lang/invoke/MethodHandle" ∧ T_X4_visitsTill.1.cls ≠ "java/lang/invoke/VarHandle" ∧ (parseMethodDescriptor T_X4_visitsTill.1.desc).map (fun d => d.parameters.length) = some 2 := ⟨by decide +kernel, by decide +kernel, by decide +kernel⟩
theorem kse_X4_visitsTill : Cond.instanceMethod T_X4_visitsTill.1 ∈ kx_tbl ∧ Cond.selects T_X4_visitsTill.1.cls T_X4_visitsTill.1 T_X4_visitsTill.1 ∈ kx_tbl := ⟨(kx_tb 715 (by decide +kernel) (by decide +kernel)), (kx_tb 716 (by decide +kernel) (by decide +kernel))⟩
theorem klk_L_183 : kx_Lk RL 183 T_X4_visitsTill 2 := ⟨kpd_X4_visitsTill, (kx_tb 714 (by decide +kernel) (by decide +kernel)), kini_X4, kcd_X4_visitsTill⟩
theorem kcd_X5_visitsTill : Cond.code T_X5_visitsTill.1 T_X5_visitsTill.2.1 T_X5_visitsTill.2.2.1 T_X5_visitsTill.2.2.2.1 ∈ kx_tbl := (kx_tb 1273 (by decide +kernel) (by decide +kernel))
theorem kpd_X5_visitsTill : T_X5_visitsTill.1.cls ≠ "java/lang/invoke/MethodHandle" ∧ T_X5_visitsTill.1.cls ≠ "java/lang/invoke/VarHandle" ∧ (parseMethodDescriptor T_X5_visitsTill.1.desc).map (fun d => d.parameters.length) = some 2 := ⟨by decide +kernel, by decide +kernel, by decide +kernel⟩
theorem kse_X5_visitsTill : Cond.instanceMethod T_X5_visitsTill.1 ∈ kx_tbl ∧ Cond.selects T_X5_visitsTill.1.cls T_X5_visitsTill.1 T_X5_visitsTill.1 ∈ kx_tbl := ⟨(kx_tb 1271 (by decide +kernel) (by decide +kernel)), (kx_tb 1272 (by decide +kernel) (by decide +kernel))⟩
theorem klk_L_186 : kx_Lk RL 186 T_X5_visitsTill 2 := ⟨kpd_X5_visitsTill, (kx_tb 1270 (by decide +kernel) (by decide +kernel)), kini_X5, kcd_X5_visitsTill⟩
theorem kcd_X4_who : Cond.code T_X4_who.1 T_X4_who.2.1 T_X4_who.2.2.1 T_X4_who.2.2.2.1 ∈ kx_tbl := (kx_tb 730 (by decide +kernel) (by decide +kernel))
theorem kpd_X4_who : T_X4_who.1.cls ≠ "java/lang/invoke/MethodHandle" ∧ T_X4_who.1.cls ≠ "java/lang/invoke/VarHandle" ∧ (parseMethodDescriptor T_X4_who.1.desc).map (fun d => d.parameters.length) = some 1 := ⟨by decide +kernel, by decide +kernel, by decide +kernel⟩
theorem kse_X4_who : Cond.instanceMethod T_X4_who.1 ∈ kx_tbl ∧ Cond.selects T_X4_who.1.cls T_X4_who.1 T_X4_who.1 ∈ kx_tbl := ⟨(kx_tb 728 (by decide +kernel) (by decide +kernel)), (kx_tb 729 (by decide +kernel) (by decide +kernel))⟩
theorem klk_L_187 : kx_Lk RL 187 T_X4_who 1 := ⟨kpd_X4_who, (kx_tb 727 (by decide +kernel) (by decide +kernel)), kini_X4, kcd_X4_who⟩
theorem kcd_X5_who : Cond.code T_X5_who.1 T_X5_who.2.1 T_X5_who.2.2.1 T_X5_who.2.2.2.1 ∈ kx_tbl := (kx_tb 1277 (by decide +kernel) (by decide +kernel))
theorem kpd_X5_who : T_X5_who.1.cls ≠ "java/lang/invoke/MethodHandle" ∧ T_X5_who.1.cls ≠ "java/lang/invoke/VarHandle" ∧ (parseMethodDescriptor T_X5_who.1.desc).map (fun d => d.parameters.length) = some 1 := ⟨by decide +kernel, by decide +kernel, by decide +kernel⟩
theorem kse_X5_who : Cond.instanceMethod T_X5_who.1 ∈ kx_tbl ∧ Cond.selects T_X5_who.1.cls T_X5_who.1 T_X5_who.1 ∈ kx_tbl := ⟨(kx_tb 1275 (by decide +kernel) (by decide +kernel)), (kx_tb 1276 (by decide +kernel) (by decide +kernel))⟩
theorem klk_L_190 : kx_Lk RL 190 T_X5_who 1 := ⟨kpd_X5_who, (kx_tb 1274 (by decide +kernel) (by decide +kernel)), kini_X5, kcd_X5_who⟩
theorem kcd_X4_company : Cond.code T_X4_company.1 T_X4_company.2.1 T_X4_company.2.2.1 T_X4_company.2.2.2.1 ∈ kx_tbl := (kx_tb 734 (by decide +kernel) (by decide +kernel))
theorem kpd_X4_company : T_X4_company.1.cls ≠ "java/lang/invoke/MethodHandle" ∧ T_X4_company.1.cls ≠ "java/lang/invoke/VarHandle" ∧ (parseMethodDescriptor T_X4_company.1.desc).map (fun d => d.parameters.length) = some 1 := ⟨by decide +kernel, by decide +kernel, by decide +kernel⟩
theorem kse_X4_company : Cond.instanceMethod T_X4_company.1 ∈ kx_tbl ∧ Cond.selects T_X4_company.1.cls T_X4_company.1 T_X4_company.1 ∈ kx_tbl := ⟨(kx_tb 732 (by decide +kernel) (by decide +kernel)), (kx_tb 733 (by decide +kernel) (by decide +kernel))⟩
theorem klk_L_191 : kx_Lk RL 191 T_X4_company 1 := ⟨kpd_X4_company, (kx_tb 731 (by decide +kernel) (by decide +kernel)), kini_X4, kcd_X4_company⟩
theorem kcd_X5_company : Cond.code T_X5_company.1 T_X5_company.2.1 T_X5_company.2.2.1 T_X5_company.2.2.2.1 ∈ kx_tbl := (kx_tb 1281 (by decide +kernel) (by decide +kernel))
theorem kpd_X5_company : T_X5_company.1.cls ≠ "java/lang/invoke/MethodHandle" ∧ T_X5_company.1.cls ≠ "java/lang/invoke/VarHandle" ∧ (parseMethodDescriptor T_X5_company.1.desc).map (fun d => d.parameters.length) = some 1 := ⟨by decide +kernel, by decide +kernel, by decide +kernel⟩
theorem kse_X5_company : Cond.instanceMethod T_X5_company.1 ∈ kx_tbl ∧ Cond.selects T_X5_company.1.cls T_X5_company.1 T_X5_company.1 ∈ kx_tbl := ⟨(kx_tb 1279 (by decide +kernel) (by decide +kernel)), (kx_tb 1280 (by decide +kernel) (by decide +kernel))⟩
theorem klk_L_194 : kx_Lk RL 194 T_X5_company 1 := ⟨kpd_X5_company, (kx_tb 1278 (by decide +kernel) (by decide +kernel)), kini_X5, kcd_X5_company⟩
theorem kcd_X4_spoiler : Cond.code T_X4_spoiler.1 T_X4_spoiler.2.1 T_X4_spoiler.2.2.1 T_X4_spoiler.2.2.2.1 ∈ kx_tbl := (kx_tb 738 (by decide +kernel) (by decide +kernel))
theorem kpd_X4_spoiler : T_X4_spoiler.1.cls ≠ "java/lang/invoke/MethodHandle" ∧ T_X4_spoiler.1.cls ≠ "java/lang/invoke/VarHandle" ∧ (parseMethodDescriptor T_X4_spoiler.1.desc).map (fun d => d.parameters.length) = some 1 := ⟨by decide +kernel, by decide +kernel, by decide +kernel⟩
theorem kse_X4_spoiler : Cond.instanceMethod T_X4_spoiler.1 ∈ kx_tbl ∧ Cond.selects T_X4_spoiler.1.cls T_X4_spoiler.1 T_X4_spoiler.1 ∈ kx_tbl := ⟨(kx_tb 736 (by decide +kernel) (by decide +kernel)), (kx_tb 737 (by decide +kernel) (by decide +kernel))⟩
theorem klk_L_195 : kx_Lk RL 195 T_X4_spoiler 1 := ⟨kpd_X4_spoiler, (kx_tb 735 (by decide +kernel) (by decide +kernel)), kini_X4, kcd_X4_spoiler⟩
theorem kcd_X5_spoiler : Cond.code T_X5_spoiler.1 T_X5_spoiler.2.1 T_X5_spoiler.2.2.1 T_X5_spoiler.2.2.2.1 ∈ kx_tbl := (kx_tb 1285 (by decide +kernel) (by decide +kernel))
theorem kpd_X5_spoiler : T_X5_spoiler.1.cls ≠ "java/lang/invoke/MethodHandle" ∧ T_X5_spoiler.1.cls ≠ "java/lang/invoke/VarHandle" ∧ (parseMethodDescriptor T_X5_spoiler.1.desc).map (fun d => d.parameters.length) = some 1 := ⟨by decide +kernel, by decide +kernel, by decide +kernel⟩
theorem kse_X5_spoiler : Cond.instanceMethod T_X5_spoiler.1 ∈ kx_tbl ∧ Cond.selects T_X5_spoiler.1.cls T_X5_spoiler.1 T_X5_spoiler.1 ∈ kx_tbl := ⟨(kx_tb 1283 (by decide +kernel) (by decide +kernel)), (kx_tb 1284 (by decide +kernel) (by decide +kernel))⟩
theorem klk_L_198 : kx_Lk RL 198 T_X5_spoiler 1 := ⟨kpd_X5_spoiler, (kx_tb 1282 (by decide +kernel) (by decide +kernel)), kini_X5, kcd_X5_spoiler⟩
theorem kcd_X4_split : Cond.code T_X4_split.1 T_X4_split.2.1 T_X4_split.2.2.1 T_X4_split.2.2.2.1 ∈ kx_tbl := (kx_tb 742 (by decide +kernel) (by decide +kernel))
theorem kpd_X4_split : T_X4_split.1.cls ≠ "java/lang/invoke/MethodHandle" ∧ T_X4_split.1.cls ≠ "java/lang/invoke/VarHandle" ∧ (parseMethodDescriptor T_X4_split.1.desc).map (fun d => d.parameters.length) = some 2 := ⟨by decide +kernel, by decide +kernel, by decide +kernel⟩
theorem kse_X4_split : Cond.instanceMethod T_X4_split.1 ∈ kx_tbl ∧ Cond.selects T_X4_split.1.cls T_X4_split.1 T_X4_split.1 ∈ kx_tbl := ⟨(kx_tb 740 (by decide +kernel) (by decide +kernel)), (kx_tb 741 (by decide +kernel) (by decide +kernel))⟩
theorem klk_L_199 : kx_Lk RL 199 T_X4_split 2 := ⟨kpd_X4_split, (kx_tb 739 (by decide +kernel) (by decide +kernel)), kini_X4, kcd_X4_split⟩
theorem kcd_X5_split : Cond.code T_X5_split.1 T_X5_split.2.1 T_X5_split.2.2.1 T_X5_split.2.2.2.1 ∈ kx_tbl := (kx_tb 1289 (by decide +kernel) (by decide +kernel))
theorem kpd_X5_split : T_X5_split.1.cls ≠ "java/lang/invoke/MethodHandle" ∧ T_X5_split.1.cls ≠ "java/lang/invoke/VarHandle" ∧ (parseMethodDescriptor T_X5_split.1.desc).map (fun d => d.parameters.length) = some 2 := ⟨by decide +kernel, by decide +kernel, by decide +kernel⟩
theorem kse_X5_split : Cond.instanceMethod T_X5_split.1 ∈ kx_tbl ∧ Cond.selects T_X5_split.1.cls T_X5_split.1 T_X5_split.1 ∈ kx_tbl := ⟨(kx_tb 1287 (by decide +kernel) (by decide +kernel)), (kx_tb 1288 (by decide +kernel) (by decide +kernel))⟩
theorem klk_L_202 : kx_Lk RL 202 T_X5_split 2 := ⟨kpd_X5_split, (kx_tb 1286 (by decide +kernel) (by decide +kernel)), kini_X5, kcd_X5_split⟩
theorem kcd_X4_couple : Cond.code T_X4_couple.1 T_X4_couple.2.1 T_X4_couple.2.2.1 T_X4_couple.2.2.2.1 ∈ kx_tbl := (kx_tb 750 (by decide +kernel) (by decide +kernel))
theorem kpd_X4_couple : T_X4_couple.1.cls ≠ "java/lang/invoke/MethodHandle" ∧ T_X4_couple.1.cls ≠ "java/lang/invoke/VarHandle" ∧ (parseMethodDescriptor T_X4_couple.1.desc).map (fun d => d.parameters.length) = some 0 := ⟨by decide +kernel, by decide +kernel, by decide +kernel⟩
theorem kse_X4_couple : Cond.instanceMethod T_X4_couple.1 ∈ kx_tbl ∧ Cond.selects T_X4_couple.1.cls T_X4_couple.1 T_X4_couple.1 ∈ kx_tbl := ⟨(kx_tb 748 (by decide +kernel) (by decide +kernel)), (kx_tb 749 (by decide +kernel) (by decide +kernel))⟩
theorem klk_L_203 : kx_Lk RL 203 T_X4_couple 0 := ⟨kpd_X4_couple, (kx_tb 747 (by decide +kernel) (by decide +kernel)), kini_X4, kcd_X4_couple⟩
theorem kcd_X5_couple : Cond.code T_X5_couple.1 T_X5_couple.2.1 T_X5_couple.2.2.1 T_X5_couple.2.2.2.1 ∈ kx_tbl := (kx_tb 1293 (by decide +kernel) (by decide +kernel))
theorem kpd_X5_couple : T_X5_couple.1.cls ≠ "java/lang/invoke/MethodHandle" ∧ T_X5_couple.1.cls ≠ "java/lang/invoke/VarHandle" ∧ (parseMethodDescriptor T_X5_couple.1.desc).map (fun d => d.parameters.length) = some 0 := ⟨by decide +kernel, by decide +kernel, by decide +kernel⟩
theorem kse_X5_couple : Cond.instanceMethod T_X5_couple.1 ∈ kx_tbl ∧ Cond.selects T_X5_couple.1.cls T_X5_couple.1 T_X5_couple.1 ∈ kx_tbl := ⟨(kx_tb 1291 (by decide +kernel) (by decide +kernel)), (kx_tb 1292 (by decide +kernel) (by decide +kernel))⟩
theorem klk_L_206 : kx_Lk RL 206 T_X5_couple 0 := ⟨kpd_X5_couple, (kx_tb 1290 (by decide +kernel) (by decide +kernel)), kini_X5, kcd_X5_couple⟩
theorem kcd_X4_secret : Cond.code T_X4_secret.1 T_X4_secret.2.1 T_X4_secret.2.2.1 T_X4_secret.2.2.2.1 ∈ kx_tbl := (kx_tb 754 (by decide +kernel) (by decide +kernel))
theorem kpd_X4_secret : T_X4_secret.1.cls ≠ "java/lang/invoke/MethodHandle" ∧ T_X4_secret.1.cls ≠ "java/lang/invoke/VarHandle" ∧ (parseMethodDescriptor T_X4_secret.1.desc).map (fun d => d.parameters.length) = some 1 := ⟨by decide +kernel, by decide +kernel, by decide +kernel⟩
theorem kse_X4_secret : Cond.instanceMethod T_X4_secret.1 ∈ kx_tbl ∧ Cond.selects T_X4_secret.1.cls T_X4_secret.1 T_X4_secret.1 ∈ kx_tbl := ⟨(kx_tb 752 (by decide +kernel) (by decide +kernel)), (kx_tb 753 (by decide +kernel) (by decide +kernel))⟩
theorem klk_L_207 : kx_Lk RL 207 T_X4_secret 1 := ⟨kpd_X4_secret, (kx_tb 751 (by decide +kernel) (by decide +kernel)), kini_X4, kcd_X4_secret⟩
theorem kcd_X5_secret : Cond.code T_X5_secret.1 T_X5_secret.2.1 T_X5_secret.2.2.1 T_X5_secret.2.2.2.1 ∈ kx_tbl := (kx_tb 1297 (by decide +kernel) (by decide +kernel))
theorem kpd_X5_secret : T_X5_secret.1.cls ≠ "java/lang/invoke/MethodHandle" ∧ T_X5_secret.1.cls ≠ "java/lang/invoke/VarHandle" ∧ (parseMethodDescriptor T_X5_secret.1.desc).map (fun d => d.parameters.length) = some 1 := ⟨by decide +kernel, by decide +kernel, by decide +kernel⟩
theorem kse_X5_secret : Cond.instanceMethod T_X5_secret.1 ∈ kx_tbl ∧ Cond.selects T_X5_secret.1.cls T_X5_secret.1 T_X5_secret.1 ∈ kx_tbl := ⟨(kx_tb 1295 (by decide +kernel) (by decide +kernel)), (kx_tb 1296 (by decide +kernel) (by decide +kernel))⟩
theorem klk_L_210 : kx_Lk RL 210 T_X5_secret 1 := ⟨kpd_X5_secret, (kx_tb 1294 (by decide +kernel) (by decide +kernel)), kini_X5, kcd_X5_secret⟩
theorem kcd_X4_rank : Cond.code T_X4_rank.1 T_X4_rank.2.1 T_X4_rank.2.2.1 T_X4_rank.2.2.2.1 ∈ kx_tbl := (kx_tb 758 (by decide +kernel) (by decide +kernel))
theorem kpd_X4_rank : T_X4_rank.1.cls ≠ "java/lang/invoke/MethodHandle" ∧ T_X4_rank.1.cls ≠ "java/lang/invoke/VarHandle" ∧ (parseMethodDescriptor T_X4_rank.1.desc).map (fun d => d.parameters.length) = some 1 := ⟨by decide +kernel, by decide +kernel, by decide +kernel⟩
theorem kse_X4_rank : Cond.instanceMethod T_X4_rank.1 ∈ kx_tbl ∧ Cond.selects T_X4_rank.1.cls T_X4_rank.1 T_X4_rank.1 ∈ kx_tbl := ⟨(kx_tb 756 (by decide +kernel) (by decide +kernel)), (kx_tb 757 (by decide +kernel) (by decide +kernel))⟩
theorem klk_L_211 : kx_Lk RL 211 T_X4_rank 1 := ⟨kpd_X4_rank, (kx_tb 755 (by decide +kernel) (by decide +kernel)), kini_X4, kcd_X4_rank⟩
theorem kcd_X5_rank : Cond.code T_X5_rank.1 T_X5_rank.2.1 T_X5_rank.2.2.1 T_X5_rank.2.2.2.1 ∈ kx_tbl := (kx_tb 1305 (by decide +kernel) (by decide +kernel))
theorem kpd_X5_rank : T_X5_rank.1.cls ≠ "java/lang/invoke/MethodHandle" ∧ T_X5_rank.1.cls ≠ "java/lang/invoke/VarHandle" ∧ (parseMethodDescriptor T_X5_rank.1.desc).map (fun d => d.parameters.length) = some 1 := ⟨by decide +kernel, by decide +kernel, by decide +kernel⟩
theorem kse_X5_rank : Cond.instanceMethod T_X5_rank.1 ∈ kx_tbl ∧ Cond.selects T_X5_rank.1.cls T_X5_rank.1 T_X5_rank.1 ∈ kx_tbl := ⟨(kx_tb 1303 (by decide +kernel) (by decide +kernel)), (kx_tb 1304 (by decide +kernel) (by decide +kernel))⟩
theorem klk_L_214 : kx_Lk RL 214 T_X5_rank 1 := ⟨kpd_X5_rank, (kx_tb 1302 (by decide +kernel) (by decide +kernel)), kini_X5, kcd_X5_rank⟩
theorem kcd_X4_blind : Cond.code T_X4_blind.1 T_X4_blind.2.1 T_X4_blind.2.2.1 T_X4_blind.2.2.2.1 ∈ kx_tbl := (kx_tb 766 (by decide +kernel) (by decide +kernel))
theorem kpd_X4_blind : T_X4_blind.1.cls ≠ "java/lang/invoke/MethodHandle" ∧ T_X4_blind.1.cls ≠ "java/lang/invoke/VarHandle" ∧ (parseMethodDescriptor T_X4_blind.1.desc).map (fun d => d.parameters.length) = some 1 := ⟨by decide +kernel, by decide +kernel, by decide +kernel⟩
theorem kse_X4_blind : Cond.instanceMethod T_X4_blind.1 ∈ kx_tbl ∧ Cond.selects T_X4_blind.1.cls T_X4_blind.1 T_X4_blind.1 ∈ kx_tbl := ⟨(kx_tb 764 (by decide +kernel) (by decide +kernel)), (kx_tb 765 (by decide +kernel) (by decide +kernel))⟩
theorem klk_L_215 : kx_Lk RL 215 T_X4_blind 1 := ⟨kpd_X4_blind, (kx_tb 763 (by decide +kernel) (by decide +kernel)), kini_X4, kcd_X4_blind⟩
theorem kcd_X5_blind : Cond.code T_X5_blind.1 T_X5_blind.2.1 T_X5_blind.2.2.1 T_X5_blind.2.2.2.1 ∈ kx_tbl := (kx_tb 1309 (by decide +kernel) (by decide +kernel))
theorem kpd_X5_blind : T_X5_blind.1.cls ≠ "java/lang/invoke/MethodHandle" ∧ T_X5_blind.1.cls ≠ "java/lang/invoke/VarHandle" ∧ (parseMethodDescriptor T_X5_blind.1.desc).map (fun d => d.parameters.length) = some 1 := ⟨by decide +kernel, by decide +kernel, by decide +kernel⟩
theorem kse_X5_blind : Cond.instanceMethod T_X5_blind.1 ∈ kx_tbl ∧ Cond.selects T_X5_blind.1.cls T_X5_blind.1 T_X5_blind.1 ∈ kx_tbl := ⟨(kx_tb 1307 (by decide +kernel) (by decide +kernel)), (kx_tb 1308 (by decide +kernel) (by decide +kernel))⟩
theorem klk_L_218 : kx_Lk RL 218 T_X5_blind 1 := ⟨kpd_X5_blind, (kx_tb 1306 (by decide +kernel) (by decide +kernel)), kini_X5, kcd_X5_blind⟩
theorem kcd_X4_shyest : Cond.code T_X4_shyest.1 T_X4_shyest.2.1 T_X4_shyest.2.2.1 T_X4_shyest.2.2.2.1 ∈ kx_tbl := (kx_tb 770 (by decide +kernel) (by decide +kernel))
theorem kpd_X4_shyest : T_X4_shyest.1.cls ≠ "java/lang/invoke/MethodHandle" ∧ T_X4_shyest.1.cls ≠ "java/lang/invoke/VarHandle" ∧ (parseMethodDescriptor T_X4_shyest.1.desc).map (fun d => d.parameters.length) = some 1 := ⟨by decide +kernel, by decide +kernel, by decide +kernel⟩
theorem kse_X4_shyest : Cond.instanceMethod T_X4_shyest.1 ∈ kx_tbl ∧ Cond.selects T_X4_shyest.1.cls T_X4_shyest.1 T_X4_shyest.1 ∈ kx_tbl := ⟨(kx_tb 768 (by decide +kernel) (by decide +kernel)), (kx_tb 769 (by decide +kernel) (by decide +kernel))⟩
theorem klk_L_219 : kx_Lk RL 219 T_X4_shyest 1 := ⟨kpd_X4_shyest, (kx_tb 767 (by decide +kernel) (by decide +kernel)), kini_X4, kcd_X4_shyest⟩
theorem kcd_X5_shyest : Cond.code T_X5_shyest.1 T_X5_shyest.2.1 T_X5_shyest.2.2.1 T_X5_shyest.2.2.2.1 ∈ kx_tbl := (kx_tb 1313 (by decide +kernel) (by decide +kernel))
theorem kpd_X5_shyest : T_X5_shyest.1.cls ≠ "java/lang/invoke/MethodHandle" ∧ T_X5_shyest.1.cls ≠ "java/lang/invoke/VarHandle" ∧ (parseMethodDescriptor T_X5_shyest.1.desc).map (fun d => d.parameters.length) = some 1 := ⟨by decide +kernel, by decide +kernel, by decide +kernel⟩
theorem kse_X5_shyest : Cond.instanceMethod T_X5_shyest.1 ∈ kx_tbl ∧ Cond.selects T_X5_shyest.1.cls T_X5_shyest.1 T_X5_shyest.1 ∈ kx_tbl := ⟨(kx_tb 1311 (by decide +kernel) (by decide +kernel)), (kx_tb 1312 (by decide +kernel) (by decide +kernel))⟩
theorem klk_L_222 : kx_Lk RL 222 T_X5_shyest 1 := ⟨kpd_X5_shyest, (kx_tb 1310 (by decide +kernel) (by decide +kernel)), kini_X5, kcd_X5_shyest⟩
theorem kcd_X4_alike : Cond.code T_X4_alike.1 T_X4_alike.2.1 T_X4_alike.2.2.1 T_X4_alike.2.2.2.1 ∈ kx_tbl := (kx_tb 774 (by decide +kernel) (by decide +kernel))
theorem kpd_X4_alike : T_X4_alike.1.cls ≠ "java/lang/invoke/MethodHandle" ∧ T_X4_alike.1.cls ≠ "java/lang/invoke/VarHandle" ∧ (parseMethodDescriptor T_X4_alike.1.desc).map (fun d => d.parameters.length) = some 2 := ⟨by decide +kernel, by decide +kernel, by decide +kernel⟩
theorem kse_X4_alike : Cond.instanceMethod T_X4_alike.1 ∈ kx_tbl ∧ Cond.selects T_X4_alike.1.cls T_X4_alike.1 T_X4_alike.1 ∈ kx_tbl := ⟨(kx_tb 772 (by decide +kernel) (by decide +kernel)), (kx_tb 773 (by decide +kernel) (by decide +kernel))⟩
theorem klk_L_223 : kx_Lk RL 223 T_X4_alike 2 := ⟨kpd_X4_alike, (kx_tb 771 (by decide +kernel) (by decide +kernel)), kini_X4, kcd_X4_alike⟩
theorem kcd_X5_alike : Cond.code T_X5_alike.1 T_X5_alike.2.1 T_X5_alike.2.2.1 T_X5_alike.2.2.2.1 ∈ kx_tbl := (kx_tb 1317 (by decide +kernel) (by decide +kernel))
theorem kpd_X5_alike : T_X5_alike.1.cls ≠ "java/lang/invoke/MethodHandle" ∧ T_X5_alike.1.cls ≠ "java/lang/invoke/VarHandle" ∧ (parseMethodDescriptor T_X5_alike.1.desc).map (fun d => d.parameters.length) = some 2 := ⟨by decide +kernel, by decide +kernel, by decide +kernel⟩
theorem kse_X5_alike : Cond.instanceMethod T_X5_alike.1 ∈ kx_tbl ∧ Cond.selects T_X5_alike.1.cls T_X5_alike.1 T_X5_alike.1 ∈ kx_tbl := ⟨(kx_tb 1315 (by decide +kernel) (by decide +kernel)), (kx_tb 1316 (by decide +kernel) (by decide +kernel))⟩
theorem klk_L_226 : kx_Lk RL 226 T_X5_alike 2 := ⟨kpd_X5_alike, (kx_tb 1314 (by decide +kernel) (by decide +kernel)), kini_X5, kcd_X5_alike⟩
theorem kcd_X4_ofKind : Cond.code T_X4_ofKind.1 T_X4_ofKind.2.1 T_X4_ofKind.2.2.1 T_X4_ofKind.2.2.2.1 ∈ kx_tbl := (kx_tb 778 (by decide +kernel) (by decide +kernel))
theorem kpd_X4_ofKind : T_X4_ofKind.1.cls ≠ "java/lang/invoke/MethodHandle" ∧ T_X4_ofKind.1.cls ≠ "java/lang/invoke/VarHandle" ∧ (parseMethodDescriptor T_X4_ofKind.1.desc).map (fun d => d.parameters.length) = some 1 := ⟨by decide +kernel, by decide +kernel, by decide +kernel⟩
theorem kse_X4_ofKind : Cond.instanceMethod T_X4_ofKind.1 ∈ kx_tbl ∧ Cond.selects T_X4_ofKind.1.cls T_X4_ofKind.1 T_X4_ofKind.1 ∈ kx_tbl := ⟨(kx_tb 776 (by decide +kernel) (by decide +kernel)), (kx_tb 777 (by decide +kernel) (by decide +kernel))⟩
theorem klk_L_227 : kx_Lk RL 227 T_X4_ofKind 1 := ⟨kpd_X4_ofKind, (kx_tb 775 (by decide +kernel) (by decide +kernel)), kini_X4, kcd_X4_ofKind⟩
theorem kcd_X5_ofKind : Cond.code T_X5_ofKind.1 T_X5_ofKind.2.1 T_X5_ofKind.2.2.1 T_X5_ofKind.2.2.2.1 ∈ kx_tbl := (kx_tb 1321 (by decide +kernel) (by decide +kernel))
theorem kpd_X5_ofKind : T_X5_ofKind.1.cls ≠ "java/lang/invoke/MethodHandle" ∧ T_X5_ofKind.1.cls ≠ "java/lang/invoke/VarHandle" ∧ (parseMethodDescriptor T_X5_ofKind.1.desc).map (fun d => d.parameters.length) = some 1 := ⟨by decide +kernel, by decide +kernel, by decide +kernel⟩
theorem kse_X5_ofKind : Cond.instanceMethod T_X5_ofKind.1 ∈ kx_tbl ∧ Cond.selects T_X5_ofKind.1.cls T_X5_ofKind.1 T_X5_ofKind.1 ∈ kx_tbl := ⟨(kx_tb 1319 (by decide +kernel) (by decide +kernel)), (kx_tb 1320 (by decide +kernel) (by decide +kernel))⟩
theorem klk_L_230 : kx_Lk RL 230 T_X5_ofKind 1 := ⟨kpd_X5_ofKind, (kx_tb 1318 (by decide +kernel) (by decide +kernel)), kini_X5, kcd_X5_ofKind⟩
theorem kcd_X4_judge : Cond.code T_X4_judge.1 T_X4_judge.2.1 T_X4_judge.2.2.1 T_X4_judge.2.2.2.1 ∈ kx_tbl := (kx_tb 782 (by decide +kernel) (by decide +kernel))
theorem kpd_X4_judge : T_X4_judge.1.cls ≠ "java/lang/invoke/MethodHandle" ∧ T_X4_judge.1.cls ≠ "java/lang/invoke/VarHandle" ∧ (parseMethodDescriptor T_X4_judge.1.desc).map (fun d => d.parameters.length) = some 2 := ⟨by decide +kernel, by decide +kernel, by decide +kernel⟩
theorem kse_X4_judge : Cond.instanceMethod T_X4_judge.1 ∈ kx_tbl ∧ Cond.selects T_X4_judge.1.cls T_X4_judge.1 T_X4_judge.1 ∈ kx_tbl := ⟨(kx_tb 780 (by decide +kernel) (by decide +kernel)), (kx_tb 781 (by decide +kernel) (by decide +kernel))⟩
theorem klk_L_231 : kx_Lk RL 231 T_X4_judge 2 := ⟨kpd_X4_judge, (kx_tb 779 (by decide +kernel) (by decide +kernel)), kini_X4, kcd_X4_judge⟩
theorem kcd_X5_judge : Cond.code T_X5_judge.1 T_X5_judge.2.1 T_X5_judge.2.2.1 T_X5_judge.2.2.2.1 ∈ kx_tbl := (kx_tb 1325 (by decide +kernel) (by decide +kernel))
theorem kpd_X5_judge : T_X5_judge.1.cls ≠ "java/lang/invoke/MethodHandle" ∧ T_X5_judge.1.cls ≠ "java/lang/invoke/VarHandle" ∧ (parseMethodDescriptor T_X5_judge.1.desc).map (fun d => d.parameters.length) = some 2 := ⟨by decide +kernel, by decide +kernel, by decide +kernel⟩
theorem kse_X5_judge : Cond.instanceMethod T_X5_judge.1 ∈ kx_tbl ∧ Cond.selects T_X5_judge.1.cls T_X5_judge.1 T_X5_judge.1 ∈ kx_tbl := ⟨(kx_tb 1323 (by decide +kernel) (by decide +kernel)), (kx_tb 1324 (by decide +kernel) (by decide +kernel))⟩
theorem klk_L_234 : kx_Lk RL 234 T_X5_judge 2 := ⟨kpd_X5_judge, (kx_tb 1322 (by decide +kernel) (by decide +kernel)), kini_X5, kcd_X5_judge⟩
theorem kcd_X4_behind : Cond.code T_X4_behind.1 T_X4_behind.2.1 T_X4_behind.2.2.1 T_X4_behind.2.2.2.1 ∈ kx_tbl := (kx_tb 790 (by decide +kernel) (by decide +kernel))
theorem kpd_X4_behind : T_X4_behind.1.cls ≠ "java/lang/invoke/MethodHandle" ∧ T_X4_behind.1.cls ≠ "java/lang/invoke/VarHandle" ∧ (parseMethodDescriptor T_X4_behind.1.desc).map (fun d => d.parameters.length) = some 3 := ⟨by decide +kernel, by decide +kernel, by decide +kernel⟩
theorem kse_X4_behind : Cond.instanceMethod T_X4_behind.1 ∈ kx_tbl ∧ Cond.selects T_X4_behind.1.cls T_X4_behind.1 T_X4_behind.1 ∈ kx_tbl := ⟨(kx_tb 788 (by decide +kernel) (by decide +kernel)), (kx_tb 789 (by decide +kernel) (by decide +kernel))⟩
theorem klk_L_235 : kx_Lk RL 235 T_X4_behind 3 := ⟨kpd_X4_behind, (kx_tb 787 (by decide +kernel) (by decide +kernel)), kini_X4, kcd_X4_behind⟩
theorem kcd_X5_behind : Cond.code T_X5_behind.1 T_X5_behind.2.1 T_X5_behind.2.2.1 T_X5_behind.2.2.2.1 ∈ kx_tbl := (kx_tb 1337 (by decide +kernel) (by decide +kernel))
theorem kpd_X5_behind : T_X5_behind.1.cls ≠ "java/lang/invoke/MethodHandle" ∧ T_X5_behind.1.cls ≠ "java/lang/invoke/VarHandle" ∧ (parseMethodDescriptor T_X5_behind.1.desc).map (fun d => d.parameters.length) = some 3 := ⟨by decide +kernel, by decide +kernel, by decide +kernel⟩
theorem kse_X5_behind : Cond.instanceMethod T_X5_behind.1 ∈ kx_tbl ∧ Cond.selects T_X5_behind.1.cls T_X5_behind.1 T_X5_behind.1 ∈ kx_tbl := ⟨(kx_tb 1335 (by decide +kernel) (by decide +kernel)), (kx_tb 1336 (by decide +kernel) (by decide +kernel))⟩
theorem klk_L_238 : kx_Lk RL 238 T_X5_behind 3 := ⟨kpd_X5_behind, (kx_tb 1334 (by decide +kernel) (by decide +kernel)), kini_X5, kcd_X5_behind⟩
theorem kcd_X4_visit : Cond.code T_X4_visit.1 T_X4_visit.2.1 T_X4_visit.2.2.1 T_X4_visit.2.2.2.1 ∈ kx_tbl := (kx_tb 794 (by decide +kernel) (by decide +kernel))
theorem kpd_X4_visit : T_X4_visit.1.cls ≠ "java/lang/invoke/MethodHandle" ∧ T_X4_visit.1.cls ≠ "java/lang/invoke/VarHandle" ∧ (parseMethodDescriptor T_X4_visit.1.desc).map (fun d => d.parameters.length) = some 1 := ⟨by decide +kernel, by decide +kernel, by decide +kernel⟩
theorem kse_X4_visit : Cond.instanceMethod T_X4_visit.1 ∈ kx_tbl ∧ Cond.selects T_X4_visit.1.cls T_X4_visit.1 T_X4_visit.1 ∈ kx_tbl := ⟨(kx_tb 792 (by decide +kernel) (by decide +kernel)), (kx_tb 793 (by decide +kernel) (by decide +kernel))⟩
theorem klk_L_239 : kx_Lk RL 239 T_X4_visit 1 := ⟨kpd_X4_visit, (kx_tb 791 (by decide +kernel) (by decide +kernel)), kini_X4, kcd_X4_visit⟩
theorem kcd_X5_visit : Cond.code T_X5_visit.1 T_X5_visit.2.1 T_X5_visit.2.2.1 T_X5_visit.2.2.2.1 ∈ kx_tbl := (kx_tb 1341 (by decide +kernel) (by decide +kernel))
theorem kpd_X5_visit : T_X5_visit.1.cls ≠ "java/lang/invoke/MethodHandle" ∧ T_X5_visit.1.cls ≠ "java/lang/invoke/VarHandle" ∧ (parseMethodDescriptor T_X5_visit.1.desc).map (fun d => d.parameters.length) = some 1 := ⟨by decide +kernel, by decide +kernel, by decide +kernel⟩
theorem kse_X5_visit : Cond.instanceMethod T_X5_visit.1 ∈ kx_tbl ∧ Cond.selects T_X5_visit.1.cls T_X5_visit.1 T_X5_visit.1 ∈ kx_tbl := ⟨(kx_tb 1339 (by decide +kernel) (by decide +kernel)), (kx_tb 1340 (by decide +kernel) (by decide +kernel))⟩
theorem klk_L_242 : kx_Lk RL 242 T_X5_visit 1 := ⟨kpd_X5_visit, (kx_tb 1338 (by decide +kernel) (by decide +kernel)), kini_X5, kcd_X5_visit⟩
theorem kcd_X4_days : Cond.code T_X4_days.1 T_X4_days.2.1 T_X4_days.2.2.1 T_X4_days.2.2.2.1 ∈ kx_tbl := (kx_tb 798 (by decide +kernel) (by decide +kernel))
theorem kpd_X4_days : T_X4_days.1.cls ≠ "java/lang/invoke/MethodHandle" ∧ T_X4_days.1.cls ≠ "java/lang/invoke/VarHandle" ∧ (parseMethodDescriptor T_X4_days.1.desc).map (fun d => d.parameters.length) = some 1 := ⟨by decide +kernel, by decide +kernel, by decide +kernel⟩
theorem kse_X4_days : Cond.instanceMethod T_X4_days.1 ∈ kx_tbl ∧ Cond.selects T_X4_days.1.cls T_X4_days.1 T_X4_days.1 ∈ kx_tbl := ⟨(kx_tb 796 (by decide +kernel) (by decide +kernel)), (kx_tb 797 (by decide +kernel) (by decide +kernel))⟩
theorem klk_L_243 : kx_Lk RL 243 T_X4_days 1 := ⟨kpd_X4_days, (kx_tb 795 (by decide +kernel) (by decide +kernel)), kini_X4, kcd_X4_days⟩
theorem kcd_X5_days : Cond.code T_X5_days.1 T_X5_days.2.1 T_X5_days.2.2.1 T_X5_days.2.2.2.1 ∈ kx_tbl := (kx_tb 1345 (by decide +kernel) (by decide +kernel))
theorem kpd_X5_days : T_X5_days.1.cls ≠ "java/lang/invoke/MethodHandle" ∧ T_X5_days.1.cls ≠ "java/lang/invoke/VarHandle" ∧ (parseMethodDescriptor T_X5_days.1.desc).map (fun d => d.parameters.length) = some 1 := ⟨by decide +kernel, by decide +kernel, by decide +kernel⟩
theorem kse_X5_days : Cond.instanceMethod T_X5_days.1 ∈ kx_tbl ∧ Cond.selects T_X5_days.1.cls T_X5_days.1 T_X5_days.1 ∈ kx_tbl := ⟨(kx_tb 1343 (by decide +kernel) (by decide +kernel)), (kx_tb 1344 (by decide +kernel) (by decide +kernel))⟩
theorem klk_L_246 : kx_Lk RL 246 T_X5_days 1 := ⟨kpd_X5_days, (kx_tb 1342 (by decide +kernel) (by decide +kernel)), kini_X5, kcd_X5_days⟩
theorem kcd_X4_seed : Cond.code T_X4_seed.1 T_X4_seed.2.1 T_X4_seed.2.2.1 T_X4_seed.2.2.2.1 ∈ kx_tbl := (kx_tb 813 (by decide +kernel) (by decide +kernel))
theorem kpd_X4_seed : T_X4_seed.1.cls ≠ "java/lang/invoke/MethodHandle" ∧ T_X4_seed.1.cls ≠ "java/lang/invoke/VarHandle" ∧ (parseMethodDescriptor T_X4_seed.1.desc).map (fun d => d.parameters.length) = some 1 := ⟨by decide +kernel, by decide +kernel, by decide +kernel⟩
theorem kse_X4_seed : Cond.instanceMethod T_X4_seed.1 ∈ kx_tbl ∧ Cond.selects T_X4_seed.1.cls T_X4_seed.1 T_X4_seed.1 ∈ kx_tbl := ⟨(kx_tb 811 (by decide +kernel) (by decide +kernel)), (kx_tb 812 (by decide +kernel) (by decide +kernel))⟩
theorem klk_L_247 : kx_Lk RL 247 T_X4_seed 1 := ⟨kpd_X4_seed, (kx_tb 810 (by decide +kernel) (by decide +kernel)), kini_X4, kcd_X4_seed⟩
theorem kcd_X5_seed : Cond.code T_X5_seed.1 T_X5_seed.2.1 T_X5_seed.2.2.1 T_X5_seed.2.2.2.1 ∈ kx_tbl := (kx_tb 1354 (by decide +kernel) (by decide +kernel))
theorem kpd_X5_seed : T_X5_seed.1.cls ≠ "java/lang/invoke/MethodHandle" ∧ T_X5_seed.1.cls ≠ "java/lang/invoke/VarHandle" ∧ (parseMethodDescriptor T_X5_seed.1.desc).map (fun d => d.parameters.length) = some 1 := ⟨by decide +kernel, by decide +kernel, by decide +kernel⟩
theorem kse_X5_seed : Cond.instanceMethod T_X5_seed.1 ∈ kx_tbl ∧ Cond.selects T_X5_seed.1.cls T_X5_seed.1 T_X5_seed.1 ∈ kx_tbl := ⟨(kx_tb 1352 (by decide +kernel) (by decide +kernel)), (kx_tb 1353 (by decide +kernel) (by decide +kernel))⟩
theorem klk_L_250 : kx_Lk RL 250 T_X5_seed 1 := ⟨kpd_X5_seed, (kx_tb 1351 (by decide +kernel) (by decide +kernel)), kini_X5, kcd_X5_seed⟩
theorem kcd_X4_image : Cond.code T_X4_image.1 T_X4_image.2.1 T_X4_image.2.2.1 T_X4_image.2.2.2.1 ∈ kx_tbl := (kx_tb 817 (by decide +kernel) (by decide +kernel))
theorem kpd_X4_image : T_X4_image.1.cls ≠ "java/lang/invoke/MethodHandle" ∧ T_X4_image.1.cls ≠ "java/lang/invoke/VarHandle" ∧ (parseMethodDescriptor T_X4_image.1.desc).map (fun d => d.parameters.length) = some 0 := ⟨by decide +kernel, by decide +kernel, by decide +kernel⟩
theorem kse_X4_image : Cond.instanceMethod T_X4_image.1 ∈ kx_tbl ∧ Cond.selects T_X4_image.1.cls T_X4_image.1 T_X4_image.1 ∈ kx_tbl := ⟨(kx_tb 815 (by decide +kernel) (by decide +kernel)), (kx_tb 816 (by decide +kernel) (by decide +kernel))⟩
theorem klk_L_251 : kx_Lk RL 251 T_X4_image 0 := ⟨kpd_X4_image, (kx_tb 814 (by decide +kernel) (by decide +kernel)), kini_X4, kcd_X4_image⟩
theorem kcd_X5_image : Cond.code T_X5_image.1 T_X5_image.2.1 T_X5_image.2.2.1 T_X5_image.2.2.2.1 ∈ kx_tbl := (kx_tb 1358 (by decide +kernel) (by decide +kernel))
theorem kpd_X5_image : T_X5_image.1.cls ≠ "java/lang/invoke/MethodHandle" ∧ T_X5_image.1.cls ≠ "java/lang/invoke/VarHandle" ∧ (parseMethodDescriptor T_X5_image.1.desc).map (fun d => d.parameters.length) = some 0 := ⟨by decide +kernel, by decide +kernel, by decide +kernel⟩
theorem kse_X5_image : Cond.instanceMethod T_X5_image.1 ∈ kx_tbl ∧ Cond.selects T_X5_image.1.cls T_X5_image.1 T_X5_image.1 ∈ kx_tbl := ⟨(kx_tb 1356 (by decide +kernel) (by decide +kernel)), (kx_tb 1357 (by decide +kernel) (by decide +kernel))⟩
theorem klk_L_254 : kx_Lk RL 254 T_X5_image 0 := ⟨kpd_X5_image, (kx_tb 1355 (by decide +kernel) (by decide +kernel)), kini_X5, kcd_X5_image⟩
theorem kcd_X4_back : Cond.code T_X4_back.1 T_X4_back.2.1 T_X4_back.2.2.1 T_X4_back.2.2.2.1 ∈ kx_tbl := (kx_tb 821 (by decide +kernel) (by decide +kernel))
theorem kpd_X4_back : T_X4_back.1.cls ≠ "java/lang/invoke/MethodHandle" ∧ T_X4_back.1.cls ≠ "java/lang/invoke/VarHandle" ∧ (parseMethodDescriptor T_X4_back.1.desc).map (fun d => d.parameters.length) = some 0 := ⟨by decide +kernel, by decide +kernel, by decide +kernel⟩
theorem kse_X4_back : Cond.instanceMethod T_X4_back.1 ∈ kx_tbl ∧ Cond.selects T_X4_back.1.cls T_X4_back.1 T_X4_back.1 ∈ kx_tbl := ⟨(kx_tb 819 (by decide +kernel) (by decide +kernel)), (kx_tb 820 (by decide +kernel) (by decide +kernel))⟩
theorem klk_L_255 : kx_Lk RL 255 T_X4_back 0 := ⟨kpd_X4_back, (kx_tb 818 (by decide +kernel) (by decide +kernel)), kini_X4, kcd_X4_back⟩
theorem kcd_X5_back : Cond.code T_X5_back.1 T_X5_back.2.1 T_X5_back.2.2.1 T_X5_back.2.2.2.1 ∈ kx_tbl := (kx_tb 1362 (by decide +kernel) (by decide +kernel))
theorem kpd_X5_back : T_X5_back.1.cls ≠ "java/lang/invoke/MethodHandle" ∧ T_X5_back.1.cls ≠ "java/lang/invoke/VarHandle" ∧ (parseMethodDescriptor T_X5_back.1.desc).map (fun d => d.parameters.length) = some 0 := ⟨by decide +kernel, by decide +kernel, by decide +kernel⟩
theorem kse_X5_back : Cond.instanceMethod T_X5_back.1 ∈ kx_tbl ∧ Cond.selects T_X5_back.1.cls T_X5_back.1 T_X5_back.1 ∈ kx_tbl := ⟨(kx_tb 1360 (by decide +kernel) (by decide +kernel)), (kx_tb 1361 (by decide +kernel) (by decide +kernel))⟩
theorem klk_L_258 : kx_Lk RL 258 T_X5_back 0 := ⟨kpd_X5_back, (kx_tb 1359 (by decide +kernel) (by decide +kernel)), kini_X5, kcd_X5_back⟩
theorem kcd_X4_status : Cond.code T_X4_status.1 T_X4_status.2.1 T_X4_status.2.2.1 T_X4_status.2.2.2.1 ∈ kx_tbl := (kx_tb 825 (by decide +kernel) (by decide +kernel))
theorem kpd_X4_status : T_X4_status.1.cls ≠ "java/lang/invoke/MethodHandle" ∧ T_X4_status.1.cls ≠ "java/lang/invoke/VarHandle" ∧ (parseMethodDescriptor T_X4_status.1.desc).map (fun d => d.parameters.length) = some 1 := ⟨by decide +kernel, by decide +kernel, by decide +kernel⟩
theorem kse_X4_status : Cond.instanceMethod T_X4_status.1 ∈ kx_tbl ∧ Cond.selects T_X4_status.1.cls T_X4_status.1 T_X4_status.1 ∈ kx_tbl := ⟨(kx_tb 823 (by decide +kernel) (by decide +kernel)), (kx_tb 824 (by decide +kernel) (by decide +kernel))⟩
theorem klk_L_259 : kx_Lk RL 259 T_X4_status 1 := ⟨kpd_X4_status, (kx_tb 822 (by decide +kernel) (by decide +kernel)), kini_X4, kcd_X4_status⟩
theorem kcd_X5_status : Cond.code T_X5_status.1 T_X5_status.2.1 T_X5_status.2.2.1 T_X5_status.2.2.2.1 ∈ kx_tbl := (kx_tb 1366 (by decide +kernel) (by decide +kernel))
theorem kpd_X5_status : T_X5_status.1.cls ≠ "java/lang/invoke/MethodHandle" ∧ T_X5_status.1.cls ≠ "java/lang/invoke/VarHandle" ∧ (parseMethodDescriptor T_X5_status.1.desc).map (fun d => d.parameters.length) = some 1 := ⟨by decide +kernel, by decide +kernel, by decide +kernel⟩
theorem kse_X5_status : Cond.instanceMethod T_X5_status.1 ∈ kx_tbl ∧ Cond.selects T_X5_status.1.cls T_X5_status.1 T_X5_status.1 ∈ kx_tbl := ⟨(kx_tb 1364 (by decide +kernel) (by decide +kernel)), (kx_tb 1365 (by decide +kernel) (by decide +kernel))⟩
theorem klk_L_262 : kx_Lk RL 262 T_X5_status 1 := ⟨kpd_X5_status, (kx_tb 1363 (by decide +kernel) (by decide +kernel)), kini_X5, kcd_X5_status⟩
/-- a step of both: called alike they answer alike, and what holds between the memories holds again -/
def kl_simI (Inv : kx_M → kx_M → Prop) (TX TM : kx_T) (as : List Value) : Prop := ∀ Mx Mm : kx_M, Inv Mx Mm → ∃ (r : Int32) (Mx' Mm' : kx_M), kx_Call EX 60 TX (.ref 0 :: as) Mx (some (.int r)) Mx' ∧ kx_Call EM 60 TM (.ref 0 :: as) Mm (some (.int r)) Mm' ∧ Inv Mx' Mm'
/-- a step of both: called alike they answer alike, and what holds between the memories holds again -/
def kl_simL (Inv : kx_M → kx_M → Prop) (TX TM : kx_T) (as : List Value) : Prop := ∀ Mx Mm : kx_M, Inv Mx Mm → ∃ (r : Int64) (Mx' Mm' : kx_M), kx_Call EX 60 TX (.ref 0 :: as) Mx (some (.long r)) Mx' ∧ kx_Call EM 60 TM (.ref 0 :: as) Mm (some (.long r)) Mm' ∧ Inv Mx' Mm'
set_option maxRecDepth 100000 in
set_option maxHeartbeats 4000000 in
theorem kl_case0 {p : Program} {l : Launch} {e : Env} {s : State} {m : MethodId} {below : List Frame} {meth : Method} {c0 : Code} {D : va_G} {ac : Nat → ClassId} {adx adm : Nat → Nat} {b0 Lx : Nat} {xs : Nat → Int32} (hC : kl_C p s m meth c0 D ac adx adm b0 Lx xs) {Inv : kx_M → kx_M → Prop} {Mx Mm : kx_M} (hinv0 : Inv Mx Mm) {x3 : Int32} (hi1 : vp_in (x3 + (1 : Int32)) Lx) (hi2 : vp_in (x3 + (2 : Int32)) Lx) (hi3 : vp_in (x3 + (3 : Int32)) Lx) (hi4 : vp_in (x3 + (4 : Int32)) Lx) (hi5 : vp_in (x3 + (5 : Int32)) Lx) (hs : kl_simI Inv T_X4_row T_X5_row [.int (xs (x3 + (1 : Int32)).toNatClampNeg), .int (xs (x3 + (2 : Int32)).toNatClampNeg), .int (xs (x3 + (3 : Int32)).toNatClampNeg)]) (kk : ∀ Mx' Mm', Inv Mx' Mm' → kl_R p l e s m below meth c0 D ac adx adm b0 (2039, [some (.ref 0), some (.ref 1), some (.ref 2), some (.int x3)], []) Mx' Mm') : kl_R p l e s m below meth c0 D ac adx adm b0 (288, [some (.ref 0), some (.ref 1), some (.ref 2), some (.int x3)], []) Mx Mm := by
  obtain ⟨r1, Mx', Mm', hcx, hcm, hinv⟩ := hs Mx Mm hinv0
  have hr : kl_num (.int r1) := Or.inl ⟨r1, rfl⟩
  refine kl_go hC (pc' := 293) (L' := [some (.ref 0), some (.ref 1), some (.ref 2), some (.int x3)]) (st' := [.int (x3 + (1 : Int32)), .ref 0, .ref 1]) 5 rfl ?_
  refine kl_sld hC rfl hi1 ?_
  refine kl_go hC (pc' := 298) (L' := [some (.ref 0), some (.ref 1), some (.ref 2), some (.int x3)]) (st' := [.int (x3 + (2 : Int32)), .ref 0, .int (xs (x3 + (1 : Int32)).toNatClampNeg), .ref 1]) 4 rfl ?_
  refine kl_sld hC rfl hi2 ?_
  refine kl_go hC (pc' := 303) (L' := [some (.ref 0), some (.ref 1), some (.ref 2), some (.int x3)]) (st' := [.int (x3 + (3 : Int32)), .ref 0, .int (xs (x3 + (2 : Int32)).toNatClampNeg), .int (xs (x3 + (1 : Int32)).toNatClampNeg), .ref 1]) 4 rfl ?_
  refine kl_sld hC rfl hi3 ?_
  refine kl_callX hC (as := [.int (xs (x3 + (1 : Int32)).toNatClampNeg), .int (xs (x3 + (2 : Int32)).toNatClampNeg), .int (xs (x3 + (3 : Int32)).toNatClampNeg)]) (rest := []) rfl klk_L_13 kse_X4_row rfl rfl rfl rfl (Nat.le_of_ble_eq_true rfl) (Nat.le_of_ble_eq_true rfl) hr hcx ?_
  show kl_R p l e s m below meth c0 D ac adx adm b0 (307, [some (.ref 0), some (.ref 1), some (.ref 2), some (.int x3)], [.int r1]) _ _
  refine kl_go hC (pc' := 312) (L' := [some (.ref 0), some (.ref 1), some (.ref 2), some (.int x3)]) (st' := [.int (x3 + (1 : Int32)), .ref 0, .ref 2, .int r1]) 5 rfl ?_
  refine kl_sld hC rfl hi1 ?_
  refine kl_go hC (pc' := 317) (L' := [some (.ref 0), some (.ref 1), some (.ref 2), some (.int x3)]) (st' := [.int (x3 + (2 : Int32)), .ref 0, .int (xs (x3 + (1 : Int32)).toNatClampNeg), .ref 2, .int r1]) 4 rfl ?_
  refine kl_sld hC rfl hi2 ?_
  refine kl_go hC (pc' := 322) (L' := [some (.ref 0), some (.ref 1), some (.ref 2), some (.int x3)]) (st' := [.int (x3 + (3 : Int32)), .ref 0, .int (xs (x3 + (2 : Int32)).toNatClampNeg), .int (xs (x3 + (1 : Int32)).toNatClampNeg), .ref 2, .int r1]) 4 rfl ?_
  refine kl_sld hC rfl hi3 ?_
  refine kl_callM hC (as := [.int (xs (x3 + (1 : Int32)).toNatClampNeg), .int (xs (x3 + (2 : Int32)).toNatClampNeg), .int (xs (x3 + (3 : Int32)).toNatClampNeg)]) (rest := [.int r1]) rfl klk_L_17 kse_X5_row rfl rfl rfl rfl (Nat.le_of_ble_eq_true rfl) (Nat.le_of_ble_eq_true rfl) hr hcm ?_
  show kl_R p l e s m below meth c0 D ac adx adm b0 (326, [some (.ref 0), some (.ref 1), some (.ref 2), some (.int x3)], [.int r1, .int r1]) _ _
  refine kl_eq hC rfl ?_
  exact kk _ _ hinv
set_option maxRecDepth 100000 in
set_option maxHeartbeats 4000000 in
theorem kl_case1 {p : Program} {l : Launch} {e : Env} {s : State} {m : MethodId} {below : List Frame} {meth : Method} {c0 : Code} {D : va_G} {ac : Nat → ClassId} {adx adm : Nat → Nat} {b0 Lx : Nat} {xs : Nat → Int32} (hC : kl_C p s m meth c0 D ac adx adm b0 Lx xs) {Inv : kx_M → kx_M → Prop} {Mx Mm : kx_M} (hinv0 : Inv Mx Mm) {x3 : Int32} (hi1 : vp_in (x3 + (1 : Int32)) Lx) (hi2 : vp_in (x3 + (2 : Int32)) Lx) (hi3 : vp_in (x3 + (3 : Int32)) Lx) (hi4 : vp_in (x3 + (4 : Int32)) Lx) (hi5 : vp_in (x3 + (5 : Int32)) Lx) (hs : kl_simI Inv T_X4_set T_X5_set [.int (xs (x3 + (1 : Int32)).toNatClampNeg), .int (xs (x3 + (2 : Int32)).toNatClampNeg), .long ((((xs (x3 + (3 : Int32)).toNatClampNeg)).toInt64 <<< (((32 : Int32)).toInt64 &&& 63)) ||| (((xs (x3 + (4 : Int32)).toNatClampNeg)).toInt64 &&& (4294967295 : Int64)))]) (kk : ∀ Mx' Mm', Inv Mx' Mm' → kl_R p l e s m below meth c0 D ac adx adm b0 (2039, [some (.ref 0), some (.ref 1), some (.ref 2), some (.int x3)], []) Mx' Mm') : kl_R p l e s m below meth c0 D ac adx adm b0 (331, [some (.ref 0), some (.ref 1), some (.ref 2), some (.int x3)], []) Mx Mm := by
  obtain ⟨r1, Mx', Mm', hcx, hcm, hinv⟩ := hs Mx Mm hinv0
  have hr : kl_num (.int r1) := Or.inl ⟨r1, rfl⟩
  refine kl_go hC (pc' := 336) (L' := [some (.ref 0), some (.ref 1), some (.ref 2), some (.int x3)]) (st' := [.int (x3 + (1 : Int32)), .ref 0, .ref 1]) 5 rfl ?_
  refine kl_sld hC rfl hi1 ?_
  refine kl_go hC (pc' := 341) (L' := [some (.ref 0), some (.ref 1), some (.ref 2), some (.int x3)]) (st' := [.int (x3 + (2 : Int32)), .ref 0, .int (xs (x3 + (1 : Int32)).toNatClampNeg), .ref 1]) 4 rfl ?_
  refine kl_sld hC rfl hi2 ?_
  refine kl_go hC (pc' := 346) (L' := [some (.ref 0), some (.ref 1), some (.ref 2), some (.int x3)]) (st' := [.int (x3 + (3 : Int32)), .ref 0, .int (xs (x3 + (2 : Int32)).toNatClampNeg), .int (xs (x3 + (1 : Int32)).toNatClampNeg), .ref 1]) 4 rfl ?_
  refine kl_sld hC rfl hi3 ?_
  refine kl_go hC (pc' := 355) (L' := [some (.ref 0), some (.ref 1), some (.ref 2), some (.int x3)]) (st' := [.int (x3 + (4 : Int32)), .ref 0, .long (((xs (x3 + (3 : Int32)).toNatClampNeg)).toInt64 <<< (((32 : Int32)).toInt64 &&& 63)), .int (xs (x3 + (2 : Int32)).toNatClampNeg), .int (xs (x3 + (1 : Int32)).toNatClampNeg), .ref 1]) 7 rfl ?_
  refine kl_sld hC rfl hi4 ?_
  refine kl_go hC (pc' := 357) (L' := [some (.ref 0), some (.ref 1), some (.ref 2), some (.int x3)]) (st' := [.long ((xs (x3 + (4 : Int32)).toNatClampNeg)).toInt64, .long (((xs (x3 + (3 : Int32)).toNatClampNeg)).toInt64 <<< (((32 : Int32)).toInt64 &&& 63)), .int (xs (x3 + (2 : Int32)).toNatClampNeg), .int (xs (x3 + (1 : Int32)).toNatClampNeg), .ref 1]) 1 rfl ?_
  refine kl_ldc2 hC (v := 4294967295) (show decode T_law.2.1 357 = .ok (.ldc2_w 18, 3) from by decide +kernel) (List.mem_filter.mp (kx_tb 1367 (by decide +kernel) (by decide +kernel))).1 ?_
  refine kl_go hC (pc' := 362) (L' := [some (.ref 0), some (.ref 1), some (.ref 2), some (.int x3)]) (st' := [.long ((((xs (x3 + (3 : Int32)).toNatClampNeg)).toInt64 <<< (((32 : Int32)).toInt64 &&& 63)) ||| (((xs (x3 + (4 : Int32)).toNatClampNeg)).toInt64 &&& (4294967295 : Int64))), .int (xs (x3 + (2 : Int32)).toNatClampNeg), .int (xs (x3 + (1 : Int32)).toNatClampNeg), .ref 1]) 2 rfl ?_
  refine kl_callX hC (as := [.int (xs (x3 + (1 : Int32)).toNatClampNeg), .int (xs (x3 + (2 : Int32)).toNatClampNeg), .long ((((xs (x3 + (3 : Int32)).toNatClampNeg)).toInt64 <<< (((32 : Int32)).toInt64 &&& 63)) ||| (((xs (x3 + (4 : Int32)).toNatClampNeg)).toInt64 &&& (4294967295 : Int64)))]) (rest := []) rfl klk_L_20 kse_X4_set rfl rfl rfl rfl (Nat.le_of_ble_eq_true rfl) (Nat.le_of_ble_eq_true rfl) hr hcx ?_
  show kl_R p l e s m below meth c0 D ac adx adm b0 (365, [some (.ref 0), some (.ref 1), some (.ref 2), some (.int x3)], [.int r1]) _ _
  refine kl_go hC (pc' := 370) (L' := [some (.ref 0), some (.ref 1), some (.ref 2), some (.int x3)]) (st' := [.int (x3 + (1 : Int32)), .ref 0, .ref 2, .int r1]) 5 rfl ?_
  refine kl_sld hC rfl hi1 ?_
  refine kl_go hC (pc' := 375) (L' := [some (.ref 0), some (.ref 1), some (.ref 2), some (.int x3)]) (st' := [.int (x3 + (2 : Int32)), .ref 0, .int (xs (x3 + (1 : Int32)).toNatClampNeg), .ref 2, .int r1]) 4 rfl ?_
  refine kl_sld hC rfl hi2 ?_
  refine kl_go hC (pc' := 380) (L' := [some (.ref 0), some (.ref 1), some (.ref 2), some (.int x3)]) (st' := [.int (x3 + (3 : Int32)), .ref 0, .int (xs (x3 + (2 : Int32)).toNatClampNeg), .int (xs (x3 + (1 : Int32)).toNatClampNeg), .ref 2, .int r1]) 4 rfl ?_
  refine kl_sld hC rfl hi3 ?_
  refine kl_go hC (pc' := 389) (L' := [some (.ref 0), some (.ref 1), some (.ref 2), some (.int x3)]) (st' := [.int (x3 + (4 : Int32)), .ref 0, .long (((xs (x3 + (3 : Int32)).toNatClampNeg)).toInt64 <<< (((32 : Int32)).toInt64 &&& 63)), .int (xs (x3 + (2 : Int32)).toNatClampNeg), .int (xs (x3 + (1 : Int32)).toNatClampNeg), .ref 2, .int r1]) 7 rfl ?_
  refine kl_sld hC rfl hi4 ?_
  refine kl_go hC (pc' := 391) (L' := [some (.ref 0), some (.ref 1), some (.ref 2), some (.int x3)]) (st' := [.long ((xs (x3 + (4 : Int32)).toNatClampNeg)).toInt64, .long (((xs (x3 + (3 : Int32)).toNatClampNeg)).toInt64 <<< (((32 : Int32)).toInt64 &&& 63)), .int (xs (x3 + (2 : Int32)).toNatClampNeg), .int (xs (x3 + (1 : Int32)).toNatClampNeg), .ref 2, .int r1]) 1 rfl ?_
  refine kl_ldc2 hC (v := 4294967295) (show decode T_law.2.1 391 = .ok (.ldc2_w 18, 3) from by decide +kernel) (List.mem_filter.mp (kx_tb 1367 (by decide +kernel) (by decide +kernel))).1 ?_
  refine kl_go hC (pc' := 396) (L' := [some (.ref 0), some (.ref 1), some (.ref 2), some (.int x3)]) (st' := [.long ((((xs (x3 + (3 : Int32)).toNatClampNeg)).toInt64 <<< (((32 : Int32)).toInt64 &&& 63)) ||| (((xs (x3 + (4 : Int32)).toNatClampNeg)).toInt64 &&& (4294967295 : Int64))), .int (xs (x3 + (2 : Int32)).toNatClampNeg), .int (xs (x3 + (1 : Int32)).toNatClampNeg), .ref 2, .int r1]) 2 rfl ?_
  refine kl_callM hC (as := [.int (xs (x3 + (1 : Int32)).toNatClampNeg), .int (xs (x3 + (2 : Int32)).toNatClampNeg), .long ((((xs (x3 + (3 : Int32)).toNatClampNeg)).toInt64 <<< (((32 : Int32)).toInt64 &&& 63)) ||| (((xs (x3 + (4 : Int32)).toNatClampNeg)).toInt64 &&& (4294967295 : Int64)))]) (rest := [.int r1]) rfl klk_L_24 kse_X5_set rfl rfl rfl rfl (Nat.le_of_ble_eq_true rfl) (Nat.le_of_ble_eq_true rfl) hr hcm ?_
  show kl_R p l e s m below meth c0 D ac adx adm b0 (399, [some (.ref 0), some (.ref 1), some (.ref 2), some (.int x3)], [.int r1, .int r1]) _ _
  refine kl_eq hC rfl ?_
  exact kk _ _ hinv
set_option maxRecDepth 100000 in
set_option maxHeartbeats 4000000 in
theorem kl_case2 {p : Program} {l : Launch} {e : Env} {s : State} {m : MethodId} {below : List Frame} {meth : Method} {c0 : Code} {D : va_G} {ac : Nat → ClassId} {adx adm : Nat → Nat} {b0 Lx : Nat} {xs : Nat → Int32} (hC : kl_C p s m meth c0 D ac adx adm b0 Lx xs) {Inv : kx_M → kx_M → Prop} {Mx Mm : kx_M} (hinv0 : Inv Mx Mm) {x3 : Int32} (hi1 : vp_in (x3 + (1 : Int32)) Lx) (hi2 : vp_in (x3 + (2 : Int32)) Lx) (hi3 : vp_in (x3 + (3 : Int32)) Lx) (hi4 : vp_in (x3 + (4 : Int32)) Lx) (hi5 : vp_in (x3 + (5 : Int32)) Lx) (hs : kl_simI Inv T_X4_copy T_X5_copy [.int (xs (x3 + (1 : Int32)).toNatClampNeg), .int (xs (x3 + (2 : Int32)).toNatClampNeg), .int (xs (x3 + (3 : Int32)).toNatClampNeg), .int (xs (x3 + (4 : Int32)).toNatClampNeg), .int (xs (x3 + (5 : Int32)).toNatClampNeg)]) (kk : ∀ Mx' Mm', Inv Mx' Mm' → kl_R p l e s m below meth c0 D ac adx adm b0 (2039, [some (.ref 0), some (.ref 1), some (.ref 2), some (.int x3)], []) Mx' Mm') : kl_R p l e s m below meth c0 D ac adx adm b0 (404, [some (.ref 0), some (.ref 1), some (.ref 2), some (.int x3)], []) Mx Mm := by
  obtain ⟨r1, Mx', Mm', hcx, hcm, hinv⟩ := hs Mx Mm hinv0
  have hr : kl_num (.int r1) := Or.inl ⟨r1, rfl⟩
  refine kl_go hC (pc' := 409) (L' := [some (.ref 0), some (.ref 1), some (.ref 2), some (.int x3)]) (st' := [.int (x3 + (1 : Int32)), .ref 0, .ref 1]) 5 rfl ?_
  refine kl_sld hC rfl hi1 ?_
  refine kl_go hC (pc' := 414) (L' := [some (.ref 0), some (.ref 1), some (.ref 2), some (.int x3)]) (st' := [.int (x3 + (2 : Int32)), .ref 0, .int (xs (x3 + (1 : Int32)).toNatClampNeg), .ref 1]) 4 rfl ?_
  refine kl_sld hC rfl hi2 ?_
  refine kl_go hC (pc' := 419) (L' := [some (.ref 0), some (.ref 1), some (.ref 2), some (.int x3)]) (st' := [.int (x3 + (3 : Int32)), .ref 0, .int (xs (x3 + (2 : Int32)).toNatClampNeg), .int (xs (x3 + (1 : Int32)).toNatClampNeg), .ref 1]) 4 rfl ?_
  refine kl_sld hC rfl hi3 ?_
  refine kl_go hC (pc' := 424) (L' := [some (.ref 0), some (.ref 1), some (.ref 2), some (.int x3)]) (st' := [.int (x3 + (4 : Int32)), .ref 0, .int (xs (x3 + (3 : Int32)).toNatClampNeg), .int (xs (x3 + (2 : Int32)).toNatClampNeg), .int (xs (x3 + (1 : Int32)).toNatClampNeg), .ref 1]) 4 rfl ?_
  refine kl_sld hC rfl hi4 ?_
  refine kl_go hC (pc' := 429) (L' := [some (.ref 0), some (.ref 1), some (.ref 2), some (.int x3)]) (st' := [.int (x3 + (5 : Int32)), .ref 0, .int (xs (x3 + (4 : Int32)).toNatClampNeg), .int (xs (x3 + (3 : Int32)).toNatClampNeg), .int (xs (x3 + (2 : Int32)).toNatClampNeg), .int (xs (x3 + (1 : Int32)).toNatClampNeg), .ref 1]) 4 rfl ?_
  refine kl_sld hC rfl hi5 ?_
  refine kl_callX hC (as := [.int (xs (x3 + (1 : Int32)).toNatClampNeg), .int (xs (x3 + (2 : Int32)).toNatClampNeg), .int (xs (x3 + (3 : Int32)).toNatClampNeg), .int (xs (x3 + (4 : Int32)).toNatClampNeg), .int (xs (x3 + (5 : Int32)).toNatClampNeg)]) (rest := []) rfl klk_L_25 kse_X4_copy rfl rfl rfl rfl (Nat.le_of_ble_eq_true rfl) (Nat.le_of_ble_eq_true rfl) hr hcx ?_
  show kl_R p l e s m below meth c0 D ac adx adm b0 (433, [some (.ref 0), some (.ref 1), some (.ref 2), some (.int x3)], [.int r1]) _ _
  refine kl_go hC (pc' := 438) (L' := [some (.ref 0), some (.ref 1), some (.ref 2), some (.int x3)]) (st' := [.int (x3 + (1 : Int32)), .ref 0, .ref 2, .int r1]) 5 rfl ?_
  refine kl_sld hC rfl hi1 ?_
  refine kl_go hC (pc' := 443) (L' := [some (.ref 0), some (.ref 1), some (.ref 2), some (.int x3)]) (st' := [.int (x3 + (2 : Int32)), .ref 0, .int (xs (x3 + (1 : Int32)).toNatClampNeg), .ref 2, .int r1]) 4 rfl ?_
  refine kl_sld hC rfl hi2 ?_
  refine kl_go hC (pc' := 448) (L' := [some (.ref 0), some (.ref 1), some (.ref 2), some (.int x3)]) (st' := [.int (x3 + (3 : Int32)), .ref 0, .int (xs (x3 + (2 : Int32)).toNatClampNeg), .int (xs (x3 + (1 : Int32)).toNatClampNeg), .ref 2, .int r1]) 4 rfl ?_
  refine kl_sld hC rfl hi3 ?_
  refine kl_go hC (pc' := 453) (L' := [some (.ref 0), some (.ref 1), some (.ref 2), some (.int x3)]) (st' := [.int (x3 + (4 : Int32)), .ref 0, .int (xs (x3 + (3 : Int32)).toNatClampNeg), .int (xs (x3 + (2 : Int32)).toNatClampNeg), .int (xs (x3 + (1 : Int32)).toNatClampNeg), .ref 2, .int r1]) 4 rfl ?_
  refine kl_sld hC rfl hi4 ?_
  refine kl_go hC (pc' := 458) (L' := [some (.ref 0), some (.ref 1), some (.ref 2), some (.int x3)]) (st' := [.int (x3 + (5 : Int32)), .ref 0, .int (xs (x3 + (4 : Int32)).toNatClampNeg), .int (xs (x3 + (3 : Int32)).toNatClampNeg), .int (xs (x3 + (2 : Int32)).toNatClampNeg), .int (xs (x3 + (1 : Int32)).toNatClampNeg), .ref 2, .int r1]) 4 rfl ?_
  refine kl_sld hC rfl hi5 ?_
  refine kl_callM hC (as := [.int (xs (x3 + (1 : Int32)).toNatClampNeg), .int (xs (x3 + (2 : Int32)).toNatClampNeg), .int (xs (x3 + (3 : Int32)).toNatClampNeg), .int (xs (x3 + (4 : Int32)).toNatClampNeg), .int (xs (x3 + (5 : Int32)).toNatClampNeg)]) (rest := [.int r1]) rfl klk_L_29 kse_X5_copy rfl rfl rfl rfl (Nat.le_of_ble_eq_true rfl) (Nat.le_of_ble_eq_true rfl) hr hcm ?_
  show kl_R p l e s m below meth c0 D ac adx adm b0 (462, [some (.ref 0), some (.ref 1), some (.ref 2), some (.int x3)], [.int r1, .int r1]) _ _
  refine kl_eq hC rfl ?_
  exact kk _ _ hinv
set_option maxRecDepth 100000 in
set_option maxHeartbeats 4000000 in
theorem kl_case3 {p : Program} {l : Launch} {e : Env} {s : State} {m : MethodId} {below : List Frame} {meth : Method} {c0 : Code} {D : va_G} {ac : Nat → ClassId} {adx adm : Nat → Nat} {b0 Lx : Nat} {xs : Nat → Int32} (hC : kl_C p s m meth c0 D ac adx adm b0 Lx xs) {Inv : kx_M → kx_M → Prop} {Mx Mm : kx_M} (hinv0 : Inv Mx Mm) {x3 : Int32} (hi1 : vp_in (x3 + (1 : Int32)) Lx) (hi2 : vp_in (x3 + (2 : Int32)) Lx) (hi3 : vp_in (x3 + (3 : Int32)) Lx) (hi4 : vp_in (x3 + (4 : Int32)) Lx) (hi5 : vp_in (x3 + (5 : Int32)) Lx) (hs : kl_simL Inv T_X4_element T_X5_element [.int (xs (x3 + (1 : Int32)).toNatClampNeg), .int (xs (x3 + (2 : Int32)).toNatClampNeg)]) (kk : ∀ Mx' Mm', Inv Mx' Mm' → kl_R p l e s m below meth c0 D ac adx adm b0 (2039, [some (.ref 0), some (.ref 1), some (.ref 2), some (.int x3)], []) Mx' Mm') : kl_R p l e s m below meth c0 D ac adx adm b0 (467, [some (.ref 0), some (.ref 1), some (.ref 2), some (.int x3)], []) Mx Mm := by
  obtain ⟨r1, Mx', Mm', hcx, hcm, hinv⟩ := hs Mx Mm hinv0
  have hr : kl_num (.long r1) := Or.inr ⟨r1, rfl⟩
  refine kl_go hC (pc' := 472) (L' := [some (.ref 0), some (.ref 1), some (.ref 2), some (.int x3)]) (st' := [.int (x3 + (1 : Int32)), .ref 0, .ref 1]) 5 rfl ?_
  refine kl_sld hC rfl hi1 ?_
  refine kl_go hC (pc' := 477) (L' := [some (.ref 0), some (.ref 1), some (.ref 2), some (.int x3)]) (st' := [.int (x3 + (2 : Int32)), .ref 0, .int (xs (x3 + (1 : Int32)).toNatClampNeg), .ref 1]) 4 rfl ?_
  refine kl_sld hC rfl hi2 ?_
  refine kl_callX hC (as := [.int (xs (x3 + (1 : Int32)).toNatClampNeg), .int (xs (x3 + (2 : Int32)).toNatClampNeg)]) (rest := []) rfl klk_L_30 kse_X4_element rfl rfl rfl rfl (Nat.le_of_ble_eq_true rfl) (Nat.le_of_ble_eq_true rfl) hr hcx ?_
  show kl_R p l e s m below meth c0 D ac adx adm b0 (481, [some (.ref 0), some (.ref 1), some (.ref 2), some (.int x3)], [.long r1]) _ _
  refine kl_go hC (pc' := 486) (L' := [some (.ref 0), some (.ref 1), some (.ref 2), some (.int x3)]) (st' := [.int (x3 + (1 : Int32)), .ref 0, .ref 2, .long r1]) 5 rfl ?_
  refine kl_sld hC rfl hi1 ?_
  refine kl_go hC (pc' := 491) (L' := [some (.ref 0), some (.ref 1), some (.ref 2), some (.int x3)]) (st' := [.int (x3 + (2 : Int32)), .ref 0, .int (xs (x3 + (1 : Int32)).toNatClampNeg), .ref 2, .long r1]) 4 rfl ?_
  refine kl_sld hC rfl hi2 ?_
  refine kl_callM hC (as := [.int (xs (x3 + (1 : Int32)).toNatClampNeg), .int (xs (x3 + (2 : Int32)).toNatClampNeg)]) (rest := [.long r1]) rfl klk_L_34 kse_X5_element rfl rfl rfl rfl (Nat.le_of_ble_eq_true rfl) (Nat.le_of_ble_eq_true rfl) hr hcm ?_
  show kl_R p l e s m below meth c0 D ac adx adm b0 (495, [some (.ref 0), some (.ref 1), some (.ref 2), some (.int x3)], [.long r1, .long r1]) _ _
  refine kl_go hC (pc' := 496) (L' := [some (.ref 0), some (.ref 1), some (.ref 2), some (.int x3)]) (st' := [.int (lg_cmp r1 r1)]) 1 rfl ?_
  refine kl_eq0 hC rfl ?_
  exact kk _ _ hinv
set_option maxRecDepth 100000 in
set_option maxHeartbeats 4000000 in
theorem kl_case4 {p : Program} {l : Launch} {e : Env} {s : State} {m : MethodId} {below : List Frame} {meth : Method} {c0 : Code} {D : va_G} {ac : Nat → ClassId} {adx adm : Nat → Nat} {b0 Lx : Nat} {xs : Nat → Int32} (hC : kl_C p s m meth c0 D ac adx adm b0 Lx xs) {Inv : kx_M → kx_M → Prop} {Mx Mm : kx_M} (hinv0 : Inv Mx Mm) {x3 : Int32} (hi1 : vp_in (x3 + (1 : Int32)) Lx) (hi2 : vp_in (x3 + (2 : Int32)) Lx) (hi3 : vp_in (x3 + (3 : Int32)) Lx) (hi4 : vp_in (x3 + (4 : Int32)) Lx) (hi5 : vp_in (x3 + (5 : Int32)) Lx) (hs : kl_simI Inv T_X4_holds T_X5_holds [.int (xs (x3 + (1 : Int32)).toNatClampNeg)]) (kk : ∀ Mx' Mm', Inv Mx' Mm' → kl_R p l e s m below meth c0 D ac adx adm b0 (2039, [some (.ref 0), some (.ref 1), some (.ref 2), some (.int x3)], []) Mx' Mm') : kl_R p l e s m below meth c0 D ac adx adm b0 (501, [some (.ref 0), some (.ref 1), some (.ref 2), some (.int x3)], []) Mx Mm := by
  obtain ⟨r1, Mx', Mm', hcx, hcm, hinv⟩ := hs Mx Mm hinv0
  have hr : kl_num (.int r1) := Or.inl ⟨r1, rfl⟩
  refine kl_go hC (pc' := 506) (L' := [some (.ref 0), some (.ref 1), some (.ref 2), some (.int x3)]) (st' := [.int (x3 + (1 : Int32)), .ref 0, .ref 1]) 5 rfl ?_
  refine kl_sld hC rfl hi1 ?_
  refine kl_callX hC (as := [.int (xs (x3 + (1 : Int32)).toNatClampNeg)]) (rest := []) rfl klk_L_35 kse_X4_holds rfl rfl rfl rfl (Nat.le_of_ble_eq_true rfl) (Nat.le_of_ble_eq_true rfl) hr hcx ?_
  show kl_R p l e s m below meth c0 D ac adx adm b0 (510, [some (.ref 0), some (.ref 1), some (.ref 2), some (.int x3)], [.int r1]) _ _
  refine kl_go hC (pc' := 515) (L' := [some (.ref 0), some (.ref 1), some (.ref 2), some (.int x3)]) (st' := [.int (x3 + (1 : Int32)), .ref 0, .ref 2, .int r1]) 5 rfl ?_
  refine kl_sld hC rfl hi1 ?_
  refine kl_callM hC (as := [.int (xs (x3 + (1 : Int32)).toNatClampNeg)]) (rest := [.int r1]) rfl klk_L_39 kse_X5_holds rfl rfl rfl rfl (Nat.le_of_ble_eq_true rfl) (Nat.le_of_ble_eq_true rfl) hr hcm ?_
  show kl_R p l e s m below meth c0 D ac adx adm b0 (519, [some (.ref 0), some (.ref 1), some (.ref 2), some (.int x3)], [.int r1, .int r1]) _ _
  refine kl_eq hC rfl ?_
  exact kk _ _ hinv
set_option maxRecDepth 100000 in
set_option maxHeartbeats 4000000 in
theorem kl_case5 {p : Program} {l : Launch} {e : Env} {s : State} {m : MethodId} {below : List Frame} {meth : Method} {c0 : Code} {D : va_G} {ac : Nat → ClassId} {adx adm : Nat → Nat} {b0 Lx : Nat} {xs : Nat → Int32} (hC : kl_C p s m meth c0 D ac adx adm b0 Lx xs) {Inv : kx_M → kx_M → Prop} {Mx Mm : kx_M} (hinv0 : Inv Mx Mm) {x3 : Int32} (hi1 : vp_in (x3 + (1 : Int32)) Lx) (hi2 : vp_in (x3 + (2 : Int32)) Lx) (hi3 : vp_in (x3 + (3 : Int32)) Lx) (hi4 : vp_in (x3 + (4 : Int32)) Lx) (hi5 : vp_in (x3 + (5 : Int32)) Lx) (hs : kl_simI Inv T_X4_show T_X5_show [.int (xs (x3 + (1 : Int32)).toNatClampNeg), .int (xs (x3 + (2 : Int32)).toNatClampNeg)]) (kk : ∀ Mx' Mm', Inv Mx' Mm' → kl_R p l e s m below meth c0 D ac adx adm b0 (2039, [some (.ref 0), some (.ref 1), some (.ref 2), some (.int x3)], []) Mx' Mm') : kl_R p l e s m below meth c0 D ac adx adm b0 (524, [some (.ref 0), some (.ref 1), some (.ref 2), some (.int x3)], []) Mx Mm := by
  obtain ⟨r1, Mx', Mm', hcx, hcm, hinv⟩ := hs Mx Mm hinv0
  have hr : kl_num (.int r1) := Or.inl ⟨r1, rfl⟩
  refine kl_go hC (pc' := 529) (L' := [some (.ref 0), some (.ref 1), some (.ref 2), some (.int x3)]) (st' := [.int (x3 + (1 : Int32)), .ref 0, .ref 1]) 5 rfl ?_
  refine kl_sld hC rfl hi1 ?_
  refine kl_go hC (pc' := 534) (L' := [some (.ref 0), some (.ref 1), some (.ref 2), some (.int x3)]) (st' := [.int (x3 + (2 : Int32)), .ref 0, .int (xs (x3 + (1 : Int32)).toNatClampNeg), .ref 1]) 4 rfl ?_
  refine kl_sld hC rfl hi2 ?_
  refine kl_callX hC (as := [.int (xs (x3 + (1 : Int32)).toNatClampNeg), .int (xs (x3 + (2 : Int32)).toNatClampNeg)]) (rest := []) rfl klk_L_40 kse_X4_show rfl rfl rfl rfl (Nat.le_of_ble_eq_true rfl) (Nat.le_of_ble_eq_true rfl) hr hcx ?_
  show kl_R p l e s m below meth c0 D ac adx adm b0 (538, [some (.ref 0), some (.ref 1), some (.ref 2), some (.int x3)], [.int r1]) _ _
  refine kl_go hC (pc' := 543) (L' := [some (.ref 0), some (.ref 1), some (.ref 2), some (.int x3)]) (st' := [.int (x3 + (1 : Int32)), .ref 0, .ref 2, .int r1]) 5 rfl ?_
  refine kl_sld hC rfl hi1 ?_
  refine kl_go hC (pc' := 548) (L' := [some (.ref 0), some (.ref 1), some (.ref 2), some (.int x3)]) (st' := [.int (x3 + (2 : Int32)), .ref 0, .int (xs (x3 + (1 : Int32)).toNatClampNeg), .ref 2, .int r1]) 4 rfl ?_
  refine kl_sld hC rfl hi2 ?_
  refine kl_callM hC (as := [.int (xs (x3 + (1 : Int32)).toNatClampNeg), .int (xs (x3 + (2 : Int32)).toNatClampNeg)]) (rest := [.int r1]) rfl klk_L_44 kse_X5_show rfl rfl rfl rfl (Nat.le_of_ble_eq_true rfl) (Nat.le_of_ble_eq_true rfl) hr hcm ?_
  show kl_R p l e s m below meth c0 D ac adx adm b0 (552, [some (.ref 0), some (.ref 1), some (.ref 2), some (.int x3)], [.int r1, .int r1]) _ _
  refine kl_eq hC rfl ?_
  exact kk _ _ hinv
set_option maxRecDepth 100000 in
set_option maxHeartbeats 4000000 in
theorem kl_case6 {p : Program} {l : Launch} {e : Env} {s : State} {m : MethodId} {below : List Frame} {meth : Method} {c0 : Code} {D : va_G} {ac : Nat → ClassId} {adx adm : Nat → Nat} {b0 Lx : Nat} {xs : Nat → Int32} (hC : kl_C p s m meth c0 D ac adx adm b0 Lx xs) {Inv : kx_M → kx_M → Prop} {Mx Mm : kx_M} (hinv0 : Inv Mx Mm) {x3 : Int32} (hi1 : vp_in (x3 + (1 : Int32)) Lx) (hi2 : vp_in (x3 + (2 : Int32)) Lx) (hi3 : vp_in (x3 + (3 : Int32)) Lx) (hi4 : vp_in (x3 + (4 : Int32)) Lx) (hi5 : vp_in (x3 + (5 : Int32)) Lx) (hs : kl_simI Inv T_X4_says T_X5_says [.int (xs (x3 + (1 : Int32)).toNatClampNeg), .int (xs (x3 + (2 : Int32)).toNatClampNeg)]) (kk : ∀ Mx' Mm', Inv Mx' Mm' → kl_R p l e s m below meth c0 D ac adx adm b0 (2039, [some (.ref 0), some (.ref 1), some (.ref 2), some (.int x3)], []) Mx' Mm') : kl_R p l e s m below meth c0 D ac adx adm b0 (557, [some (.ref 0), some (.ref 1), some (.ref 2), some (.int x3)], []) Mx Mm := by
  obtain ⟨r1, Mx', Mm', hcx, hcm, hinv⟩ := hs Mx Mm hinv0
  have hr : kl_num (.int r1) := Or.inl ⟨r1, rfl⟩
  refine kl_go hC (pc' := 562) (L' := [some (.ref 0), some (.ref 1), some (.ref 2), some (.int x3)]) (st' := [.int (x3 + (1 : Int32)), .ref 0, .ref 1]) 5 rfl ?_
  refine kl_sld hC rfl hi1 ?_
  refine kl_go hC (pc' := 567) (L' := [some (.ref 0), some (.ref 1), some (.ref 2), some (.int x3)]) (st' := [.int (x3 + (2 : Int32)), .ref 0, .int (xs (x3 + (1 : Int32)).toNatClampNeg), .ref 1]) 4 rfl ?_
  refine kl_sld hC rfl hi2 ?_
  refine kl_callX hC (as := [.int (xs (x3 + (1 : Int32)).toNatClampNeg), .int (xs (x3 + (2 : Int32)).toNatClampNeg)]) (rest := []) rfl klk_L_45 kse_X4_says rfl rfl rfl rfl (Nat.le_of_ble_eq_true rfl) (Nat.le_of_ble_eq_true rfl) hr hcx ?_
  show kl_R p l e s m below meth c0 D ac adx adm b0 (571, [some (.ref 0), some (.ref 1), some (.ref 2), some (.int x3)], [.int r1]) _ _
  refine kl_go hC (pc' := 576) (L' := [some (.ref 0), some (.ref 1), some (.ref 2), some (.int x3)]) (st' := [.int (x3 + (1 : Int32)), .ref 0, .ref 2, .int r1]) 5 rfl ?_
  refine kl_sld hC rfl hi1 ?_
  refine kl_go hC (pc' := 581) (L' := [some (.ref 0), some (.ref 1), some (.ref 2), some (.int x3)]) (st' := [.int (x3 + (2 : Int32)), .ref 0, .int (xs (x3 + (1 : Int32)).toNatClampNeg), .ref 2, .int r1]) 4 rfl ?_
  refine kl_sld hC rfl hi2 ?_
  refine kl_callM hC (as := [.int (xs (x3 + (1 : Int32)).toNatClampNeg), .int (xs (x3 + (2 : Int32)).toNatClampNeg)]) (rest := [.int r1]) rfl klk_L_48 kse_X5_says rfl rfl rfl rfl (Nat.le_of_ble_eq_true rfl) (Nat.le_of_ble_eq_true rfl) hr hcm ?_
  show kl_R p l e s m below meth c0 D ac adx adm b0 (585, [some (.ref 0), some (.ref 1), some (.ref 2), some (.int x3)], [.int r1, .int r1]) _ _
  refine kl_eq hC rfl ?_
  exact kk _ _ hinv
set_option maxRecDepth 100000 in
set_option maxHeartbeats 4000000 in
theorem kl_case7 {p : Program} {l : Launch} {e : Env} {s : State} {m : MethodId} {below : List Frame} {meth : Method} {c0 : Code} {D : va_G} {ac : Nat → ClassId} {adx adm : Nat → Nat} {b0 Lx : Nat} {xs : Nat → Int32} (hC : kl_C p s m meth c0 D ac adx adm b0 Lx xs) {Inv : kx_M → kx_M → Prop} {Mx Mm : kx_M} (hinv0 : Inv Mx Mm) {x3 : Int32} (hi1 : vp_in (x3 + (1 : Int32)) Lx) (hi2 : vp_in (x3 + (2 : Int32)) Lx) (hi3 : vp_in (x3 + (3 : Int32)) Lx) (hi4 : vp_in (x3 + (4 : Int32)) Lx) (hi5 : vp_in (x3 + (5 : Int32)) Lx) (hs : kl_simI Inv T_X4_paves T_X5_paves [.int (xs (x3 + (1 : Int32)).toNatClampNeg)]) (kk : ∀ Mx' Mm', Inv Mx' Mm' → kl_R p l e s m below meth c0 D ac adx adm b0 (2039, [some (.ref 0), some (.ref 1), some (.ref 2), some (.int x3)], []) Mx' Mm') : kl_R p l e s m below meth c0 D ac adx adm b0 (590, [some (.ref 0), some (.ref 1), some (.ref 2), some (.int x3)], []) Mx Mm := by
  obtain ⟨r1, Mx', Mm', hcx, hcm, hinv⟩ := hs Mx Mm hinv0
  have hr : kl_num (.int r1) := Or.inl ⟨r1, rfl⟩
  refine kl_go hC (pc' := 595) (L' := [some (.ref 0), some (.ref 1), some (.ref 2), some (.int x3)]) (st' := [.int (x3 + (1 : Int32)), .ref 0, .ref 1]) 5 rfl ?_
  refine kl_sld hC rfl hi1 ?_
  refine kl_callX hC (as := [.int (xs (x3 + (1 : Int32)).toNatClampNeg)]) (rest := []) rfl klk_L_49 kse_X4_paves rfl rfl rfl rfl (Nat.le_of_ble_eq_true rfl) (Nat.le_of_ble_eq_true rfl) hr hcx ?_
  show kl_R p l e s m below meth c0 D ac adx adm b0 (599, [some (.ref 0), some (.ref 1), some (.ref 2), some (.int x3)], [.int r1]) _ _
  refine kl_go hC (pc' := 604) (L' := [some (.ref 0), some (.ref 1), some (.ref 2), some (.int x3)]) (st' := [.int (x3 + (1 : Int32)), .ref 0, .ref 2, .int r1]) 5 rfl ?_
  refine kl_sld hC rfl hi1 ?_
  refine kl_callM hC (as := [.int (xs (x3 + (1 : Int32)).toNatClampNeg)]) (rest := [.int r1]) rfl klk_L_52 kse_X5_paves rfl rfl rfl rfl (Nat.le_of_ble_eq_true rfl) (Nat.le_of_ble_eq_true rfl) hr hcm ?_
  show kl_R p l e s m below meth c0 D ac adx adm b0 (608, [some (.ref 0), some (.ref 1), some (.ref 2), some (.int x3)], [.int r1, .int r1]) _ _
  refine kl_eq hC rfl ?_
  exact kk _ _ hinv
set_option maxRecDepth 100000 in
set_option maxHeartbeats 4000000 in
theorem kl_case8 {p : Program} {l : Launch} {e : Env} {s : State} {m : MethodId} {below : List Frame} {meth : Method} {c0 : Code} {D : va_G} {ac : Nat → ClassId} {adx adm : Nat → Nat} {b0 Lx : Nat} {xs : Nat → Int32} (hC : kl_C p s m meth c0 D ac adx adm b0 Lx xs) {Inv : kx_M → kx_M → Prop} {Mx Mm : kx_M} (hinv0 : Inv Mx Mm) {x3 : Int32} (hi1 : vp_in (x3 + (1 : Int32)) Lx) (hi2 : vp_in (x3 + (2 : Int32)) Lx) (hi3 : vp_in (x3 + (3 : Int32)) Lx) (hi4 : vp_in (x3 + (4 : Int32)) Lx) (hi5 : vp_in (x3 + (5 : Int32)) Lx) (hs : kl_simI Inv T_X4_visitor T_X5_visitor [.int (xs (x3 + (1 : Int32)).toNatClampNeg), .int (xs (x3 + (2 : Int32)).toNatClampNeg), .int (xs (x3 + (3 : Int32)).toNatClampNeg)]) (kk : ∀ Mx' Mm', Inv Mx' Mm' → kl_R p l e s m below meth c0 D ac adx adm b0 (2039, [some (.ref 0), some (.ref 1), some (.ref 2), some (.int x3)], []) Mx' Mm') : kl_R p l e s m below meth c0 D ac adx adm b0 (613, [some (.ref 0), some (.ref 1), some (.ref 2), some (.int x3)], []) Mx Mm := by
  obtain ⟨r1, Mx', Mm', hcx, hcm, hinv⟩ := hs Mx Mm hinv0
  have hr : kl_num (.int r1) := Or.inl ⟨r1, rfl⟩
  refine kl_go hC (pc' := 618) (L' := [some (.ref 0), some (.ref 1), some (.ref 2), some (.int x3)]) (st' := [.int (x3 + (1 : Int32)), .ref 0, .ref 1]) 5 rfl ?_
  refine kl_sld hC rfl hi1 ?_
  refine kl_go hC (pc' := 623) (L' := [some (.ref 0), some (.ref 1), some (.ref 2), some (.int x3)]) (st' := [.int (x3 + (2 : Int32)), .ref 0, .int (xs (x3 + (1 : Int32)).toNatClampNeg), .ref 1]) 4 rfl ?_
  refine kl_sld hC rfl hi2 ?_
  refine kl_go hC (pc' := 628) (L' := [some (.ref 0), some (.ref 1), some (.ref 2), some (.int x3)]) (st' := [.int (x3 + (3 : Int32)), .ref 0, .int (xs (x3 + (2 : Int32)).toNatClampNeg), .int (xs (x3 + (1 : Int32)).toNatClampNeg), .ref 1]) 4 rfl ?_
  refine kl_sld hC rfl hi3 ?_
  refine kl_callX hC (as := [.int (xs (x3 + (1 : Int32)).toNatClampNeg), .int (xs (x3 + (2 : Int32)).toNatClampNeg), .int (xs (x3 + (3 : Int32)).toNatClampNeg)]) (rest := []) rfl klk_L_53 kse_X4_visitor rfl rfl rfl rfl (Nat.le_of_ble_eq_true rfl) (Nat.le_of_ble_eq_true rfl) hr hcx ?_
  show kl_R p l e s m below meth c0 D ac adx adm b0 (632, [some (.ref 0), some (.ref 1), some (.ref 2), some (.int x3)], [.int r1]) _ _
  refine kl_go hC (pc' := 637) (L' := [some (.ref 0), some (.ref 1), some (.ref 2), some (.int x3)]) (st' := [.int (x3 + (1 : Int32)), .ref 0, .ref 2, .int r1]) 5 rfl ?_
  refine kl_sld hC rfl hi1 ?_
  refine kl_go hC (pc' := 642) (L' := [some (.ref 0), some (.ref 1), some (.ref 2), some (.int x3)]) (st' := [.int (x3 + (2 : Int32)), .ref 0, .int (xs (x3 + (1 : Int32)).toNatClampNeg), .ref 2, .int r1]) 4 rfl ?_
  refine kl_sld hC rfl hi2 ?_
  refine kl_go hC (pc' := 647) (L' := [some (.ref 0), some (.ref 1), some (.ref 2), some (.int x3)]) (st' := [.int (x3 + (3 : Int32)), .ref 0, .int (xs (x3 + (2 : Int32)).toNatClampNeg), .int (xs (x3 + (1 : Int32)).toNatClampNeg), .ref 2, .int r1]) 4 rfl ?_
  refine kl_sld hC rfl hi3 ?_
  refine kl_callM hC (as := [.int (xs (x3 + (1 : Int32)).toNatClampNeg), .int (xs (x3 + (2 : Int32)).toNatClampNeg), .int (xs (x3 + (3 : Int32)).toNatClampNeg)]) (rest := [.int r1]) rfl klk_L_56 kse_X5_visitor rfl rfl rfl rfl (Nat.le_of_ble_eq_true rfl) (Nat.le_of_ble_eq_true rfl) hr hcm ?_
  show kl_R p l e s m below meth c0 D ac adx adm b0 (651, [some (.ref 0), some (.ref 1), some (.ref 2), some (.int x3)], [.int r1, .int r1]) _ _
  refine kl_eq hC rfl ?_
  exact kk _ _ hinv
set_option maxRecDepth 100000 in
set_option maxHeartbeats 4000000 in
theorem kl_case9 {p : Program} {l : Launch} {e : Env} {s : State} {m : MethodId} {below : List Frame} {meth : Method} {c0 : Code} {D : va_G} {ac : Nat → ClassId} {adx adm : Nat → Nat} {b0 Lx : Nat} {xs : Nat → Int32} (hC : kl_C p s m meth c0 D ac adx adm b0 Lx xs) {Inv : kx_M → kx_M → Prop} {Mx Mm : kx_M} (hinv0 : Inv Mx Mm) {x3 : Int32} (hi1 : vp_in (x3 + (1 : Int32)) Lx) (hi2 : vp_in (x3 + (2 : Int32)) Lx) (hi3 : vp_in (x3 + (3 : Int32)) Lx) (hi4 : vp_in (x3 + (4 : Int32)) Lx) (hi5 : vp_in (x3 + (5 : Int32)) Lx) (hs : kl_simI Inv T_X4_wants T_X5_wants [.int (xs (x3 + (1 : Int32)).toNatClampNeg), .int (xs (x3 + (2 : Int32)).toNatClampNeg)]) (kk : ∀ Mx' Mm', Inv Mx' Mm' → kl_R p l e s m below meth c0 D ac adx adm b0 (2039, [some (.ref 0), some (.ref 1), some (.ref 2), some (.int x3)], []) Mx' Mm') : kl_R p l e s m below meth c0 D ac adx adm b0 (656, [some (.ref 0), some (.ref 1), some (.ref 2), some (.int x3)], []) Mx Mm := by
  obtain ⟨r1, Mx', Mm', hcx, hcm, hinv⟩ := hs Mx Mm hinv0
  have hr : kl_num (.int r1) := Or.inl ⟨r1, rfl⟩
  refine kl_go hC (pc' := 661) (L' := [some (.ref 0), some (.ref 1), some (.ref 2), some (.int x3)]) (st' := [.int (x3 + (1 : Int32)), .ref 0, .ref 1]) 5 rfl ?_
  refine kl_sld hC rfl hi1 ?_
  refine kl_go hC (pc' := 666) (L' := [some (.ref 0), some (.ref 1), some (.ref 2), some (.int x3)]) (st' := [.int (x3 + (2 : Int32)), .ref 0, .int (xs (x3 + (1 : Int32)).toNatClampNeg), .ref 1]) 4 rfl ?_
  refine kl_sld hC rfl hi2 ?_
  refine kl_callX hC (as := [.int (xs (x3 + (1 : Int32)).toNatClampNeg), .int (xs (x3 + (2 : Int32)).toNatClampNeg)]) (rest := []) rfl klk_L_57 kse_X4_wants rfl rfl rfl rfl (Nat.le_of_ble_eq_true rfl) (Nat.le_of_ble_eq_true rfl) hr hcx ?_
  show kl_R p l e s m below meth c0 D ac adx adm b0 (670, [some (.ref 0), some (.ref 1), some (.ref 2), some (.int x3)], [.int r1]) _ _
  refine kl_go hC (pc' := 675) (L' := [some (.ref 0), some (.ref 1), some (.ref 2), some (.int x3)]) (st' := [.int (x3 + (1 : Int32)), .ref 0, .ref 2, .int r1]) 5 rfl ?_
  refine kl_sld hC rfl hi1 ?_
  refine kl_go hC (pc' := 680) (L' := [some (.ref 0), some (.ref 1), some (.ref 2), some (.int x3)]) (st' := [.int (x3 + (2 : Int32)), .ref 0, .int (xs (x3 + (1 : Int32)).toNatClampNeg), .ref 2, .int r1]) 4 rfl ?_
  refine kl_sld hC rfl hi2 ?_
  refine kl_callM hC (as := [.int (xs (x3 + (1 : Int32)).toNatClampNeg), .int (xs (x3 + (2 : Int32)).toNatClampNeg)]) (rest := [.int r1]) rfl klk_L_60 kse_X5_wants rfl rfl rfl rfl (Nat.le_of_ble_eq_true rfl) (Nat.le_of_ble_eq_true rfl) hr hcm ?_
  show kl_R p l e s m below meth c0 D ac adx adm b0 (684, [some (.ref 0), some (.ref 1), some (.ref 2), some (.int x3)], [.int r1, .int r1]) _ _
  refine kl_eq hC rfl ?_
  exact kk _ _ hinv
set_option maxRecDepth 100000 in
set_option maxHeartbeats 4000000 in
theorem kl_case10 {p : Program} {l : Launch} {e : Env} {s : State} {m : MethodId} {below : List Frame} {meth : Method} {c0 : Code} {D : va_G} {ac : Nat → ClassId} {adx adm : Nat → Nat} {b0 Lx : Nat} {xs : Nat → Int32} (hC : kl_C p s m meth c0 D ac adx adm b0 Lx xs) {Inv : kx_M → kx_M → Prop} {Mx Mm : kx_M} (hinv0 : Inv Mx Mm) {x3 : Int32} (hi1 : vp_in (x3 + (1 : Int32)) Lx) (hi2 : vp_in (x3 + (2 : Int32)) Lx) (hi3 : vp_in (x3 + (3 : Int32)) Lx) (hi4 : vp_in (x3 + (4 : Int32)) Lx) (hi5 : vp_in (x3 + (5 : Int32)) Lx) (hs : kl_simI Inv T_X4_mark T_X5_mark [.int (xs (x3 + (1 : Int32)).toNatClampNeg), .int (xs (x3 + (2 : Int32)).toNatClampNeg), .int (xs (x3 + (3 : Int32)).toNatClampNeg)]) (kk : ∀ Mx' Mm', Inv Mx' Mm' → kl_R p l e s m below meth c0 D ac adx adm b0 (2039, [some (.ref 0), some (.ref 1), some (.ref 2), some (.int x3)], []) Mx' Mm') : kl_R p l e s m below meth c0 D ac adx adm b0 (689, [some (.ref 0), some (.ref 1), some (.ref 2), some (.int x3)], []) Mx Mm := by
  obtain ⟨r1, Mx', Mm', hcx, hcm, hinv⟩ := hs Mx Mm hinv0
  have hr : kl_num (.int r1) := Or.inl ⟨r1, rfl⟩
  refine kl_go hC (pc' := 694) (L' := [some (.ref 0), some (.ref 1), some (.ref 2), some (.int x3)]) (st' := [.int (x3 + (1 : Int32)), .ref 0, .ref 1]) 5 rfl ?_
  refine kl_sld hC rfl hi1 ?_
  refine kl_go hC (pc' := 699) (L' := [some (.ref 0), some (.ref 1), some (.ref 2), some (.int x3)]) (st' := [.int (x3 + (2 : Int32)), .ref 0, .int (xs (x3 + (1 : Int32)).toNatClampNeg), .ref 1]) 4 rfl ?_
  refine kl_sld hC rfl hi2 ?_
  refine kl_go hC (pc' := 704) (L' := [some (.ref 0), some (.ref 1), some (.ref 2), some (.int x3)]) (st' := [.int (x3 + (3 : Int32)), .ref 0, .int (xs (x3 + (2 : Int32)).toNatClampNeg), .int (xs (x3 + (1 : Int32)).toNatClampNeg), .ref 1]) 4 rfl ?_
  refine kl_sld hC rfl hi3 ?_
  refine kl_callX hC (as := [.int (xs (x3 + (1 : Int32)).toNatClampNeg), .int (xs (x3 + (2 : Int32)).toNatClampNeg), .int (xs (x3 + (3 : Int32)).toNatClampNeg)]) (rest := []) rfl klk_L_61 kse_X4_mark rfl rfl rfl rfl (Nat.le_of_ble_eq_true rfl) (Nat.le_of_ble_eq_true rfl) hr hcx ?_
  show kl_R p l e s m below meth c0 D ac adx adm b0 (708, [some (.ref 0), some (.ref 1), some (.ref 2), some (.int x3)], [.int r1]) _ _
  refine kl_go hC (pc' := 713) (L' := [some (.ref 0), some (.ref 1), some (.ref 2), some (.int x3)]) (st' := [.int (x3 + (1 : Int32)), .ref 0, .ref 2, .int r1]) 5 rfl ?_
  refine kl_sld hC rfl hi1 ?_
  refine kl_go hC (pc' := 718) (L' := [some (.ref 0), some (.ref 1), some (.ref 2), some (.int x3)]) (st' := [.int (x3 + (2 : Int32)), .ref 0, .int (xs (x3 + (1 : Int32)).toNatClampNeg), .ref 2, .int r1]) 4 rfl ?_
  refine kl_sld hC rfl hi2 ?_
  refine kl_go hC (pc' := 723) (L' := [some (.ref 0), some (.ref 1), some (.ref 2), some (.int x3)]) (st' := [.int (x3 + (3 : Int32)), .ref 0, .int (xs (x3 + (2 : Int32)).toNatClampNeg), .int (xs (x3 + (1 : Int32)).toNatClampNeg), .ref 2, .int r1]) 4 rfl ?_
  refine kl_sld hC rfl hi3 ?_
  refine kl_callM hC (as := [.int (xs (x3 + (1 : Int32)).toNatClampNeg), .int (xs (x3 + (2 : Int32)).toNatClampNeg), .int (xs (x3 + (3 : Int32)).toNatClampNeg)]) (rest := [.int r1]) rfl klk_L_64 kse_X5_mark rfl rfl rfl rfl (Nat.le_of_ble_eq_true rfl) (Nat.le_of_ble_eq_true rfl) hr hcm ?_
  show kl_R p l e s m below meth c0 D ac adx adm b0 (727, [some (.ref 0), some (.ref 1), some (.ref 2), some (.int x3)], [.int r1, .int r1]) _ _
  refine kl_eq hC rfl ?_
  exact kk _ _ hinv
set_option maxRecDepth 100000 in
set_option maxHeartbeats 4000000 in
theorem kl_case11 {p : Program} {l : Launch} {e : Env} {s : State} {m : MethodId} {below : List Frame} {meth : Method} {c0 : Code} {D : va_G} {ac : Nat → ClassId} {adx adm : Nat → Nat} {b0 Lx : Nat} {xs : Nat → Int32} (hC : kl_C p s m meth c0 D ac adx adm b0 Lx xs) {Inv : kx_M → kx_M → Prop} {Mx Mm : kx_M} (hinv0 : Inv Mx Mm) {x3 : Int32} (hi1 : vp_in (x3 + (1 : Int32)) Lx) (hi2 : vp_in (x3 + (2 : Int32)) Lx) (hi3 : vp_in (x3 + (3 : Int32)) Lx) (hi4 : vp_in (x3 + (4 : Int32)) Lx) (hi5 : vp_in (x3 + (5 : Int32)) Lx) (hs : kl_simI Inv T_X4_tell T_X5_tell [.int (xs (x3 + (1 : Int32)).toNatClampNeg), .int (xs (x3 + (2 : Int32)).toNatClampNeg)]) (kk : ∀ Mx' Mm', Inv Mx' Mm' → kl_R p l e s m below meth c0 D ac adx adm b0 (2039, [some (.ref 0), some (.ref 1), some (.ref 2), some (.int x3)], []) Mx' Mm') : kl_R p l e s m below meth c0 D ac adx adm b0 (732, [some (.ref 0), some (.ref 1), some (.ref 2), some (.int x3)], []) Mx Mm := by
  obtain ⟨r1, Mx', Mm', hcx, hcm, hinv⟩ := hs Mx Mm hinv0
  have hr : kl_num (.int r1) := Or.inl ⟨r1, rfl⟩
  refine kl_go hC (pc' := 737) (L' := [some (.ref 0), some (.ref 1), some (.ref 2), some (.int x3)]) (st' := [.int (x3 + (1 : Int32)), .ref 0, .ref 1]) 5 rfl ?_
  refine kl_sld hC rfl hi1 ?_
  refine kl_go hC (pc' := 742) (L' := [some (.ref 0), some (.ref 1), some (.ref 2), some (.int x3)]) (st' := [.int (x3 + (2 : Int32)), .ref 0, .int (xs (x3 + (1 : Int32)).toNatClampNeg), .ref 1]) 4 rfl ?_
  refine kl_sld hC rfl hi2 ?_
  refine kl_callX hC (as := [.int (xs (x3 + (1 : Int32)).toNatClampNeg), .int (xs (x3 + (2 : Int32)).toNatClampNeg)]) (rest := []) rfl klk_L_65 kse_X4_tell rfl rfl rfl rfl (Nat.le_of_ble_eq_true rfl) (Nat.le_of_ble_eq_true rfl) hr hcx ?_
  show kl_R p l e s m below meth c0 D ac adx adm b0 (746, [some (.ref 0), some (.ref 1), some (.ref 2), some (.int x3)], [.int r1]) _ _
  refine kl_go hC (pc' := 751) (L' := [some (.ref 0), some (.ref 1), some (.ref 2), some (.int x3)]) (st' := [.int (x3 + (1 : Int32)), .ref 0, .ref 2, .int r1]) 5 rfl ?_
  refine kl_sld hC rfl hi1 ?_
  refine kl_go hC (pc' := 756) (L' := [some (.ref 0), some (.ref 1), some (.ref 2), some (.int x3)]) (st' := [.int (x3 + (2 : Int32)), .ref 0, .int (xs (x3 + (1 : Int32)).toNatClampNeg), .ref 2, .int r1]) 4 rfl ?_
  refine kl_sld hC rfl hi2 ?_
  refine kl_callM hC (as := [.int (xs (x3 + (1 : Int32)).toNatClampNeg), .int (xs (x3 + (2 : Int32)).toNatClampNeg)]) (rest := [.int r1]) rfl klk_L_68 kse_X5_tell rfl rfl rfl rfl (Nat.le_of_ble_eq_true rfl) (Nat.le_of_ble_eq_true rfl) hr hcm ?_
  show kl_R p l e s m below meth c0 D ac adx adm b0 (760, [some (.ref 0), some (.ref 1), some (.ref 2), some (.int x3)], [.int r1, .int r1]) _ _
  refine kl_eq hC rfl ?_
  exact kk _ _ hinv
set_option maxRecDepth 100000 in
set_option maxHeartbeats 4000000 in
theorem kl_case12 {p : Program} {l : Launch} {e : Env} {s : State} {m : MethodId} {below : List Frame} {meth : Method} {c0 : Code} {D : va_G} {ac : Nat → ClassId} {adx adm : Nat → Nat} {b0 Lx : Nat} {xs : Nat → Int32} (hC : kl_C p s m meth c0 D ac adx adm b0 Lx xs) {Inv : kx_M → kx_M → Prop} {Mx Mm : kx_M} (hinv0 : Inv Mx Mm) {x3 : Int32} (hi1 : vp_in (x3 + (1 : Int32)) Lx) (hi2 : vp_in (x3 + (2 : Int32)) Lx) (hi3 : vp_in (x3 + (3 : Int32)) Lx) (hi4 : vp_in (x3 + (4 : Int32)) Lx) (hi5 : vp_in (x3 + (5 : Int32)) Lx) (hs : kl_simI Inv T_X4_feed T_X5_feed [.int (xs (x3 + (1 : Int32)).toNatClampNeg)]) (kk : ∀ Mx' Mm', Inv Mx' Mm' → kl_R p l e s m below meth c0 D ac adx adm b0 (2039, [some (.ref 0), some (.ref 1), some (.ref 2), some (.int x3)], []) Mx' Mm') : kl_R p l e s m below meth c0 D ac adx adm b0 (765, [some (.ref 0), some (.ref 1), some (.ref 2), some (.int x3)], []) Mx Mm := by
  obtain ⟨r1, Mx', Mm', hcx, hcm, hinv⟩ := hs Mx Mm hinv0
  have hr : kl_num (.int r1) := Or.inl ⟨r1, rfl⟩
  refine kl_go hC (pc' := 770) (L' := [some (.ref 0), some (.ref 1), some (.ref 2), some (.int x3)]) (st' := [.int (x3 + (1 : Int32)), .ref 0, .ref 1]) 5 rfl ?_
  refine kl_sld hC rfl hi1 ?_
  refine kl_callX hC (as := [.int (xs (x3 + (1 : Int32)).toNatClampNeg)]) (rest := []) rfl klk_L_69 kse_X4_feed rfl rfl rfl rfl (Nat.le_of_ble_eq_true rfl) (Nat.le_of_ble_eq_true rfl) hr hcx ?_
  show kl_R p l e s m below meth c0 D ac adx adm b0 (774, [some (.ref 0), some (.ref 1), some (.ref 2), some (.int x3)], [.int r1]) _ _
  refine kl_go hC (pc' := 779) (L' := [some (.ref 0), some (.ref 1), some (.ref 2), some (.int x3)]) (st' := [.int (x3 + (1 : Int32)), .ref 0, .ref 2, .int r1]) 5 rfl ?_
  refine kl_sld hC rfl hi1 ?_
  refine kl_callM hC (as := [.int (xs (x3 + (1 : Int32)).toNatClampNeg)]) (rest := [.int r1]) rfl klk_L_72 kse_X5_feed rfl rfl rfl rfl (Nat.le_of_ble_eq_true rfl) (Nat.le_of_ble_eq_true rfl) hr hcm ?_
  show kl_R p l e s m below meth c0 D ac adx adm b0 (783, [some (.ref 0), some (.ref 1), some (.ref 2), some (.int x3)], [.int r1, .int r1]) _ _
  refine kl_eq hC rfl ?_
  exact kk _ _ hinv
set_option maxRecDepth 100000 in
set_option maxHeartbeats 4000000 in
theorem kl_case13 {p : Program} {l : Launch} {e : Env} {s : State} {m : MethodId} {below : List Frame} {meth : Method} {c0 : Code} {D : va_G} {ac : Nat → ClassId} {adx adm : Nat → Nat} {b0 Lx : Nat} {xs : Nat → Int32} (hC : kl_C p s m meth c0 D ac adx adm b0 Lx xs) {Inv : kx_M → kx_M → Prop} {Mx Mm : kx_M} (hinv0 : Inv Mx Mm) {x3 : Int32} (hi1 : vp_in (x3 + (1 : Int32)) Lx) (hi2 : vp_in (x3 + (2 : Int32)) Lx) (hi3 : vp_in (x3 + (3 : Int32)) Lx) (hi4 : vp_in (x3 + (4 : Int32)) Lx) (hi5 : vp_in (x3 + (5 : Int32)) Lx) (hs : kl_simI Inv T_X4_wipe T_X5_wipe []) (kk : ∀ Mx' Mm', Inv Mx' Mm' → kl_R p l e s m below meth c0 D ac adx adm b0 (2039, [some (.ref 0), some (.ref 1), some (.ref 2), some (.int x3)], []) Mx' Mm') : kl_R p l e s m below meth c0 D ac adx adm b0 (788, [some (.ref 0), some (.ref 1), some (.ref 2), some (.int x3)], []) Mx Mm := by
  obtain ⟨r1, Mx', Mm', hcx, hcm, hinv⟩ := hs Mx Mm hinv0
  have hr : kl_num (.int r1) := Or.inl ⟨r1, rfl⟩
  refine kl_go hC (pc' := 789) (L' := [some (.ref 0), some (.ref 1), some (.ref 2), some (.int x3)]) (st' := [.ref 1]) 1 rfl ?_
  refine kl_callX hC (as := []) (rest := []) rfl klk_L_73 kse_X4_wipe rfl rfl rfl rfl (Nat.le_of_ble_eq_true rfl) (Nat.le_of_ble_eq_true rfl) hr hcx ?_
  show kl_R p l e s m below meth c0 D ac adx adm b0 (792, [some (.ref 0), some (.ref 1), some (.ref 2), some (.int x3)], [.int r1]) _ _
  refine kl_go hC (pc' := 793) (L' := [some (.ref 0), some (.ref 1), some (.ref 2), some (.int x3)]) (st' := [.ref 2, .int r1]) 1 rfl ?_
  refine kl_callM hC (as := []) (rest := [.int r1]) rfl klk_L_77 kse_X5_wipe rfl rfl rfl rfl (Nat.le_of_ble_eq_true rfl) (Nat.le_of_ble_eq_true rfl) hr hcm ?_
  show kl_R p l e s m below meth c0 D ac adx adm b0 (796, [some (.ref 0), some (.ref 1), some (.ref 2), some (.int x3)], [.int r1, .int r1]) _ _
  refine kl_eq hC rfl ?_
  exact kk _ _ hinv
set_option maxRecDepth 100000 in
set_option maxHeartbeats 4000000 in
theorem kl_case14 {p : Program} {l : Launch} {e : Env} {s : State} {m : MethodId} {below : List Frame} {meth : Method} {c0 : Code} {D : va_G} {ac : Nat → ClassId} {adx adm : Nat → Nat} {b0 Lx : Nat} {xs : Nat → Int32} (hC : kl_C p s m meth c0 D ac adx adm b0 Lx xs) {Inv : kx_M → kx_M → Prop} {Mx Mm : kx_M} (hinv0 : Inv Mx Mm) {x3 : Int32} (hi1 : vp_in (x3 + (1 : Int32)) Lx) (hi2 : vp_in (x3 + (2 : Int32)) Lx) (hi3 : vp_in (x3 + (3 : Int32)) Lx) (hi4 : vp_in (x3 + (4 : Int32)) Lx) (hi5 : vp_in (x3 + (5 : Int32)) Lx) (hs : kl_simI Inv T_X4_view T_X5_view []) (kk : ∀ Mx' Mm', Inv Mx' Mm' → kl_R p l e s m below meth c0 D ac adx adm b0 (2039, [some (.ref 0), some (.ref 1), some (.ref 2), some (.int x3)], []) Mx' Mm') : kl_R p l e s m below meth c0 D ac adx adm b0 (801, [some (.ref 0), some (.ref 1), some (.ref 2), some (.int x3)], []) Mx Mm := by
  obtain ⟨r1, Mx', Mm', hcx, hcm, hinv⟩ := hs Mx Mm hinv0
  have hr : kl_num (.int r1) := Or.inl ⟨r1, rfl⟩
  refine kl_go hC (pc' := 802) (L' := [some (.ref 0), some (.ref 1), some (.ref 2), some (.int x3)]) (st' := [.ref 1]) 1 rfl ?_
  refine kl_callX hC (as := []) (rest := []) rfl klk_L_78 kse_X4_view rfl rfl rfl rfl (Nat.le_of_ble_eq_true rfl) (Nat.le_of_ble_eq_true rfl) hr hcx ?_
  show kl_R p l e s m below meth c0 D ac adx adm b0 (805, [some (.ref 0), some (.ref 1), some (.ref 2), some (.int x3)], [.int r1]) _ _
  refine kl_go hC (pc' := 806) (L' := [some (.ref 0), some (.ref 1), some (.ref 2), some (.int x3)]) (st' := [.ref 2, .int r1]) 1 rfl ?_
  refine kl_callM hC (as := []) (rest := [.int r1]) rfl klk_L_81 kse_X5_view rfl rfl rfl rfl (Nat.le_of_ble_eq_true rfl) (Nat.le_of_ble_eq_true rfl) hr hcm ?_
  show kl_R p l e s m below meth c0 D ac adx adm b0 (809, [some (.ref 0), some (.ref 1), some (.ref 2), some (.int x3)], [.int r1, .int r1]) _ _
  refine kl_eq hC rfl ?_
  exact kk _ _ hinv
set_option maxRecDepth 100000 in
set_option maxHeartbeats 4000000 in
theorem kl_case15 {p : Program} {l : Launch} {e : Env} {s : State} {m : MethodId} {below : List Frame} {meth : Method} {c0 : Code} {D : va_G} {ac : Nat → ClassId} {adx adm : Nat → Nat} {b0 Lx : Nat} {xs : Nat → Int32} (hC : kl_C p s m meth c0 D ac adx adm b0 Lx xs) {Inv : kx_M → kx_M → Prop} {Mx Mm : kx_M} (hinv0 : Inv Mx Mm) {x3 : Int32} (hi1 : vp_in (x3 + (1 : Int32)) Lx) (hi2 : vp_in (x3 + (2 : Int32)) Lx) (hi3 : vp_in (x3 + (3 : Int32)) Lx) (hi4 : vp_in (x3 + (4 : Int32)) Lx) (hi5 : vp_in (x3 + (5 : Int32)) Lx) (hs : kl_simI Inv T_X4_visitorOf T_X5_visitorOf [.int (xs (x3 + (1 : Int32)).toNatClampNeg), .int (xs (x3 + (2 : Int32)).toNatClampNeg)]) (kk : ∀ Mx' Mm', Inv Mx' Mm' → kl_R p l e s m below meth c0 D ac adx adm b0 (2039, [some (.ref 0), some (.ref 1), some (.ref 2), some (.int x3)], []) Mx' Mm') : kl_R p l e s m below meth c0 D ac adx adm b0 (814, [some (.ref 0), some (.ref 1), some (.ref 2), some (.int x3)], []) Mx Mm := by
  obtain ⟨r1, Mx', Mm', hcx, hcm, hinv⟩ := hs Mx Mm hinv0
  have hr : kl_num (.int r1) := Or.inl ⟨r1, rfl⟩
  refine kl_go hC (pc' := 819) (L' := [some (.ref 0), some (.ref 1), some (.ref 2), some (.int x3)]) (st' := [.int (x3 + (1 : Int32)), .ref 0, .ref 1]) 5 rfl ?_
  refine kl_sld hC rfl hi1 ?_
  refine kl_go hC (pc' := 824) (L' := [some (.ref 0), some (.ref 1), some (.ref 2), some (.int x3)]) (st' := [.int (x3 + (2 : Int32)), .ref 0, .int (xs (x3 + (1 : Int32)).toNatClampNeg), .ref 1]) 4 rfl ?_
  refine kl_sld hC rfl hi2 ?_
  refine kl_callX hC (as := [.int (xs (x3 + (1 : Int32)).toNatClampNeg), .int (xs (x3 + (2 : Int32)).toNatClampNeg)]) (rest := []) rfl klk_L_82 kse_X4_visitorOf rfl rfl rfl rfl (Nat.le_of_ble_eq_true rfl) (Nat.le_of_ble_eq_true rfl) hr hcx ?_
  show kl_R p l e s m below meth c0 D ac adx adm b0 (828, [some (.ref 0), some (.ref 1), some (.ref 2), some (.int x3)], [.int r1]) _ _
  refine kl_go hC (pc' := 833) (L' := [some (.ref 0), some (.ref 1), some (.ref 2), some (.int x3)]) (st' := [.int (x3 + (1 : Int32)), .ref 0, .ref 2, .int r1]) 5 rfl ?_
  refine kl_sld hC rfl hi1 ?_
  refine kl_go hC (pc' := 838) (L' := [some (.ref 0), some (.ref 1), some (.ref 2), some (.int x3)]) (st' := [.int (x3 + (2 : Int32)), .ref 0, .int (xs (x3 + (1 : Int32)).toNatClampNeg), .ref 2, .int r1]) 4 rfl ?_
  refine kl_sld hC rfl hi2 ?_
  refine kl_callM hC (as := [.int (xs (x3 + (1 : Int32)).toNatClampNeg), .int (xs (x3 + (2 : Int32)).toNatClampNeg)]) (rest := [.int r1]) rfl klk_L_85 kse_X5_visitorOf rfl rfl rfl rfl (Nat.le_of_ble_eq_true rfl) (Nat.le_of_ble_eq_true rfl) hr hcm ?_
  show kl_R p l e s m below meth c0 D ac adx adm b0 (842, [some (.ref 0), some (.ref 1), some (.ref 2), some (.int x3)], [.int r1, .int r1]) _ _
  refine kl_eq hC rfl ?_
  exact kk _ _ hinv
set_option maxRecDepth 100000 in
set_option maxHeartbeats 4000000 in
theorem kl_case16 {p : Program} {l : Launch} {e : Env} {s : State} {m : MethodId} {below : List Frame} {meth : Method} {c0 : Code} {D : va_G} {ac : Nat → ClassId} {adx adm : Nat → Nat} {b0 Lx : Nat} {xs : Nat → Int32} (hC : kl_C p s m meth c0 D ac adx adm b0 Lx xs) {Inv : kx_M → kx_M → Prop} {Mx Mm : kx_M} (hinv0 : Inv Mx Mm) {x3 : Int32} (hi1 : vp_in (x3 + (1 : Int32)) Lx) (hi2 : vp_in (x3 + (2 : Int32)) Lx) (hi3 : vp_in (x3 + (3 : Int32)) Lx) (hi4 : vp_in (x3 + (4 : Int32)) Lx) (hi5 : vp_in (x3 + (5 : Int32)) Lx) (hs : kl_simI Inv T_X4_cellOf T_X5_cellOf [.int (xs (x3 + (1 : Int32)).toNatClampNeg), .int (xs (x3 + (2 : Int32)).toNatClampNeg)]) (kk : ∀ Mx' Mm', Inv Mx' Mm' → kl_R p l e s m below meth c0 D ac adx adm b0 (2039, [some (.ref 0), some (.ref 1), some (.ref 2), some (.int x3)], []) Mx' Mm') : kl_R p l e s m below meth c0 D ac adx adm b0 (847, [some (.ref 0), some (.ref 1), some (.ref 2), some (.int x3)], []) Mx Mm := by
  obtain ⟨r1, Mx', Mm', hcx, hcm, hinv⟩ := hs Mx Mm hinv0
  have hr : kl_num (.int r1) := Or.inl ⟨r1, rfl⟩
  refine kl_go hC (pc' := 852) (L' := [some (.ref 0), some (.ref 1), some (.ref 2), some (.int x3)]) (st' := [.int (x3 + (1 : Int32)), .ref 0, .ref 1]) 5 rfl ?_
  refine kl_sld hC rfl hi1 ?_
  refine kl_go hC (pc' := 857) (L' := [some (.ref 0), some (.ref 1), some (.ref 2), some (.int x3)]) (st' := [.int (x3 + (2 : Int32)), .ref 0, .int (xs (x3 + (1 : Int32)).toNatClampNeg), .ref 1]) 4 rfl ?_
  refine kl_sld hC rfl hi2 ?_
  refine kl_callX hC (as := [.int (xs (x3 + (1 : Int32)).toNatClampNeg), .int (xs (x3 + (2 : Int32)).toNatClampNeg)]) (rest := []) rfl klk_L_86 kse_X4_cellOf rfl rfl rfl rfl (Nat.le_of_ble_eq_true rfl) (Nat.le_of_ble_eq_true rfl) hr hcx ?_
  show kl_R p l e s m below meth c0 D ac adx adm b0 (861, [some (.ref 0), some (.ref 1), some (.ref 2), some (.int x3)], [.int r1]) _ _
  refine kl_go hC (pc' := 866) (L' := [some (.ref 0), some (.ref 1), some (.ref 2), some (.int x3)]) (st' := [.int (x3 + (1 : Int32)), .ref 0, .ref 2, .int r1]) 5 rfl ?_
  refine kl_sld hC rfl hi1 ?_
  refine kl_go hC (pc' := 871) (L' := [some (.ref 0), some (.ref 1), some (.ref 2), some (.int x3)]) (st' := [.int (x3 + (2 : Int32)), .ref 0, .int (xs (x3 + (1 : Int32)).toNatClampNeg), .ref 2, .int r1]) 4 rfl ?_
  refine kl_sld hC rfl hi2 ?_
  refine kl_callM hC (as := [.int (xs (x3 + (1 : Int32)).toNatClampNeg), .int (xs (x3 + (2 : Int32)).toNatClampNeg)]) (rest := [.int r1]) rfl klk_L_89 kse_X5_cellOf rfl rfl rfl rfl (Nat.le_of_ble_eq_true rfl) (Nat.le_of_ble_eq_true rfl) hr hcm ?_
  show kl_R p l e s m below meth c0 D ac adx adm b0 (875, [some (.ref 0), some (.ref 1), some (.ref 2), some (.int x3)], [.int r1, .int r1]) _ _
  refine kl_eq hC rfl ?_
  exact kk _ _ hinv
set_option maxRecDepth 100000 in
set_option maxHeartbeats 4000000 in
theorem kl_case17 {p : Program} {l : Launch} {e : Env} {s : State} {m : MethodId} {below : List Frame} {meth : Method} {c0 : Code} {D : va_G} {ac : Nat → ClassId} {adx adm : Nat → Nat} {b0 Lx : Nat} {xs : Nat → Int32} (hC : kl_C p s m meth c0 D ac adx adm b0 Lx xs) {Inv : kx_M → kx_M → Prop} {Mx Mm : kx_M} (hinv0 : Inv Mx Mm) {x3 : Int32} (hi1 : vp_in (x3 + (1 : Int32)) Lx) (hi2 : vp_in (x3 + (2 : Int32)) Lx) (hi3 : vp_in (x3 + (3 : Int32)) Lx) (hi4 : vp_in (x3 + (4 : Int32)) Lx) (hi5 : vp_in (x3 + (5 : Int32)) Lx) (hs : kl_simI Inv T_X4_open T_X5_open [.int (xs (x3 + (1 : Int32)).toNatClampNeg), .int (xs (x3 + (2 : Int32)).toNatClampNeg)]) (kk : ∀ Mx' Mm', Inv Mx' Mm' → kl_R p l e s m below meth c0 D ac adx adm b0 (2039, [some (.ref 0), some (.ref 1), some (.ref 2), some (.int x3)], []) Mx' Mm') : kl_R p l e s m below meth c0 D ac adx adm b0 (880, [some (.ref 0), some (.ref 1), some (.ref 2), some (.int x3)], []) Mx Mm := by
  obtain ⟨r1, Mx', Mm', hcx, hcm, hinv⟩ := hs Mx Mm hinv0
  have hr : kl_num (.int r1) := Or.inl ⟨r1, rfl⟩
  refine kl_go hC (pc' := 885) (L' := [some (.ref 0), some (.ref 1), some (.ref 2), some (.int x3)]) (st' := [.int (x3 + (1 : Int32)), .ref 0, .ref 1]) 5 rfl ?_
  refine kl_sld hC rfl hi1 ?_
  refine kl_go hC (pc' := 890) (L' := [some (.ref 0), some (.ref 1), some (.ref 2), some (.int x3)]) (st' := [.int (x3 + (2 : Int32)), .ref 0, .int (xs (x3 + (1 : Int32)).toNatClampNeg), .ref 1]) 4 rfl ?_
  refine kl_sld hC rfl hi2 ?_
  refine kl_callX hC (as := [.int (xs (x3 + (1 : Int32)).toNatClampNeg), .int (xs (x3 + (2 : Int32)).toNatClampNeg)]) (rest := []) rfl klk_L_90 kse_X4_open rfl rfl rfl rfl (Nat.le_of_ble_eq_true rfl) (Nat.le_of_ble_eq_true rfl) hr hcx ?_
  show kl_R p l e s m below meth c0 D ac adx adm b0 (894, [some (.ref 0), some (.ref 1), some (.ref 2), some (.int x3)], [.int r1]) _ _
  refine kl_go hC (pc' := 899) (L' := [some (.ref 0), some (.ref 1), some (.ref 2), some (.int x3)]) (st' := [.int (x3 + (1 : Int32)), .ref 0, .ref 2, .int r1]) 5 rfl ?_
  refine kl_sld hC rfl hi1 ?_
  refine kl_go hC (pc' := 904) (L' := [some (.ref 0), some (.ref 1), some (.ref 2), some (.int x3)]) (st' := [.int (x3 + (2 : Int32)), .ref 0, .int (xs (x3 + (1 : Int32)).toNatClampNeg), .ref 2, .int r1]) 4 rfl ?_
  refine kl_sld hC rfl hi2 ?_
  refine kl_callM hC (as := [.int (xs (x3 + (1 : Int32)).toNatClampNeg), .int (xs (x3 + (2 : Int32)).toNatClampNeg)]) (rest := [.int r1]) rfl klk_L_93 kse_X5_open rfl rfl rfl rfl (Nat.le_of_ble_eq_true rfl) (Nat.le_of_ble_eq_true rfl) hr hcm ?_
  show kl_R p l e s m below meth c0 D ac adx adm b0 (908, [some (.ref 0), some (.ref 1), some (.ref 2), some (.int x3)], [.int r1, .int r1]) _ _
  refine kl_eq hC rfl ?_
  exact kk _ _ hinv
set_option maxRecDepth 100000 in
set_option maxHeartbeats 4000000 in
theorem kl_case18 {p : Program} {l : Launch} {e : Env} {s : State} {m : MethodId} {below : List Frame} {meth : Method} {c0 : Code} {D : va_G} {ac : Nat → ClassId} {adx adm : Nat → Nat} {b0 Lx : Nat} {xs : Nat → Int32} (hC : kl_C p s m meth c0 D ac adx adm b0 Lx xs) {Inv : kx_M → kx_M → Prop} {Mx Mm : kx_M} (hinv0 : Inv Mx Mm) {x3 : Int32} (hi1 : vp_in (x3 + (1 : Int32)) Lx) (hi2 : vp_in (x3 + (2 : Int32)) Lx) (hi3 : vp_in (x3 + (3 : Int32)) Lx) (hi4 : vp_in (x3 + (4 : Int32)) Lx) (hi5 : vp_in (x3 + (5 : Int32)) Lx) (hs : kl_simI Inv T_X4_shown T_X5_shown [.int (xs (x3 + (1 : Int32)).toNatClampNeg), .int (xs (x3 + (2 : Int32)).toNatClampNeg)]) (kk : ∀ Mx' Mm', Inv Mx' Mm' → kl_R p l e s m below meth c0 D ac adx adm b0 (2039, [some (.ref 0), some (.ref 1), some (.ref 2), some (.int x3)], []) Mx' Mm') : kl_R p l e s m below meth c0 D ac adx adm b0 (913, [some (.ref 0), some (.ref 1), some (.ref 2), some (.int x3)], []) Mx Mm := by
  obtain ⟨r1, Mx', Mm', hcx, hcm, hinv⟩ := hs Mx Mm hinv0
  have hr : kl_num (.int r1) := Or.inl ⟨r1, rfl⟩
  refine kl_go hC (pc' := 918) (L' := [some (.ref 0), some (.ref 1), some (.ref 2), some (.int x3)]) (st' := [.int (x3 + (1 : Int32)), .ref 0, .ref 1]) 5 rfl ?_
  refine kl_sld hC rfl hi1 ?_
  refine kl_go hC (pc' := 923) (L' := [some (.ref 0), some (.ref 1), some (.ref 2), some (.int x3)]) (st' := [.int (x3 + (2 : Int32)), .ref 0, .int (xs (x3 + (1 : Int32)).toNatClampNeg), .ref 1]) 4 rfl ?_
  refine kl_sld hC rfl hi2 ?_
  refine kl_callX hC (as := [.int (xs (x3 + (1 : Int32)).toNatClampNeg), .int (xs (x3 + (2 : Int32)).toNatClampNeg)]) (rest := []) rfl klk_L_94 kse_X4_shown rfl rfl rfl rfl (Nat.le_of_ble_eq_true rfl) (Nat.le_of_ble_eq_true rfl) hr hcx ?_
  show kl_R p l e s m below meth c0 D ac adx adm b0 (927, [some (.ref 0), some (.ref 1), some (.ref 2), some (.int x3)], [.int r1]) _ _
  refine kl_go hC (pc' := 932) (L' := [some (.ref 0), some (.ref 1), some (.ref 2), some (.int x3)]) (st' := [.int (x3 + (1 : Int32)), .ref 0, .ref 2, .int r1]) 5 rfl ?_
  refine kl_sld hC rfl hi1 ?_
  refine kl_go hC (pc' := 937) (L' := [some (.ref 0), some (.ref 1), some (.ref 2), some (.int x3)]) (st' := [.int (x3 + (2 : Int32)), .ref 0, .int (xs (x3 + (1 : Int32)).toNatClampNeg), .ref 2, .int r1]) 4 rfl ?_
  refine kl_sld hC rfl hi2 ?_
  refine kl_callM hC (as := [.int (xs (x3 + (1 : Int32)).toNatClampNeg), .int (xs (x3 + (2 : Int32)).toNatClampNeg)]) (rest := [.int r1]) rfl klk_L_97 kse_X5_shown rfl rfl rfl rfl (Nat.le_of_ble_eq_true rfl) (Nat.le_of_ble_eq_true rfl) hr hcm ?_
  show kl_R p l e s m below meth c0 D ac adx adm b0 (941, [some (.ref 0), some (.ref 1), some (.ref 2), some (.int x3)], [.int r1, .int r1]) _ _
  refine kl_eq hC rfl ?_
  exact kk _ _ hinv
set_option maxRecDepth 100000 in
set_option maxHeartbeats 4000000 in
theorem kl_case19 {p : Program} {l : Launch} {e : Env} {s : State} {m : MethodId} {below : List Frame} {meth : Method} {c0 : Code} {D : va_G} {ac : Nat → ClassId} {adx adm : Nat → Nat} {b0 Lx : Nat} {xs : Nat → Int32} (hC : kl_C p s m meth c0 D ac adx adm b0 Lx xs) {Inv : kx_M → kx_M → Prop} {Mx Mm : kx_M} (hinv0 : Inv Mx Mm) {x3 : Int32} (hi1 : vp_in (x3 + (1 : Int32)) Lx) (hi2 : vp_in (x3 + (2 : Int32)) Lx) (hi3 : vp_in (x3 + (3 : Int32)) Lx) (hi4 : vp_in (x3 + (4 : Int32)) Lx) (hi5 : vp_in (x3 + (5 : Int32)) Lx) (hs : kl_simI Inv T_X4_known T_X5_known [.int (xs (x3 + (1 : Int32)).toNatClampNeg)]) (kk : ∀ Mx' Mm', Inv Mx' Mm' → kl_R p l e s m below meth c0 D ac adx adm b0 (2039, [some (.ref 0), some (.ref 1), some (.ref 2), some (.int x3)], []) Mx' Mm') : kl_R p l e s m below meth c0 D ac adx adm b0 (946, [some (.ref 0), some (.ref 1), some (.ref 2), some (.int x3)], []) Mx Mm := by
  obtain ⟨r1, Mx', Mm', hcx, hcm, hinv⟩ := hs Mx Mm hinv0
  have hr : kl_num (.int r1) := Or.inl ⟨r1, rfl⟩
  refine kl_go hC (pc' := 951) (L' := [some (.ref 0), some (.ref 1), some (.ref 2), some (.int x3)]) (st' := [.int (x3 + (1 : Int32)), .ref 0, .ref 1]) 5 rfl ?_
  refine kl_sld hC rfl hi1 ?_
  refine kl_callX hC (as := [.int (xs (x3 + (1 : Int32)).toNatClampNeg)]) (rest := []) rfl klk_L_98 kse_X4_known rfl rfl rfl rfl (Nat.le_of_ble_eq_true rfl) (Nat.le_of_ble_eq_true rfl) hr hcx ?_
  show kl_R p l e s m below meth c0 D ac adx adm b0 (955, [some (.ref 0), some (.ref 1), some (.ref 2), some (.int x3)], [.int r1]) _ _
  refine kl_go hC (pc' := 960) (L' := [some (.ref 0), some (.ref 1), some (.ref 2), some (.int x3)]) (st' := [.int (x3 + (1 : Int32)), .ref 0, .ref 2, .int r1]) 5 rfl ?_
  refine kl_sld hC rfl hi1 ?_
  refine kl_callM hC (as := [.int (xs (x3 + (1 : Int32)).toNatClampNeg)]) (rest := [.int r1]) rfl klk_L_101 kse_X5_known rfl rfl rfl rfl (Nat.le_of_ble_eq_true rfl) (Nat.le_of_ble_eq_true rfl) hr hcm ?_
  show kl_R p l e s m below meth c0 D ac adx adm b0 (964, [some (.ref 0), some (.ref 1), some (.ref 2), some (.int x3)], [.int r1, .int r1]) _ _
  refine kl_eq hC rfl ?_
  exact kk _ _ hinv
set_option maxRecDepth 100000 in
set_option maxHeartbeats 4000000 in
theorem kl_case20 {p : Program} {l : Launch} {e : Env} {s : State} {m : MethodId} {below : List Frame} {meth : Method} {c0 : Code} {D : va_G} {ac : Nat → ClassId} {adx adm : Nat → Nat} {b0 Lx : Nat} {xs : Nat → Int32} (hC : kl_C p s m meth c0 D ac adx adm b0 Lx xs) {Inv : kx_M → kx_M → Prop} {Mx Mm : kx_M} (hinv0 : Inv Mx Mm) {x3 : Int32} (hi1 : vp_in (x3 + (1 : Int32)) Lx) (hi2 : vp_in (x3 + (2 : Int32)) Lx) (hi3 : vp_in (x3 + (3 : Int32)) Lx) (hi4 : vp_in (x3 + (4 : Int32)) Lx) (hi5 : vp_in (x3 + (5 : Int32)) Lx) (hs : kl_simI Inv T_X4_fresh T_X5_fresh [.int (xs (x3 + (1 : Int32)).toNatClampNeg)]) (kk : ∀ Mx' Mm', Inv Mx' Mm' → kl_R p l e s m below meth c0 D ac adx adm b0 (2039, [some (.ref 0), some (.ref 1), some (.ref 2), some (.int x3)], []) Mx' Mm') : kl_R p l e s m below meth c0 D ac adx adm b0 (969, [some (.ref 0), some (.ref 1), some (.ref 2), some (.int x3)], []) Mx Mm := by
  obtain ⟨r1, Mx', Mm', hcx, hcm, hinv⟩ := hs Mx Mm hinv0
  have hr : kl_num (.int r1) := Or.inl ⟨r1, rfl⟩
  refine kl_go hC (pc' := 974) (L' := [some (.ref 0), some (.ref 1), some (.ref 2), some (.int x3)]) (st' := [.int (x3 + (1 : Int32)), .ref 0, .ref 1]) 5 rfl ?_
  refine kl_sld hC rfl hi1 ?_
  refine kl_callX hC (as := [.int (xs (x3 + (1 : Int32)).toNatClampNeg)]) (rest := []) rfl klk_L_102 kse_X4_fresh rfl rfl rfl rfl (Nat.le_of_ble_eq_true rfl) (Nat.le_of_ble_eq_true rfl) hr hcx ?_
  show kl_R p l e s m below meth c0 D ac adx adm b0 (978, [some (.ref 0), some (.ref 1), some (.ref 2), some (.int x3)], [.int r1]) _ _
  refine kl_go hC (pc' := 983) (L' := [some (.ref 0), some (.ref 1), some (.ref 2), some (.int x3)]) (st' := [.int (x3 + (1 : Int32)), .ref 0, .ref 2, .int r1]) 5 rfl ?_
  refine kl_sld hC rfl hi1 ?_
  refine kl_callM hC (as := [.int (xs (x3 + (1 : Int32)).toNatClampNeg)]) (rest := [.int r1]) rfl klk_L_105 kse_X5_fresh rfl rfl rfl rfl (Nat.le_of_ble_eq_true rfl) (Nat.le_of_ble_eq_true rfl) hr hcm ?_
  show kl_R p l e s m below meth c0 D ac adx adm b0 (987, [some (.ref 0), some (.ref 1), some (.ref 2), some (.int x3)], [.int r1, .int r1]) _ _
  refine kl_eq hC rfl ?_
  exact kk _ _ hinv
set_option maxRecDepth 100000 in
set_option maxHeartbeats 4000000 in
theorem kl_case21 {p : Program} {l : Launch} {e : Env} {s : State} {m : MethodId} {below : List Frame} {meth : Method} {c0 : Code} {D : va_G} {ac : Nat → ClassId} {adx adm : Nat → Nat} {b0 Lx : Nat} {xs : Nat → Int32} (hC : kl_C p s m meth c0 D ac adx adm b0 Lx xs) {Inv : kx_M → kx_M → Prop} {Mx Mm : kx_M} (hinv0 : Inv Mx Mm) {x3 : Int32} (hi1 : vp_in (x3 + (1 : Int32)) Lx) (hi2 : vp_in (x3 + (2 : Int32)) Lx) (hi3 : vp_in (x3 + (3 : Int32)) Lx) (hi4 : vp_in (x3 + (4 : Int32)) Lx) (hi5 : vp_in (x3 + (5 : Int32)) Lx) (hs : kl_simI Inv T_X4_veilThen T_X5_veilThen [.int (xs (x3 + (1 : Int32)).toNatClampNeg)]) (kk : ∀ Mx' Mm', Inv Mx' Mm' → kl_R p l e s m below meth c0 D ac adx adm b0 (2039, [some (.ref 0), some (.ref 1), some (.ref 2), some (.int x3)], []) Mx' Mm') : kl_R p l e s m below meth c0 D ac adx adm b0 (992, [some (.ref 0), some (.ref 1), some (.ref 2), some (.int x3)], []) Mx Mm := by
  obtain ⟨r1, Mx', Mm', hcx, hcm, hinv⟩ := hs Mx Mm hinv0
  have hr : kl_num (.int r1) := Or.inl ⟨r1, rfl⟩
  refine kl_go hC (pc' := 997) (L' := [some (.ref 0), some (.ref 1), some (.ref 2), some (.int x3)]) (st' := [.int (x3 + (1 : Int32)), .ref 0, .ref 1]) 5 rfl ?_
  refine kl_sld hC rfl hi1 ?_
  refine kl_callX hC (as := [.int (xs (x3 + (1 : Int32)).toNatClampNeg)]) (rest := []) rfl klk_L_106 kse_X4_veilThen rfl rfl rfl rfl (Nat.le_of_ble_eq_true rfl) (Nat.le_of_ble_eq_true rfl) hr hcx ?_
  show kl_R p l e s m below meth c0 D ac adx adm b0 (1001, [some (.ref 0), some (.ref 1), some (.ref 2), some (.int x3)], [.int r1]) _ _
  refine kl_go hC (pc' := 1006) (L' := [some (.ref 0), some (.ref 1), some (.ref 2), some (.int x3)]) (st' := [.int (x3 + (1 : Int32)), .ref 0, .ref 2, .int r1]) 5 rfl ?_
  refine kl_sld hC rfl hi1 ?_
  refine kl_callM hC (as := [.int (xs (x3 + (1 : Int32)).toNatClampNeg)]) (rest := [.int r1]) rfl klk_L_109 kse_X5_veilThen rfl rfl rfl rfl (Nat.le_of_ble_eq_true rfl) (Nat.le_of_ble_eq_true rfl) hr hcm ?_
  show kl_R p l e s m below meth c0 D ac adx adm b0 (1010, [some (.ref 0), some (.ref 1), some (.ref 2), some (.int x3)], [.int r1, .int r1]) _ _
  refine kl_eq hC rfl ?_
  exact kk _ _ hinv
set_option maxRecDepth 100000 in
set_option maxHeartbeats 4000000 in
theorem kl_case22 {p : Program} {l : Launch} {e : Env} {s : State} {m : MethodId} {below : List Frame} {meth : Method} {c0 : Code} {D : va_G} {ac : Nat → ClassId} {adx adm : Nat → Nat} {b0 Lx : Nat} {xs : Nat → Int32} (hC : kl_C p s m meth c0 D ac adx adm b0 Lx xs) {Inv : kx_M → kx_M → Prop} {Mx Mm : kx_M} (hinv0 : Inv Mx Mm) {x3 : Int32} (hi1 : vp_in (x3 + (1 : Int32)) Lx) (hi2 : vp_in (x3 + (2 : Int32)) Lx) (hi3 : vp_in (x3 + (3 : Int32)) Lx) (hi4 : vp_in (x3 + (4 : Int32)) Lx) (hi5 : vp_in (x3 + (5 : Int32)) Lx) (hs : kl_simI Inv T_X4_send T_X5_send [.int (xs (x3 + (1 : Int32)).toNatClampNeg)]) (kk : ∀ Mx' Mm', Inv Mx' Mm' → kl_R p l e s m below meth c0 D ac adx adm b0 (2039, [some (.ref 0), some (.ref 1), some (.ref 2), some (.int x3)], []) Mx' Mm') : kl_R p l e s m below meth c0 D ac adx adm b0 (1015, [some (.ref 0), some (.ref 1), some (.ref 2), some (.int x3)], []) Mx Mm := by
  obtain ⟨r1, Mx', Mm', hcx, hcm, hinv⟩ := hs Mx Mm hinv0
  have hr : kl_num (.int r1) := Or.inl ⟨r1, rfl⟩
  refine kl_go hC (pc' := 1020) (L' := [some (.ref 0), some (.ref 1), some (.ref 2), some (.int x3)]) (st' := [.int (x3 + (1 : Int32)), .ref 0, .ref 1]) 5 rfl ?_
  refine kl_sld hC rfl hi1 ?_
  refine kl_callX hC (as := [.int (xs (x3 + (1 : Int32)).toNatClampNeg)]) (rest := []) rfl klk_L_110 kse_X4_send rfl rfl rfl rfl (Nat.le_of_ble_eq_true rfl) (Nat.le_of_ble_eq_true rfl) hr hcx ?_
  show kl_R p l e s m below meth c0 D ac adx adm b0 (1024, [some (.ref 0), some (.ref 1), some (.ref 2), some (.int x3)], [.int r1]) _ _
  refine kl_go hC (pc' := 1029) (L' := [some (.ref 0), some (.ref 1), some (.ref 2), some (.int x3)]) (st' := [.int (x3 + (1 : Int32)), .ref 0, .ref 2, .int r1]) 5 rfl ?_
  refine kl_sld hC rfl hi1 ?_
  refine kl_callM hC (as := [.int (xs (x3 + (1 : Int32)).toNatClampNeg)]) (rest := [.int r1]) rfl klk_L_113 kse_X5_send rfl rfl rfl rfl (Nat.le_of_ble_eq_true rfl) (Nat.le_of_ble_eq_true rfl) hr hcm ?_
  show kl_R p l e s m below meth c0 D ac adx adm b0 (1033, [some (.ref 0), some (.ref 1), some (.ref 2), some (.int x3)], [.int r1, .int r1]) _ _
  refine kl_eq hC rfl ?_
  exact kk _ _ hinv
set_option maxRecDepth 100000 in
set_option maxHeartbeats 4000000 in
theorem kl_case23 {p : Program} {l : Launch} {e : Env} {s : State} {m : MethodId} {below : List Frame} {meth : Method} {c0 : Code} {D : va_G} {ac : Nat → ClassId} {adx adm : Nat → Nat} {b0 Lx : Nat} {xs : Nat → Int32} (hC : kl_C p s m meth c0 D ac adx adm b0 Lx xs) {Inv : kx_M → kx_M → Prop} {Mx Mm : kx_M} (hinv0 : Inv Mx Mm) {x3 : Int32} (hi1 : vp_in (x3 + (1 : Int32)) Lx) (hi2 : vp_in (x3 + (2 : Int32)) Lx) (hi3 : vp_in (x3 + (3 : Int32)) Lx) (hi4 : vp_in (x3 + (4 : Int32)) Lx) (hi5 : vp_in (x3 + (5 : Int32)) Lx) (hs : kl_simI Inv T_X4_fewest T_X5_fewest [.int (xs (x3 + (1 : Int32)).toNatClampNeg)]) (kk : ∀ Mx' Mm', Inv Mx' Mm' → kl_R p l e s m below meth c0 D ac adx adm b0 (2039, [some (.ref 0), some (.ref 1), some (.ref 2), some (.int x3)], []) Mx' Mm') : kl_R p l e s m below meth c0 D ac adx adm b0 (1038, [some (.ref 0), some (.ref 1), some (.ref 2), some (.int x3)], []) Mx Mm := by
  obtain ⟨r1, Mx', Mm', hcx, hcm, hinv⟩ := hs Mx Mm hinv0
  have hr : kl_num (.int r1) := Or.inl ⟨r1, rfl⟩
  refine kl_go hC (pc' := 1043) (L' := [some (.ref 0), some (.ref 1), some (.ref 2), some (.int x3)]) (st' := [.int (x3 + (1 : Int32)), .ref 0, .ref 1]) 5 rfl ?_
  refine kl_sld hC rfl hi1 ?_
  refine kl_callX hC (as := [.int (xs (x3 + (1 : Int32)).toNatClampNeg)]) (rest := []) rfl klk_L_114 kse_X4_fewest rfl rfl rfl rfl (Nat.le_of_ble_eq_true rfl) (Nat.le_of_ble_eq_true rfl) hr hcx ?_
  show kl_R p l e s m below meth c0 D ac adx adm b0 (1047, [some (.ref 0), some (.ref 1), some (.ref 2), some (.int x3)], [.int r1]) _ _
  refine kl_go hC (pc' := 1052) (L' := [some (.ref 0), some (.ref 1), some (.ref 2), some (.int x3)]) (st' := [.int (x3 + (1 : Int32)), .ref 0, .ref 2, .int r1]) 5 rfl ?_
  refine kl_sld hC rfl hi1 ?_
  refine kl_callM hC (as := [.int (xs (x3 + (1 : Int32)).toNatClampNeg)]) (rest := [.int r1]) rfl klk_L_117 kse_X5_fewest rfl rfl rfl rfl (Nat.le_of_ble_eq_true rfl) (Nat.le_of_ble_eq_true rfl) hr hcm ?_
  show kl_R p l e s m below meth c0 D ac adx adm b0 (1056, [some (.ref 0), some (.ref 1), some (.ref 2), some (.int x3)], [.int r1, .int r1]) _ _
  refine kl_eq hC rfl ?_
  exact kk _ _ hinv
set_option maxRecDepth 100000 in
set_option maxHeartbeats 4000000 in
theorem kl_case24 {p : Program} {l : Launch} {e : Env} {s : State} {m : MethodId} {below : List Frame} {meth : Method} {c0 : Code} {D : va_G} {ac : Nat → ClassId} {adx adm : Nat → Nat} {b0 Lx : Nat} {xs : Nat → Int32} (hC : kl_C p s m meth c0 D ac adx adm b0 Lx xs) {Inv : kx_M → kx_M → Prop} {Mx Mm : kx_M} (hinv0 : Inv Mx Mm) {x3 : Int32} (hi1 : vp_in (x3 + (1 : Int32)) Lx) (hi2 : vp_in (x3 + (2 : Int32)) Lx) (hi3 : vp_in (x3 + (3 : Int32)) Lx) (hi4 : vp_in (x3 + (4 : Int32)) Lx) (hi5 : vp_in (x3 + (5 : Int32)) Lx) (hs : kl_simI Inv T_X4_order T_X5_order [.int (xs (x3 + (1 : Int32)).toNatClampNeg), .int (xs (x3 + (2 : Int32)).toNatClampNeg)]) (kk : ∀ Mx' Mm', Inv Mx' Mm' → kl_R p l e s m below meth c0 D ac adx adm b0 (2039, [some (.ref 0), some (.ref 1), some (.ref 2), some (.int x3)], []) Mx' Mm') : kl_R p l e s m below meth c0 D ac adx adm b0 (1061, [some (.ref 0), some (.ref 1), some (.ref 2), some (.int x3)], []) Mx Mm := by
  obtain ⟨r1, Mx', Mm', hcx, hcm, hinv⟩ := hs Mx Mm hinv0
  have hr : kl_num (.int r1) := Or.inl ⟨r1, rfl⟩
  refine kl_go hC (pc' := 1066) (L' := [some (.ref 0), some (.ref 1), some (.ref 2), some (.int x3)]) (st' := [.int (x3 + (1 : Int32)), .ref 0, .ref 1]) 5 rfl ?_
  refine kl_sld hC rfl hi1 ?_
  refine kl_go hC (pc' := 1071) (L' := [some (.ref 0), some (.ref 1), some (.ref 2), some (.int x3)]) (st' := [.int (x3 + (2 : Int32)), .ref 0, .int (xs (x3 + (1 : Int32)).toNatClampNeg), .ref 1]) 4 rfl ?_
  refine kl_sld hC rfl hi2 ?_
  refine kl_callX hC (as := [.int (xs (x3 + (1 : Int32)).toNatClampNeg), .int (xs (x3 + (2 : Int32)).toNatClampNeg)]) (rest := []) rfl klk_L_118 kse_X4_order rfl rfl rfl rfl (Nat.le_of_ble_eq_true rfl) (Nat.le_of_ble_eq_true rfl) hr hcx ?_
  show kl_R p l e s m below meth c0 D ac adx adm b0 (1075, [some (.ref 0), some (.ref 1), some (.ref 2), some (.int x3)], [.int r1]) _ _
  refine kl_go hC (pc' := 1080) (L' := [some (.ref 0), some (.ref 1), some (.ref 2), some (.int x3)]) (st' := [.int (x3 + (1 : Int32)), .ref 0, .ref 2, .int r1]) 5 rfl ?_
  refine kl_sld hC rfl hi1 ?_
  refine kl_go hC (pc' := 1085) (L' := [some (.ref 0), some (.ref 1), some (.ref 2), some (.int x3)]) (st' := [.int (x3 + (2 : Int32)), .ref 0, .int (xs (x3 + (1 : Int32)).toNatClampNeg), .ref 2, .int r1]) 4 rfl ?_
  refine kl_sld hC rfl hi2 ?_
  refine kl_callM hC (as := [.int (xs (x3 + (1 : Int32)).toNatClampNeg), .int (xs (x3 + (2 : Int32)).toNatClampNeg)]) (rest := [.int r1]) rfl klk_L_121 kse_X5_order rfl rfl rfl rfl (Nat.le_of_ble_eq_true rfl) (Nat.le_of_ble_eq_true rfl) hr hcm ?_
  show kl_R p l e s m below meth c0 D ac adx adm b0 (1089, [some (.ref 0), some (.ref 1), some (.ref 2), some (.int x3)], [.int r1, .int r1]) _ _
  refine kl_eq hC rfl ?_
  exact kk _ _ hinv
set_option maxRecDepth 100000 in
set_option maxHeartbeats 4000000 in
theorem kl_case25 {p : Program} {l : Launch} {e : Env} {s : State} {m : MethodId} {below : List Frame} {meth : Method} {c0 : Code} {D : va_G} {ac : Nat → ClassId} {adx adm : Nat → Nat} {b0 Lx : Nat} {xs : Nat → Int32} (hC : kl_C p s m meth c0 D ac adx adm b0 Lx xs) {Inv : kx_M → kx_M → Prop} {Mx Mm : kx_M} (hinv0 : Inv Mx Mm) {x3 : Int32} (hi1 : vp_in (x3 + (1 : Int32)) Lx) (hi2 : vp_in (x3 + (2 : Int32)) Lx) (hi3 : vp_in (x3 + (3 : Int32)) Lx) (hi4 : vp_in (x3 + (4 : Int32)) Lx) (hi5 : vp_in (x3 + (5 : Int32)) Lx) (hs : kl_simI Inv T_X4_how T_X5_how [.int (xs (x3 + (1 : Int32)).toNatClampNeg), .int (xs (x3 + (2 : Int32)).toNatClampNeg)]) (kk : ∀ Mx' Mm', Inv Mx' Mm' → kl_R p l e s m below meth c0 D ac adx adm b0 (2039, [some (.ref 0), some (.ref 1), some (.ref 2), some (.int x3)], []) Mx' Mm') : kl_R p l e s m below meth c0 D ac adx adm b0 (1094, [some (.ref 0), some (.ref 1), some (.ref 2), some (.int x3)], []) Mx Mm := by
  obtain ⟨r1, Mx', Mm', hcx, hcm, hinv⟩ := hs Mx Mm hinv0
  have hr : kl_num (.int r1) := Or.inl ⟨r1, rfl⟩
  refine kl_go hC (pc' := 1099) (L' := [some (.ref 0), some (.ref 1), some (.ref 2), some (.int x3)]) (st' := [.int (x3 + (1 : Int32)), .ref 0, .ref 1]) 5 rfl ?_
  refine kl_sld hC rfl hi1 ?_
  refine kl_go hC (pc' := 1104) (L' := [some (.ref 0), some (.ref 1), some (.ref 2), some (.int x3)]) (st' := [.int (x3 + (2 : Int32)), .ref 0, .int (xs (x3 + (1 : Int32)).toNatClampNeg), .ref 1]) 4 rfl ?_
  refine kl_sld hC rfl hi2 ?_
  refine kl_callX hC (as := [.int (xs (x3 + (1 : Int32)).toNatClampNeg), .int (xs (x3 + (2 : Int32)).toNatClampNeg)]) (rest := []) rfl klk_L_122 kse_X4_how rfl rfl rfl rfl (Nat.le_of_ble_eq_true rfl) (Nat.le_of_ble_eq_true rfl) hr hcx ?_
  show kl_R p l e s m below meth c0 D ac adx adm b0 (1108, [some (.ref 0), some (.ref 1), some (.ref 2), some (.int x3)], [.int r1]) _ _
  refine kl_go hC (pc' := 1113) (L' := [some (.ref 0), some (.ref 1), some (.ref 2), some (.int x3)]) (st' := [.int (x3 + (1 : Int32)), .ref 0, .ref 2, .int r1]) 5 rfl ?_
  refine kl_sld hC rfl hi1 ?_
  refine kl_go hC (pc' := 1118) (L' := [some (.ref 0), some (.ref 1), some (.ref 2), some (.int x3)]) (st' := [.int (x3 + (2 : Int32)), .ref 0, .int (xs (x3 + (1 : Int32)).toNatClampNeg), .ref 2, .int r1]) 4 rfl ?_
  refine kl_sld hC rfl hi2 ?_
  refine kl_callM hC (as := [.int (xs (x3 + (1 : Int32)).toNatClampNeg), .int (xs (x3 + (2 : Int32)).toNatClampNeg)]) (rest := [.int r1]) rfl klk_L_125 kse_X5_how rfl rfl rfl rfl (Nat.le_of_ble_eq_true rfl) (Nat.le_of_ble_eq_true rfl) hr hcm ?_
  show kl_R p l e s m below meth c0 D ac adx adm b0 (1122, [some (.ref 0), some (.ref 1), some (.ref 2), some (.int x3)], [.int r1, .int r1]) _ _
  refine kl_eq hC rfl ?_
  exact kk _ _ hinv
set_option maxRecDepth 100000 in
set_option maxHeartbeats 4000000 in
theorem kl_case26 {p : Program} {l : Launch} {e : Env} {s : State} {m : MethodId} {below : List Frame} {meth : Method} {c0 : Code} {D : va_G} {ac : Nat → ClassId} {adx adm : Nat → Nat} {b0 Lx : Nat} {xs : Nat → Int32} (hC : kl_C p s m meth c0 D ac adx adm b0 Lx xs) {Inv : kx_M → kx_M → Prop} {Mx Mm : kx_M} (hinv0 : Inv Mx Mm) {x3 : Int32} (hi1 : vp_in (x3 + (1 : Int32)) Lx) (hi2 : vp_in (x3 + (2 : Int32)) Lx) (hi3 : vp_in (x3 + (3 : Int32)) Lx) (hi4 : vp_in (x3 + (4 : Int32)) Lx) (hi5 : vp_in (x3 + (5 : Int32)) Lx) (hs : kl_simI Inv T_X4_lifted T_X5_lifted [.int (xs (x3 + (1 : Int32)).toNatClampNeg), .int (xs (x3 + (2 : Int32)).toNatClampNeg), .int (xs (x3 + (3 : Int32)).toNatClampNeg)]) (kk : ∀ Mx' Mm', Inv Mx' Mm' → kl_R p l e s m below meth c0 D ac adx adm b0 (2039, [some (.ref 0), some (.ref 1), some (.ref 2), some (.int x3)], []) Mx' Mm') : kl_R p l e s m below meth c0 D ac adx adm b0 (1127, [some (.ref 0), some (.ref 1), some (.ref 2), some (.int x3)], []) Mx Mm := by
  obtain ⟨r1, Mx', Mm', hcx, hcm, hinv⟩ := hs Mx Mm hinv0
  have hr : kl_num (.int r1) := Or.inl ⟨r1, rfl⟩
  refine kl_go hC (pc' := 1132) (L' := [some (.ref 0), some (.ref 1), some (.ref 2), some (.int x3)]) (st' := [.int (x3 + (1 : Int32)), .ref 0, .ref 1]) 5 rfl ?_
  refine kl_sld hC rfl hi1 ?_
  refine kl_go hC (pc' := 1137) (L' := [some (.ref 0), some (.ref 1), some (.ref 2), some (.int x3)]) (st' := [.int (x3 + (2 : Int32)), .ref 0, .int (xs (x3 + (1 : Int32)).toNatClampNeg), .ref 1]) 4 rfl ?_
  refine kl_sld hC rfl hi2 ?_
  refine kl_go hC (pc' := 1142) (L' := [some (.ref 0), some (.ref 1), some (.ref 2), some (.int x3)]) (st' := [.int (x3 + (3 : Int32)), .ref 0, .int (xs (x3 + (2 : Int32)).toNatClampNeg), .int (xs (x3 + (1 : Int32)).toNatClampNeg), .ref 1]) 4 rfl ?_
  refine kl_sld hC rfl hi3 ?_
  refine kl_callX hC (as := [.int (xs (x3 + (1 : Int32)).toNatClampNeg), .int (xs (x3 + (2 : Int32)).toNatClampNeg), .int (xs (x3 + (3 : Int32)).toNatClampNeg)]) (rest := []) rfl klk_L_126 kse_X4_lifted rfl rfl rfl rfl (Nat.le_of_ble_eq_true rfl) (Nat.le_of_ble_eq_true rfl) hr hcx ?_
  show kl_R p l e s m below meth c0 D ac adx adm b0 (1146, [some (.ref 0), some (.ref 1), some (.ref 2), some (.int x3)], [.int r1]) _ _
  refine kl_go hC (pc' := 1151) (L' := [some (.ref 0), some (.ref 1), some (.ref 2), some (.int x3)]) (st' := [.int (x3 + (1 : Int32)), .ref 0, .ref 2, .int r1]) 5 rfl ?_
  refine kl_sld hC rfl hi1 ?_
  refine kl_go hC (pc' := 1156) (L' := [some (.ref 0), some (.ref 1), some (.ref 2), some (.int x3)]) (st' := [.int (x3 + (2 : Int32)), .ref 0, .int (xs (x3 + (1 : Int32)).toNatClampNeg), .ref 2, .int r1]) 4 rfl ?_
  refine kl_sld hC rfl hi2 ?_
  refine kl_go hC (pc' := 1161) (L' := [some (.ref 0), some (.ref 1), some (.ref 2), some (.int x3)]) (st' := [.int (x3 + (3 : Int32)), .ref 0, .int (xs (x3 + (2 : Int32)).toNatClampNeg), .int (xs (x3 + (1 : Int32)).toNatClampNeg), .ref 2, .int r1]) 4 rfl ?_
  refine kl_sld hC rfl hi3 ?_
  refine kl_callM hC (as := [.int (xs (x3 + (1 : Int32)).toNatClampNeg), .int (xs (x3 + (2 : Int32)).toNatClampNeg), .int (xs (x3 + (3 : Int32)).toNatClampNeg)]) (rest := [.int r1]) rfl klk_L_129 kse_X5_lifted rfl rfl rfl rfl (Nat.le_of_ble_eq_true rfl) (Nat.le_of_ble_eq_true rfl) hr hcm ?_
  show kl_R p l e s m below meth c0 D ac adx adm b0 (1165, [some (.ref 0), some (.ref 1), some (.ref 2), some (.int x3)], [.int r1, .int r1]) _ _
  refine kl_eq hC rfl ?_
  exact kk _ _ hinv
set_option maxRecDepth 100000 in
set_option maxHeartbeats 4000000 in
theorem kl_case27 {p : Program} {l : Launch} {e : Env} {s : State} {m : MethodId} {below : List Frame} {meth : Method} {c0 : Code} {D : va_G} {ac : Nat → ClassId} {adx adm : Nat → Nat} {b0 Lx : Nat} {xs : Nat → Int32} (hC : kl_C p s m meth c0 D ac adx adm b0 Lx xs) {Inv : kx_M → kx_M → Prop} {Mx Mm : kx_M} (hinv0 : Inv Mx Mm) {x3 : Int32} (hi1 : vp_in (x3 + (1 : Int32)) Lx) (hi2 : vp_in (x3 + (2 : Int32)) Lx) (hi3 : vp_in (x3 + (3 : Int32)) Lx) (hi4 : vp_in (x3 + (4 : Int32)) Lx) (hi5 : vp_in (x3 + (5 : Int32)) Lx) (hs : kl_simI Inv T_X4_register T_X5_register [.int (xs (x3 + (1 : Int32)).toNatClampNeg), .int (xs (x3 + (2 : Int32)).toNatClampNeg), .int (xs (x3 + (3 : Int32)).toNatClampNeg), .int (xs (x3 + (4 : Int32)).toNatClampNeg)]) (kk : ∀ Mx' Mm', Inv Mx' Mm' → kl_R p l e s m below meth c0 D ac adx adm b0 (2039, [some (.ref 0), some (.ref 1), some (.ref 2), some (.int x3)], []) Mx' Mm') : kl_R p l e s m below meth c0 D ac adx adm b0 (1170, [some (.ref 0), some (.ref 1), some (.ref 2), some (.int x3)], []) Mx Mm := by
  obtain ⟨r1, Mx', Mm', hcx, hcm, hinv⟩ := hs Mx Mm hinv0
  have hr : kl_num (.int r1) := Or.inl ⟨r1, rfl⟩
  refine kl_go hC (pc' := 1175) (L' := [some (.ref 0), some (.ref 1), some (.ref 2), some (.int x3)]) (st' := [.int (x3 + (1 : Int32)), .ref 0, .ref 1]) 5 rfl ?_
  refine kl_sld hC rfl hi1 ?_
  refine kl_go hC (pc' := 1180) (L' := [some (.ref 0), some (.ref 1), some (.ref 2), some (.int x3)]) (st' := [.int (x3 + (2 : Int32)), .ref 0, .int (xs (x3 + (1 : Int32)).toNatClampNeg), .ref 1]) 4 rfl ?_
  refine kl_sld hC rfl hi2 ?_
  refine kl_go hC (pc' := 1185) (L' := [some (.ref 0), some (.ref 1), some (.ref 2), some (.int x3)]) (st' := [.int (x3 + (3 : Int32)), .ref 0, .int (xs (x3 + (2 : Int32)).toNatClampNeg), .int (xs (x3 + (1 : Int32)).toNatClampNeg), .ref 1]) 4 rfl ?_
  refine kl_sld hC rfl hi3 ?_
  refine kl_go hC (pc' := 1190) (L' := [some (.ref 0), some (.ref 1), some (.ref 2), some (.int x3)]) (st' := [.int (x3 + (4 : Int32)), .ref 0, .int (xs (x3 + (3 : Int32)).toNatClampNeg), .int (xs (x3 + (2 : Int32)).toNatClampNeg), .int (xs (x3 + (1 : Int32)).toNatClampNeg), .ref 1]) 4 rfl ?_
  refine kl_sld hC rfl hi4 ?_
  refine kl_callX hC (as := [.int (xs (x3 + (1 : Int32)).toNatClampNeg), .int (xs (x3 + (2 : Int32)).toNatClampNeg), .int (xs (x3 + (3 : Int32)).toNatClampNeg), .int (xs (x3 + (4 : Int32)).toNatClampNeg)]) (rest := []) rfl klk_L_130 kse_X4_register rfl rfl rfl rfl (Nat.le_of_ble_eq_true rfl) (Nat.le_of_ble_eq_true rfl) hr hcx ?_
  show kl_R p l e s m below meth c0 D ac adx adm b0 (1194, [some (.ref 0), some (.ref 1), some (.ref 2), some (.int x3)], [.int r1]) _ _
  refine kl_go hC (pc' := 1199) (L' := [some (.ref 0), some (.ref 1), some (.ref 2), some (.int x3)]) (st' := [.int (x3 + (1 : Int32)), .ref 0, .ref 2, .int r1]) 5 rfl ?_
  refine kl_sld hC rfl hi1 ?_
  refine kl_go hC (pc' := 1204) (L' := [some (.ref 0), some (.ref 1), some (.ref 2), some (.int x3)]) (st' := [.int (x3 + (2 : Int32)), .ref 0, .int (xs (x3 + (1 : Int32)).toNatClampNeg), .ref 2, .int r1]) 4 rfl ?_
  refine kl_sld hC rfl hi2 ?_
  refine kl_go hC (pc' := 1209) (L' := [some (.ref 0), some (.ref 1), some (.ref 2), some (.int x3)]) (st' := [.int (x3 + (3 : Int32)), .ref 0, .int (xs (x3 + (2 : Int32)).toNatClampNeg), .int (xs (x3 + (1 : Int32)).toNatClampNeg), .ref 2, .int r1]) 4 rfl ?_
  refine kl_sld hC rfl hi3 ?_
  refine kl_go hC (pc' := 1214) (L' := [some (.ref 0), some (.ref 1), some (.ref 2), some (.int x3)]) (st' := [.int (x3 + (4 : Int32)), .ref 0, .int (xs (x3 + (3 : Int32)).toNatClampNeg), .int (xs (x3 + (2 : Int32)).toNatClampNeg), .int (xs (x3 + (1 : Int32)).toNatClampNeg), .ref 2, .int r1]) 4 rfl ?_
  refine kl_sld hC rfl hi4 ?_
  refine kl_callM hC (as := [.int (xs (x3 + (1 : Int32)).toNatClampNeg), .int (xs (x3 + (2 : Int32)).toNatClampNeg), .int (xs (x3 + (3 : Int32)).toNatClampNeg), .int (xs (x3 + (4 : Int32)).toNatClampNeg)]) (rest := [.int r1]) rfl klk_L_134 kse_X5_register rfl rfl rfl rfl (Nat.le_of_ble_eq_true rfl) (Nat.le_of_ble_eq_true rfl) hr hcm ?_
  show kl_R p l e s m below meth c0 D ac adx adm b0 (1218, [some (.ref 0), some (.ref 1), some (.ref 2), some (.int x3)], [.int r1, .int r1]) _ _
  refine kl_eq hC rfl ?_
  exact kk _ _ hinv
set_option maxRecDepth 100000 in
set_option maxHeartbeats 4000000 in
theorem kl_case28 {p : Program} {l : Launch} {e : Env} {s : State} {m : MethodId} {below : List Frame} {meth : Method} {c0 : Code} {D : va_G} {ac : Nat → ClassId} {adx adm : Nat → Nat} {b0 Lx : Nat} {xs : Nat → Int32} (hC : kl_C p s m meth c0 D ac adx adm b0 Lx xs) {Inv : kx_M → kx_M → Prop} {Mx Mm : kx_M} (hinv0 : Inv Mx Mm) {x3 : Int32} (hi1 : vp_in (x3 + (1 : Int32)) Lx) (hi2 : vp_in (x3 + (2 : Int32)) Lx) (hi3 : vp_in (x3 + (3 : Int32)) Lx) (hi4 : vp_in (x3 + (4 : Int32)) Lx) (hi5 : vp_in (x3 + (5 : Int32)) Lx) (hs : kl_simI Inv T_X4_fits T_X5_fits [.int (xs (x3 + (1 : Int32)).toNatClampNeg), .int (xs (x3 + (2 : Int32)).toNatClampNeg), .int (xs (x3 + (3 : Int32)).toNatClampNeg), .int (xs (x3 + (4 : Int32)).toNatClampNeg)]) (kk : ∀ Mx' Mm', Inv Mx' Mm' → kl_R p l e s m below meth c0 D ac adx adm b0 (2039, [some (.ref 0), some (.ref 1), some (.ref 2), some (.int x3)], []) Mx' Mm') : kl_R p l e s m below meth c0 D ac adx adm b0 (1223, [some (.ref 0), some (.ref 1), some (.ref 2), some (.int x3)], []) Mx Mm := by
  obtain ⟨r1, Mx', Mm', hcx, hcm, hinv⟩ := hs Mx Mm hinv0
  have hr : kl_num (.int r1) := Or.inl ⟨r1, rfl⟩
  refine kl_go hC (pc' := 1228) (L' := [some (.ref 0), some (.ref 1), some (.ref 2), some (.int x3)]) (st' := [.int (x3 + (1 : Int32)), .ref 0, .ref 1]) 5 rfl ?_
  refine kl_sld hC rfl hi1 ?_
  refine kl_go hC (pc' := 1233) (L' := [some (.ref 0), some (.ref 1), some (.ref 2), some (.int x3)]) (st' := [.int (x3 + (2 : Int32)), .ref 0, .int (xs (x3 + (1 : Int32)).toNatClampNeg), .ref 1]) 4 rfl ?_
  refine kl_sld hC rfl hi2 ?_
  refine kl_go hC (pc' := 1238) (L' := [some (.ref 0), some (.ref 1), some (.ref 2), some (.int x3)]) (st' := [.int (x3 + (3 : Int32)), .ref 0, .int (xs (x3 + (2 : Int32)).toNatClampNeg), .int (xs (x3 + (1 : Int32)).toNatClampNeg), .ref 1]) 4 rfl ?_
  refine kl_sld hC rfl hi3 ?_
  refine kl_go hC (pc' := 1243) (L' := [some (.ref 0), some (.ref 1), some (.ref 2), some (.int x3)]) (st' := [.int (x3 + (4 : Int32)), .ref 0, .int (xs (x3 + (3 : Int32)).toNatClampNeg), .int (xs (x3 + (2 : Int32)).toNatClampNeg), .int (xs (x3 + (1 : Int32)).toNatClampNeg), .ref 1]) 4 rfl ?_
  refine kl_sld hC rfl hi4 ?_
  refine kl_callX hC (as := [.int (xs (x3 + (1 : Int32)).toNatClampNeg), .int (xs (x3 + (2 : Int32)).toNatClampNeg), .int (xs (x3 + (3 : Int32)).toNatClampNeg), .int (xs (x3 + (4 : Int32)).toNatClampNeg)]) (rest := []) rfl klk_L_135 kse_X4_fits rfl rfl rfl rfl (Nat.le_of_ble_eq_true rfl) (Nat.le_of_ble_eq_true rfl) hr hcx ?_
  show kl_R p l e s m below meth c0 D ac adx adm b0 (1247, [some (.ref 0), some (.ref 1), some (.ref 2), some (.int x3)], [.int r1]) _ _
  refine kl_go hC (pc' := 1252) (L' := [some (.ref 0), some (.ref 1), some (.ref 2), some (.int x3)]) (st' := [.int (x3 + (1 : Int32)), .ref 0, .ref 2, .int r1]) 5 rfl ?_
  refine kl_sld hC rfl hi1 ?_
  refine kl_go hC (pc' := 1257) (L' := [some (.ref 0), some (.ref 1), some (.ref 2), some (.int x3)]) (st' := [.int (x3 + (2 : Int32)), .ref 0, .int (xs (x3 + (1 : Int32)).toNatClampNeg), .ref 2, .int r1]) 4 rfl ?_
  refine kl_sld hC rfl hi2 ?_
  refine kl_go hC (pc' := 1262) (L' := [some (.ref 0), some (.ref 1), some (.ref 2), some (.int x3)]) (st' := [.int (x3 + (3 : Int32)), .ref 0, .int (xs (x3 + (2 : Int32)).toNatClampNeg), .int (xs (x3 + (1 : Int32)).toNatClampNeg), .ref 2, .int r1]) 4 rfl ?_
  refine kl_sld hC rfl hi3 ?_
  refine kl_go hC (pc' := 1267) (L' := [some (.ref 0), some (.ref 1), some (.ref 2), some (.int x3)]) (st' := [.int (x3 + (4 : Int32)), .ref 0, .int (xs (x3 + (3 : Int32)).toNatClampNeg), .int (xs (x3 + (2 : Int32)).toNatClampNeg), .int (xs (x3 + (1 : Int32)).toNatClampNeg), .ref 2, .int r1]) 4 rfl ?_
  refine kl_sld hC rfl hi4 ?_
  refine kl_callM hC (as := [.int (xs (x3 + (1 : Int32)).toNatClampNeg), .int (xs (x3 + (2 : Int32)).toNatClampNeg), .int (xs (x3 + (3 : Int32)).toNatClampNeg), .int (xs (x3 + (4 : Int32)).toNatClampNeg)]) (rest := [.int r1]) rfl klk_L_138 kse_X5_fits rfl rfl rfl rfl (Nat.le_of_ble_eq_true rfl) (Nat.le_of_ble_eq_true rfl) hr hcm ?_
  show kl_R p l e s m below meth c0 D ac adx adm b0 (1271, [some (.ref 0), some (.ref 1), some (.ref 2), some (.int x3)], [.int r1, .int r1]) _ _
  refine kl_eq hC rfl ?_
  exact kk _ _ hinv
set_option maxRecDepth 100000 in
set_option maxHeartbeats 4000000 in
theorem kl_case29 {p : Program} {l : Launch} {e : Env} {s : State} {m : MethodId} {below : List Frame} {meth : Method} {c0 : Code} {D : va_G} {ac : Nat → ClassId} {adx adm : Nat → Nat} {b0 Lx : Nat} {xs : Nat → Int32} (hC : kl_C p s m meth c0 D ac adx adm b0 Lx xs) {Inv : kx_M → kx_M → Prop} {Mx Mm : kx_M} (hinv0 : Inv Mx Mm) {x3 : Int32} (hi1 : vp_in (x3 + (1 : Int32)) Lx) (hi2 : vp_in (x3 + (2 : Int32)) Lx) (hi3 : vp_in (x3 + (3 : Int32)) Lx) (hi4 : vp_in (x3 + (4 : Int32)) Lx) (hi5 : vp_in (x3 + (5 : Int32)) Lx) (hs : kl_simI Inv T_X4_together T_X5_together []) (kk : ∀ Mx' Mm', Inv Mx' Mm' → kl_R p l e s m below meth c0 D ac adx adm b0 (2039, [some (.ref 0), some (.ref 1), some (.ref 2), some (.int x3)], []) Mx' Mm') : kl_R p l e s m below meth c0 D ac adx adm b0 (1276, [some (.ref 0), some (.ref 1), some (.ref 2), some (.int x3)], []) Mx Mm := by
  obtain ⟨r1, Mx', Mm', hcx, hcm, hinv⟩ := hs Mx Mm hinv0
  have hr : kl_num (.int r1) := Or.inl ⟨r1, rfl⟩
  refine kl_go hC (pc' := 1277) (L' := [some (.ref 0), some (.ref 1), some (.ref 2), some (.int x3)]) (st' := [.ref 1]) 1 rfl ?_
  refine kl_callX hC (as := []) (rest := []) rfl klk_L_139 kse_X4_together rfl rfl rfl rfl (Nat.le_of_ble_eq_true rfl) (Nat.le_of_ble_eq_true rfl) hr hcx ?_
  show kl_R p l e s m below meth c0 D ac adx adm b0 (1280, [some (.ref 0), some (.ref 1), some (.ref 2), some (.int x3)], [.int r1]) _ _
  refine kl_go hC (pc' := 1281) (L' := [some (.ref 0), some (.ref 1), some (.ref 2), some (.int x3)]) (st' := [.ref 2, .int r1]) 1 rfl ?_
  refine kl_callM hC (as := []) (rest := [.int r1]) rfl klk_L_142 kse_X5_together rfl rfl rfl rfl (Nat.le_of_ble_eq_true rfl) (Nat.le_of_ble_eq_true rfl) hr hcm ?_
  show kl_R p l e s m below meth c0 D ac adx adm b0 (1284, [some (.ref 0), some (.ref 1), some (.ref 2), some (.int x3)], [.int r1, .int r1]) _ _
  refine kl_eq hC rfl ?_
  exact kk _ _ hinv
set_option maxRecDepth 100000 in
set_option maxHeartbeats 4000000 in
theorem kl_case30 {p : Program} {l : Launch} {e : Env} {s : State} {m : MethodId} {below : List Frame} {meth : Method} {c0 : Code} {D : va_G} {ac : Nat → ClassId} {adx adm : Nat → Nat} {b0 Lx : Nat} {xs : Nat → Int32} (hC : kl_C p s m meth c0 D ac adx adm b0 Lx xs) {Inv : kx_M → kx_M → Prop} {Mx Mm : kx_M} (hinv0 : Inv Mx Mm) {x3 : Int32} (hi1 : vp_in (x3 + (1 : Int32)) Lx) (hi2 : vp_in (x3 + (2 : Int32)) Lx) (hi3 : vp_in (x3 + (3 : Int32)) Lx) (hi4 : vp_in (x3 + (4 : Int32)) Lx) (hi5 : vp_in (x3 + (5 : Int32)) Lx) (hs : kl_simI Inv T_X4_needed T_X5_needed []) (kk : ∀ Mx' Mm', Inv Mx' Mm' → kl_R p l e s m below meth c0 D ac adx adm b0 (2039, [some (.ref 0), some (.ref 1), some (.ref 2), some (.int x3)], []) Mx' Mm') : kl_R p l e s m below meth c0 D ac adx adm b0 (1289, [some (.ref 0), some (.ref 1), some (.ref 2), some (.int x3)], []) Mx Mm := by
  obtain ⟨r1, Mx', Mm', hcx, hcm, hinv⟩ := hs Mx Mm hinv0
  have hr : kl_num (.int r1) := Or.inl ⟨r1, rfl⟩
  refine kl_go hC (pc' := 1290) (L' := [some (.ref 0), some (.ref 1), some (.ref 2), some (.int x3)]) (st' := [.ref 1]) 1 rfl ?_
  refine kl_callX hC (as := []) (rest := []) rfl klk_L_143 kse_X4_needed rfl rfl rfl rfl (Nat.le_of_ble_eq_true rfl) (Nat.le_of_ble_eq_true rfl) hr hcx ?_
  show kl_R p l e s m below meth c0 D ac adx adm b0 (1293, [some (.ref 0), some (.ref 1), some (.ref 2), some (.int x3)], [.int r1]) _ _
  refine kl_go hC (pc' := 1294) (L' := [some (.ref 0), some (.ref 1), some (.ref 2), some (.int x3)]) (st' := [.ref 2, .int r1]) 1 rfl ?_
  refine kl_callM hC (as := []) (rest := [.int r1]) rfl klk_L_146 kse_X5_needed rfl rfl rfl rfl (Nat.le_of_ble_eq_true rfl) (Nat.le_of_ble_eq_true rfl) hr hcm ?_
  show kl_R p l e s m below meth c0 D ac adx adm b0 (1297, [some (.ref 0), some (.ref 1), some (.ref 2), some (.int x3)], [.int r1, .int r1]) _ _
  refine kl_eq hC rfl ?_
  exact kk _ _ hinv
set_option maxRecDepth 100000 in
set_option maxHeartbeats 4000000 in
theorem kl_case31 {p : Program} {l : Launch} {e : Env} {s : State} {m : MethodId} {below : List Frame} {meth : Method} {c0 : Code} {D : va_G} {ac : Nat → ClassId} {adx adm : Nat → Nat} {b0 Lx : Nat} {xs : Nat → Int32} (hC : kl_C p s m meth c0 D ac adx adm b0 Lx xs) {Inv : kx_M → kx_M → Prop} {Mx Mm : kx_M} (hinv0 : Inv Mx Mm) {x3 : Int32} (hi1 : vp_in (x3 + (1 : Int32)) Lx) (hi2 : vp_in (x3 + (2 : Int32)) Lx) (hi3 : vp_in (x3 + (3 : Int32)) Lx) (hi4 : vp_in (x3 + (4 : Int32)) Lx) (hi5 : vp_in (x3 + (5 : Int32)) Lx) (hs : kl_simI Inv T_X4_picture T_X5_picture [.int (xs (x3 + (1 : Int32)).toNatClampNeg), .int (xs (x3 + (2 : Int32)).toNatClampNeg), .int (xs (x3 + (3 : Int32)).toNatClampNeg)]) (kk : ∀ Mx' Mm', Inv Mx' Mm' → kl_R p l e s m below meth c0 D ac adx adm b0 (2039, [some (.ref 0), some (.ref 1), some (.ref 2), some (.int x3)], []) Mx' Mm') : kl_R p l e s m below meth c0 D ac adx adm b0 (1302, [some (.ref 0), some (.ref 1), some (.ref 2), some (.int x3)], []) Mx Mm := by
  obtain ⟨r1, Mx', Mm', hcx, hcm, hinv⟩ := hs Mx Mm hinv0
  have hr : kl_num (.int r1) := Or.inl ⟨r1, rfl⟩
  refine kl_go hC (pc' := 1307) (L' := [some (.ref 0), some (.ref 1), some (.ref 2), some (.int x3)]) (st' := [.int (x3 + (1 : Int32)), .ref 0, .ref 1]) 5 rfl ?_
  refine kl_sld hC rfl hi1 ?_
  refine kl_go hC (pc' := 1312) (L' := [some (.ref 0), some (.ref 1), some (.ref 2), some (.int x3)]) (st' := [.int (x3 + (2 : Int32)), .ref 0, .int (xs (x3 + (1 : Int32)).toNatClampNeg), .ref 1]) 4 rfl ?_
  refine kl_sld hC rfl hi2 ?_
  refine kl_go hC (pc' := 1317) (L' := [some (.ref 0), some (.ref 1), some (.ref 2), some (.int x3)]) (st' := [.int (x3 + (3 : Int32)), .ref 0, .int (xs (x3 + (2 : Int32)).toNatClampNeg), .int (xs (x3 + (1 : Int32)).toNatClampNeg), .ref 1]) 4 rfl ?_
  refine kl_sld hC rfl hi3 ?_
  refine kl_callX hC (as := [.int (xs (x3 + (1 : Int32)).toNatClampNeg), .int (xs (x3 + (2 : Int32)).toNatClampNeg), .int (xs (x3 + (3 : Int32)).toNatClampNeg)]) (rest := []) rfl klk_L_147 kse_X4_picture rfl rfl rfl rfl (Nat.le_of_ble_eq_true rfl) (Nat.le_of_ble_eq_true rfl) hr hcx ?_
  show kl_R p l e s m below meth c0 D ac adx adm b0 (1321, [some (.ref 0), some (.ref 1), some (.ref 2), some (.int x3)], [.int r1]) _ _
  refine kl_go hC (pc' := 1326) (L' := [some (.ref 0), some (.ref 1), some (.ref 2), some (.int x3)]) (st' := [.int (x3 + (1 : Int32)), .ref 0, .ref 2, .int r1]) 5 rfl ?_
  refine kl_sld hC rfl hi1 ?_
  refine kl_go hC (pc' := 1331) (L' := [some (.ref 0), some (.ref 1), some (.ref 2), some (.int x3)]) (st' := [.int (x3 + (2 : Int32)), .ref 0, .int (xs (x3 + (1 : Int32)).toNatClampNeg), .ref 2, .int r1]) 4 rfl ?_
  refine kl_sld hC rfl hi2 ?_
  refine kl_go hC (pc' := 1336) (L' := [some (.ref 0), some (.ref 1), some (.ref 2), some (.int x3)]) (st' := [.int (x3 + (3 : Int32)), .ref 0, .int (xs (x3 + (2 : Int32)).toNatClampNeg), .int (xs (x3 + (1 : Int32)).toNatClampNeg), .ref 2, .int r1]) 4 rfl ?_
  refine kl_sld hC rfl hi3 ?_
  refine kl_callM hC (as := [.int (xs (x3 + (1 : Int32)).toNatClampNeg), .int (xs (x3 + (2 : Int32)).toNatClampNeg), .int (xs (x3 + (3 : Int32)).toNatClampNeg)]) (rest := [.int r1]) rfl klk_L_150 kse_X5_picture rfl rfl rfl rfl (Nat.le_of_ble_eq_true rfl) (Nat.le_of_ble_eq_true rfl) hr hcm ?_
  show kl_R p l e s m below meth c0 D ac adx adm b0 (1340, [some (.ref 0), some (.ref 1), some (.ref 2), some (.int x3)], [.int r1, .int r1]) _ _
  refine kl_eq hC rfl ?_
  exact kk _ _ hinv
set_option maxRecDepth 100000 in
set_option maxHeartbeats 4000000 in
theorem kl_case32 {p : Program} {l : Launch} {e : Env} {s : State} {m : MethodId} {below : List Frame} {meth : Method} {c0 : Code} {D : va_G} {ac : Nat → ClassId} {adx adm : Nat → Nat} {b0 Lx : Nat} {xs : Nat → Int32} (hC : kl_C p s m meth c0 D ac adx adm b0 Lx xs) {Inv : kx_M → kx_M → Prop} {Mx Mm : kx_M} (hinv0 : Inv Mx Mm) {x3 : Int32} (hi1 : vp_in (x3 + (1 : Int32)) Lx) (hi2 : vp_in (x3 + (2 : Int32)) Lx) (hi3 : vp_in (x3 + (3 : Int32)) Lx) (hi4 : vp_in (x3 + (4 : Int32)) Lx) (hi5 : vp_in (x3 + (5 : Int32)) Lx) (hs : kl_simI Inv T_X4_lift T_X5_lift [.int (xs (x3 + (1 : Int32)).toNatClampNeg), .int (xs (x3 + (2 : Int32)).toNatClampNeg)]) (kk : ∀ Mx' Mm', Inv Mx' Mm' → kl_R p l e s m below meth c0 D ac adx adm b0 (2039, [some (.ref 0), some (.ref 1), some (.ref 2), some (.int x3)], []) Mx' Mm') : kl_R p l e s m below meth c0 D ac adx adm b0 (1345, [some (.ref 0), some (.ref 1), some (.ref 2), some (.int x3)], []) Mx Mm := by
  obtain ⟨r1, Mx', Mm', hcx, hcm, hinv⟩ := hs Mx Mm hinv0
  have hr : kl_num (.int r1) := Or.inl ⟨r1, rfl⟩
  refine kl_go hC (pc' := 1350) (L' := [some (.ref 0), some (.ref 1), some (.ref 2), some (.int x3)]) (st' := [.int (x3 + (1 : Int32)), .ref 0, .ref 1]) 5 rfl ?_
  refine kl_sld hC rfl hi1 ?_
  refine kl_go hC (pc' := 1355) (L' := [some (.ref 0), some (.ref 1), some (.ref 2), some (.int x3)]) (st' := [.int (x3 + (2 : Int32)), .ref 0, .int (xs (x3 + (1 : Int32)).toNatClampNeg), .ref 1]) 4 rfl ?_
  refine kl_sld hC rfl hi2 ?_
  refine kl_callX hC (as := [.int (xs (x3 + (1 : Int32)).toNatClampNeg), .int (xs (x3 + (2 : Int32)).toNatClampNeg)]) (rest := []) rfl klk_L_151 kse_X4_lift rfl rfl rfl rfl (Nat.le_of_ble_eq_true rfl) (Nat.le_of_ble_eq_true rfl) hr hcx ?_
  show kl_R p l e s m below meth c0 D ac adx adm b0 (1359, [some (.ref 0), some (.ref 1), some (.ref 2), some (.int x3)], [.int r1]) _ _
  refine kl_go hC (pc' := 1364) (L' := [some (.ref 0), some (.ref 1), some (.ref 2), some (.int x3)]) (st' := [.int (x3 + (1 : Int32)), .ref 0, .ref 2, .int r1]) 5 rfl ?_
  refine kl_sld hC rfl hi1 ?_
  refine kl_go hC (pc' := 1369) (L' := [some (.ref 0), some (.ref 1), some (.ref 2), some (.int x3)]) (st' := [.int (x3 + (2 : Int32)), .ref 0, .int (xs (x3 + (1 : Int32)).toNatClampNeg), .ref 2, .int r1]) 4 rfl ?_
  refine kl_sld hC rfl hi2 ?_
  refine kl_callM hC (as := [.int (xs (x3 + (1 : Int32)).toNatClampNeg), .int (xs (x3 + (2 : Int32)).toNatClampNeg)]) (rest := [.int r1]) rfl klk_L_154 kse_X5_lift rfl rfl rfl rfl (Nat.le_of_ble_eq_true rfl) (Nat.le_of_ble_eq_true rfl) hr hcm ?_
  show kl_R p l e s m below meth c0 D ac adx adm b0 (1373, [some (.ref 0), some (.ref 1), some (.ref 2), some (.int x3)], [.int r1, .int r1]) _ _
  refine kl_eq hC rfl ?_
  exact kk _ _ hinv
set_option maxRecDepth 100000 in
set_option maxHeartbeats 4000000 in
theorem kl_case33 {p : Program} {l : Launch} {e : Env} {s : State} {m : MethodId} {below : List Frame} {meth : Method} {c0 : Code} {D : va_G} {ac : Nat → ClassId} {adx adm : Nat → Nat} {b0 Lx : Nat} {xs : Nat → Int32} (hC : kl_C p s m meth c0 D ac adx adm b0 Lx xs) {Inv : kx_M → kx_M → Prop} {Mx Mm : kx_M} (hinv0 : Inv Mx Mm) {x3 : Int32} (hi1 : vp_in (x3 + (1 : Int32)) Lx) (hi2 : vp_in (x3 + (2 : Int32)) Lx) (hi3 : vp_in (x3 + (3 : Int32)) Lx) (hi4 : vp_in (x3 + (4 : Int32)) Lx) (hi5 : vp_in (x3 + (5 : Int32)) Lx) (hs : kl_simI Inv T_X4_chance T_X5_chance [.int (xs (x3 + (1 : Int32)).toNatClampNeg), .int (xs (x3 + (2 : Int32)).toNatClampNeg)]) (kk : ∀ Mx' Mm', Inv Mx' Mm' → kl_R p l e s m below meth c0 D ac adx adm b0 (2039, [some (.ref 0), some (.ref 1), some (.ref 2), some (.int x3)], []) Mx' Mm') : kl_R p l e s m below meth c0 D ac adx adm b0 (1378, [some (.ref 0), some (.ref 1), some (.ref 2), some (.int x3)], []) Mx Mm := by
  obtain ⟨r1, Mx', Mm', hcx, hcm, hinv⟩ := hs Mx Mm hinv0
  have hr : kl_num (.int r1) := Or.inl ⟨r1, rfl⟩
  refine kl_go hC (pc' := 1383) (L' := [some (.ref 0), some (.ref 1), some (.ref 2), some (.int x3)]) (st' := [.int (x3 + (1 : Int32)), .ref 0, .ref 1]) 5 rfl ?_
  refine kl_sld hC rfl hi1 ?_
  refine kl_go hC (pc' := 1388) (L' := [some (.ref 0), some (.ref 1), some (.ref 2), some (.int x3)]) (st' := [.int (x3 + (2 : Int32)), .ref 0, .int (xs (x3 + (1 : Int32)).toNatClampNeg), .ref 1]) 4 rfl ?_
  refine kl_sld hC rfl hi2 ?_
  refine kl_callX hC (as := [.int (xs (x3 + (1 : Int32)).toNatClampNeg), .int (xs (x3 + (2 : Int32)).toNatClampNeg)]) (rest := []) rfl klk_L_155 kse_X4_chance rfl rfl rfl rfl (Nat.le_of_ble_eq_true rfl) (Nat.le_of_ble_eq_true rfl) hr hcx ?_
  show kl_R p l e s m below meth c0 D ac adx adm b0 (1392, [some (.ref 0), some (.ref 1), some (.ref 2), some (.int x3)], [.int r1]) _ _
  refine kl_go hC (pc' := 1397) (L' := [some (.ref 0), some (.ref 1), some (.ref 2), some (.int x3)]) (st' := [.int (x3 + (1 : Int32)), .ref 0, .ref 2, .int r1]) 5 rfl ?_
  refine kl_sld hC rfl hi1 ?_
  refine kl_go hC (pc' := 1402) (L' := [some (.ref 0), some (.ref 1), some (.ref 2), some (.int x3)]) (st' := [.int (x3 + (2 : Int32)), .ref 0, .int (xs (x3 + (1 : Int32)).toNatClampNeg), .ref 2, .int r1]) 4 rfl ?_
  refine kl_sld hC rfl hi2 ?_
  refine kl_callM hC (as := [.int (xs (x3 + (1 : Int32)).toNatClampNeg), .int (xs (x3 + (2 : Int32)).toNatClampNeg)]) (rest := [.int r1]) rfl klk_L_158 kse_X5_chance rfl rfl rfl rfl (Nat.le_of_ble_eq_true rfl) (Nat.le_of_ble_eq_true rfl) hr hcm ?_
  show kl_R p l e s m below meth c0 D ac adx adm b0 (1406, [some (.ref 0), some (.ref 1), some (.ref 2), some (.int x3)], [.int r1, .int r1]) _ _
  refine kl_eq hC rfl ?_
  exact kk _ _ hinv
set_option maxRecDepth 100000 in
set_option maxHeartbeats 4000000 in
theorem kl_case34 {p : Program} {l : Launch} {e : Env} {s : State} {m : MethodId} {below : List Frame} {meth : Method} {c0 : Code} {D : va_G} {ac : Nat → ClassId} {adx adm : Nat → Nat} {b0 Lx : Nat} {xs : Nat → Int32} (hC : kl_C p s m meth c0 D ac adx adm b0 Lx xs) {Inv : kx_M → kx_M → Prop} {Mx Mm : kx_M} (hinv0 : Inv Mx Mm) {x3 : Int32} (hi1 : vp_in (x3 + (1 : Int32)) Lx) (hi2 : vp_in (x3 + (2 : Int32)) Lx) (hi3 : vp_in (x3 + (3 : Int32)) Lx) (hi4 : vp_in (x3 + (4 : Int32)) Lx) (hi5 : vp_in (x3 + (5 : Int32)) Lx) (hs : kl_simI Inv T_X4_mean T_X5_mean [.int (xs (x3 + (1 : Int32)).toNatClampNeg)]) (kk : ∀ Mx' Mm', Inv Mx' Mm' → kl_R p l e s m below meth c0 D ac adx adm b0 (2039, [some (.ref 0), some (.ref 1), some (.ref 2), some (.int x3)], []) Mx' Mm') : kl_R p l e s m below meth c0 D ac adx adm b0 (1411, [some (.ref 0), some (.ref 1), some (.ref 2), some (.int x3)], []) Mx Mm := by
  obtain ⟨r1, Mx', Mm', hcx, hcm, hinv⟩ := hs Mx Mm hinv0
  have hr : kl_num (.int r1) := Or.inl ⟨r1, rfl⟩
  refine kl_go hC (pc' := 1416) (L' := [some (.ref 0), some (.ref 1), some (.ref 2), some (.int x3)]) (st' := [.int (x3 + (1 : Int32)), .ref 0, .ref 1]) 5 rfl ?_
  refine kl_sld hC rfl hi1 ?_
  refine kl_callX hC (as := [.int (xs (x3 + (1 : Int32)).toNatClampNeg)]) (rest := []) rfl klk_L_159 kse_X4_mean rfl rfl rfl rfl (Nat.le_of_ble_eq_true rfl) (Nat.le_of_ble_eq_true rfl) hr hcx ?_
  show kl_R p l e s m below meth c0 D ac adx adm b0 (1420, [some (.ref 0), some (.ref 1), some (.ref 2), some (.int x3)], [.int r1]) _ _
  refine kl_go hC (pc' := 1425) (L' := [some (.ref 0), some (.ref 1), some (.ref 2), some (.int x3)]) (st' := [.int (x3 + (1 : Int32)), .ref 0, .ref 2, .int r1]) 5 rfl ?_
  refine kl_sld hC rfl hi1 ?_
  refine kl_callM hC (as := [.int (xs (x3 + (1 : Int32)).toNatClampNeg)]) (rest := [.int r1]) rfl klk_L_162 kse_X5_mean rfl rfl rfl rfl (Nat.le_of_ble_eq_true rfl) (Nat.le_of_ble_eq_true rfl) hr hcm ?_
  show kl_R p l e s m below meth c0 D ac adx adm b0 (1429, [some (.ref 0), some (.ref 1), some (.ref 2), some (.int x3)], [.int r1, .int r1]) _ _
  refine kl_eq hC rfl ?_
  exact kk _ _ hinv
set_option maxRecDepth 100000 in
set_option maxHeartbeats 4000000 in
theorem kl_case35 {p : Program} {l : Launch} {e : Env} {s : State} {m : MethodId} {below : List Frame} {meth : Method} {c0 : Code} {D : va_G} {ac : Nat → ClassId} {adx adm : Nat → Nat} {b0 Lx : Nat} {xs : Nat → Int32} (hC : kl_C p s m meth c0 D ac adx adm b0 Lx xs) {Inv : kx_M → kx_M → Prop} {Mx Mm : kx_M} (hinv0 : Inv Mx Mm) {x3 : Int32} (hi1 : vp_in (x3 + (1 : Int32)) Lx) (hi2 : vp_in (x3 + (2 : Int32)) Lx) (hi3 : vp_in (x3 + (3 : Int32)) Lx) (hi4 : vp_in (x3 + (4 : Int32)) Lx) (hi5 : vp_in (x3 + (5 : Int32)) Lx) (hs : kl_simI Inv T_X4_hidden T_X5_hidden []) (kk : ∀ Mx' Mm', Inv Mx' Mm' → kl_R p l e s m below meth c0 D ac adx adm b0 (2039, [some (.ref 0), some (.ref 1), some (.ref 2), some (.int x3)], []) Mx' Mm') : kl_R p l e s m below meth c0 D ac adx adm b0 (1434, [some (.ref 0), some (.ref 1), some (.ref 2), some (.int x3)], []) Mx Mm := by
  obtain ⟨r1, Mx', Mm', hcx, hcm, hinv⟩ := hs Mx Mm hinv0
  have hr : kl_num (.int r1) := Or.inl ⟨r1, rfl⟩
  refine kl_go hC (pc' := 1435) (L' := [some (.ref 0), some (.ref 1), some (.ref 2), some (.int x3)]) (st' := [.ref 1]) 1 rfl ?_
  refine kl_callX hC (as := []) (rest := []) rfl klk_L_163 kse_X4_hidden rfl rfl rfl rfl (Nat.le_of_ble_eq_true rfl) (Nat.le_of_ble_eq_true rfl) hr hcx ?_
  show kl_R p l e s m below meth c0 D ac adx adm b0 (1438, [some (.ref 0), some (.ref 1), some (.ref 2), some (.int x3)], [.int r1]) _ _
  refine kl_go hC (pc' := 1439) (L' := [some (.ref 0), some (.ref 1), some (.ref 2), some (.int x3)]) (st' := [.ref 2, .int r1]) 1 rfl ?_
  refine kl_callM hC (as := []) (rest := [.int r1]) rfl klk_L_166 kse_X5_hidden rfl rfl rfl rfl (Nat.le_of_ble_eq_true rfl) (Nat.le_of_ble_eq_true rfl) hr hcm ?_
  show kl_R p l e s m below meth c0 D ac adx adm b0 (1442, [some (.ref 0), some (.ref 1), some (.ref 2), some (.int x3)], [.int r1, .int r1]) _ _
  refine kl_eq hC rfl ?_
  exact kk _ _ hinv
set_option maxRecDepth 100000 in
set_option maxHeartbeats 4000000 in
theorem kl_case36 {p : Program} {l : Launch} {e : Env} {s : State} {m : MethodId} {below : List Frame} {meth : Method} {c0 : Code} {D : va_G} {ac : Nat → ClassId} {adx adm : Nat → Nat} {b0 Lx : Nat} {xs : Nat → Int32} (hC : kl_C p s m meth c0 D ac adx adm b0 Lx xs) {Inv : kx_M → kx_M → Prop} {Mx Mm : kx_M} (hinv0 : Inv Mx Mm) {x3 : Int32} (hi1 : vp_in (x3 + (1 : Int32)) Lx) (hi2 : vp_in (x3 + (2 : Int32)) Lx) (hi3 : vp_in (x3 + (3 : Int32)) Lx) (hi4 : vp_in (x3 + (4 : Int32)) Lx) (hi5 : vp_in (x3 + (5 : Int32)) Lx) (hs : kl_simI Inv T_X4_best T_X5_best [.int (xs (x3 + (1 : Int32)).toNatClampNeg)]) (kk : ∀ Mx' Mm', Inv Mx' Mm' → kl_R p l e s m below meth c0 D ac adx adm b0 (2039, [some (.ref 0), some (.ref 1), some (.ref 2), some (.int x3)], []) Mx' Mm') : kl_R p l e s m below meth c0 D ac adx adm b0 (1447, [some (.ref 0), some (.ref 1), some (.ref 2), some (.int x3)], []) Mx Mm := by
  obtain ⟨r1, Mx', Mm', hcx, hcm, hinv⟩ := hs Mx Mm hinv0
  have hr : kl_num (.int r1) := Or.inl ⟨r1, rfl⟩
  refine kl_go hC (pc' := 1452) (L' := [some (.ref 0), some (.ref 1), some (.ref 2), some (.int x3)]) (st' := [.int (x3 + (1 : Int32)), .ref 0, .ref 1]) 5 rfl ?_
  refine kl_sld hC rfl hi1 ?_
  refine kl_callX hC (as := [.int (xs (x3 + (1 : Int32)).toNatClampNeg)]) (rest := []) rfl klk_L_167 kse_X4_best rfl rfl rfl rfl (Nat.le_of_ble_eq_true rfl) (Nat.le_of_ble_eq_true rfl) hr hcx ?_
  show kl_R p l e s m below meth c0 D ac adx adm b0 (1456, [some (.ref 0), some (.ref 1), some (.ref 2), some (.int x3)], [.int r1]) _ _
  refine kl_go hC (pc' := 1461) (L' := [some (.ref 0), some (.ref 1), some (.ref 2), some (.int x3)]) (st' := [.int (x3 + (1 : Int32)), .ref 0, .ref 2, .int r1]) 5 rfl ?_
  refine kl_sld hC rfl hi1 ?_
  refine kl_callM hC (as := [.int (xs (x3 + (1 : Int32)).toNatClampNeg)]) (rest := [.int r1]) rfl klk_L_170 kse_X5_best rfl rfl rfl rfl (Nat.le_of_ble_eq_true rfl) (Nat.le_of_ble_eq_true rfl) hr hcm ?_
  show kl_R p l e s m below meth c0 D ac adx adm b0 (1465, [some (.ref 0), some (.ref 1), some (.ref 2), some (.int x3)], [.int r1, .int r1]) _ _
  refine kl_eq hC rfl ?_
  exact kk _ _ hinv
set_option maxRecDepth 100000 in
set_option maxHeartbeats 4000000 in
theorem kl_case37 {p : Program} {l : Launch} {e : Env} {s : State} {m : MethodId} {below : List Frame} {meth : Method} {c0 : Code} {D : va_G} {ac : Nat → ClassId} {adx adm : Nat → Nat} {b0 Lx : Nat} {xs : Nat → Int32} (hC : kl_C p s m meth c0 D ac adx adm b0 Lx xs) {Inv : kx_M → kx_M → Prop} {Mx Mm : kx_M} (hinv0 : Inv Mx Mm) {x3 : Int32} (hi1 : vp_in (x3 + (1 : Int32)) Lx) (hi2 : vp_in (x3 + (2 : Int32)) Lx) (hi3 : vp_in (x3 + (3 : Int32)) Lx) (hi4 : vp_in (x3 + (4 : Int32)) Lx) (hi5 : vp_in (x3 + (5 : Int32)) Lx) (hs : kl_simI Inv T_X4_mate T_X5_mate [.int (xs (x3 + (1 : Int32)).toNatClampNeg)]) (kk : ∀ Mx' Mm', Inv Mx' Mm' → kl_R p l e s m below meth c0 D ac adx adm b0 (2039, [some (.ref 0), some (.ref 1), some (.ref 2), some (.int x3)], []) Mx' Mm') : kl_R p l e s m below meth c0 D ac adx adm b0 (1470, [some (.ref 0), some (.ref 1), some (.ref 2), some (.int x3)], []) Mx Mm := by
  obtain ⟨r1, Mx', Mm', hcx, hcm, hinv⟩ := hs Mx Mm hinv0
  have hr : kl_num (.int r1) := Or.inl ⟨r1, rfl⟩
  refine kl_go hC (pc' := 1475) (L' := [some (.ref 0), some (.ref 1), some (.ref 2), some (.int x3)]) (st' := [.int (x3 + (1 : Int32)), .ref 0, .ref 1]) 5 rfl ?_
  refine kl_sld hC rfl hi1 ?_
  refine kl_callX hC (as := [.int (xs (x3 + (1 : Int32)).toNatClampNeg)]) (rest := []) rfl klk_L_171 kse_X4_mate rfl rfl rfl rfl (Nat.le_of_ble_eq_true rfl) (Nat.le_of_ble_eq_true rfl) hr hcx ?_
  show kl_R p l e s m below meth c0 D ac adx adm b0 (1479, [some (.ref 0), some (.ref 1), some (.ref 2), some (.int x3)], [.int r1]) _ _
  refine kl_go hC (pc' := 1484) (L' := [some (.ref 0), some (.ref 1), some (.ref 2), some (.int x3)]) (st' := [.int (x3 + (1 : Int32)), .ref 0, .ref 2, .int r1]) 5 rfl ?_
  refine kl_sld hC rfl hi1 ?_
  refine kl_callM hC (as := [.int (xs (x3 + (1 : Int32)).toNatClampNeg)]) (rest := [.int r1]) rfl klk_L_174 kse_X5_mate rfl rfl rfl rfl (Nat.le_of_ble_eq_true rfl) (Nat.le_of_ble_eq_true rfl) hr hcm ?_
  show kl_R p l e s m below meth c0 D ac adx adm b0 (1488, [some (.ref 0), some (.ref 1), some (.ref 2), some (.int x3)], [.int r1, .int r1]) _ _
  refine kl_eq hC rfl ?_
  exact kk _ _ hinv
set_option maxRecDepth 100000 in
set_option maxHeartbeats 4000000 in
theorem kl_case38 {p : Program} {l : Launch} {e : Env} {s : State} {m : MethodId} {below : List Frame} {meth : Method} {c0 : Code} {D : va_G} {ac : Nat → ClassId} {adx adm : Nat → Nat} {b0 Lx : Nat} {xs : Nat → Int32} (hC : kl_C p s m meth c0 D ac adx adm b0 Lx xs) {Inv : kx_M → kx_M → Prop} {Mx Mm : kx_M} (hinv0 : Inv Mx Mm) {x3 : Int32} (hi1 : vp_in (x3 + (1 : Int32)) Lx) (hi2 : vp_in (x3 + (2 : Int32)) Lx) (hi3 : vp_in (x3 + (3 : Int32)) Lx) (hi4 : vp_in (x3 + (4 : Int32)) Lx) (hi5 : vp_in (x3 + (5 : Int32)) Lx) (hs : kl_simI Inv T_X4_rarest T_X5_rarest [.int (xs (x3 + (1 : Int32)).toNatClampNeg)]) (kk : ∀ Mx' Mm', Inv Mx' Mm' → kl_R p l e s m below meth c0 D ac adx adm b0 (2039, [some (.ref 0), some (.ref 1), some (.ref 2), some (.int x3)], []) Mx' Mm') : kl_R p l e s m below meth c0 D ac adx adm b0 (1493, [some (.ref 0), some (.ref 1), some (.ref 2), some (.int x3)], []) Mx Mm := by
  obtain ⟨r1, Mx', Mm', hcx, hcm, hinv⟩ := hs Mx Mm hinv0
  have hr : kl_num (.int r1) := Or.inl ⟨r1, rfl⟩
  refine kl_go hC (pc' := 1498) (L' := [some (.ref 0), some (.ref 1), some (.ref 2), some (.int x3)]) (st' := [.int (x3 + (1 : Int32)), .ref 0, .ref 1]) 5 rfl ?_
  refine kl_sld hC rfl hi1 ?_
  refine kl_callX hC (as := [.int (xs (x3 + (1 : Int32)).toNatClampNeg)]) (rest := []) rfl klk_L_175 kse_X4_rarest rfl rfl rfl rfl (Nat.le_of_ble_eq_true rfl) (Nat.le_of_ble_eq_true rfl) hr hcx ?_
  show kl_R p l e s m below meth c0 D ac adx adm b0 (1502, [some (.ref 0), some (.ref 1), some (.ref 2), some (.int x3)], [.int r1]) _ _
  refine kl_go hC (pc' := 1507) (L' := [some (.ref 0), some (.ref 1), some (.ref 2), some (.int x3)]) (st' := [.int (x3 + (1 : Int32)), .ref 0, .ref 2, .int r1]) 5 rfl ?_
  refine kl_sld hC rfl hi1 ?_
  refine kl_callM hC (as := [.int (xs (x3 + (1 : Int32)).toNatClampNeg)]) (rest := [.int r1]) rfl klk_L_178 kse_X5_rarest rfl rfl rfl rfl (Nat.le_of_ble_eq_true rfl) (Nat.le_of_ble_eq_true rfl) hr hcm ?_
  show kl_R p l e s m below meth c0 D ac adx adm b0 (1511, [some (.ref 0), some (.ref 1), some (.ref 2), some (.int x3)], [.int r1, .int r1]) _ _
  refine kl_eq hC rfl ?_
  exact kk _ _ hinv
set_option maxRecDepth 100000 in
set_option maxHeartbeats 4000000 in
theorem kl_case39 {p : Program} {l : Launch} {e : Env} {s : State} {m : MethodId} {below : List Frame} {meth : Method} {c0 : Code} {D : va_G} {ac : Nat → ClassId} {adx adm : Nat → Nat} {b0 Lx : Nat} {xs : Nat → Int32} (hC : kl_C p s m meth c0 D ac adx adm b0 Lx xs) {Inv : kx_M → kx_M → Prop} {Mx Mm : kx_M} (hinv0 : Inv Mx Mm) {x3 : Int32} (hi1 : vp_in (x3 + (1 : Int32)) Lx) (hi2 : vp_in (x3 + (2 : Int32)) Lx) (hi3 : vp_in (x3 + (3 : Int32)) Lx) (hi4 : vp_in (x3 + (4 : Int32)) Lx) (hi5 : vp_in (x3 + (5 : Int32)) Lx) (hs : kl_simI Inv T_X4_both T_X5_both [.int (xs (x3 + (1 : Int32)).toNatClampNeg), .int (xs (x3 + (2 : Int32)).toNatClampNeg)]) (kk : ∀ Mx' Mm', Inv Mx' Mm' → kl_R p l e s m below meth c0 D ac adx adm b0 (2039, [some (.ref 0), some (.ref 1), some (.ref 2), some (.int x3)], []) Mx' Mm') : kl_R p l e s m below meth c0 D ac adx adm b0 (1516, [some (.ref 0), some (.ref 1), some (.ref 2), some (.int x3)], []) Mx Mm := by
  obtain ⟨r1, Mx', Mm', hcx, hcm, hinv⟩ := hs Mx Mm hinv0
  have hr : kl_num (.int r1) := Or.inl ⟨r1, rfl⟩
  refine kl_go hC (pc' := 1521) (L' := [some (.ref 0), some (.ref 1), some (.ref 2), some (.int x3)]) (st' := [.int (x3 + (1 : Int32)), .ref 0, .ref 1]) 5 rfl ?_
  refine kl_sld hC rfl hi1 ?_
  refine kl_go hC (pc' := 1526) (L' := [some (.ref 0), some (.ref 1), some (.ref 2), some (.int x3)]) (st' := [.int (x3 + (2 : Int32)), .ref 0, .int (xs (x3 + (1 : Int32)).toNatClampNeg), .ref 1]) 4 rfl ?_
  refine kl_sld hC rfl hi2 ?_
  refine kl_callX hC (as := [.int (xs (x3 + (1 : Int32)).toNatClampNeg), .int (xs (x3 + (2 : Int32)).toNatClampNeg)]) (rest := []) rfl klk_L_179 kse_X4_both rfl rfl rfl rfl (Nat.le_of_ble_eq_true rfl) (Nat.le_of_ble_eq_true rfl) hr hcx ?_
  show kl_R p l e s m below meth c0 D ac adx adm b0 (1530, [some (.ref 0), some (.ref 1), some (.ref 2), some (.int x3)], [.int r1]) _ _
  refine kl_go hC (pc' := 1535) (L' := [some (.ref 0), some (.ref 1), some (.ref 2), some (.int x3)]) (st' := [.int (x3 + (1 : Int32)), .ref 0, .ref 2, .int r1]) 5 rfl ?_
  refine kl_sld hC rfl hi1 ?_
  refine kl_go hC (pc' := 1540) (L' := [some (.ref 0), some (.ref 1), some (.ref 2), some (.int x3)]) (st' := [.int (x3 + (2 : Int32)), .ref 0, .int (xs (x3 + (1 : Int32)).toNatClampNeg), .ref 2, .int r1]) 4 rfl ?_
  refine kl_sld hC rfl hi2 ?_
  refine kl_callM hC (as := [.int (xs (x3 + (1 : Int32)).toNatClampNeg), .int (xs (x3 + (2 : Int32)).toNatClampNeg)]) (rest := [.int r1]) rfl klk_L_182 kse_X5_both rfl rfl rfl rfl (Nat.le_of_ble_eq_true rfl) (Nat.le_of_ble_eq_true rfl) hr hcm ?_
  show kl_R p l e s m below meth c0 D ac adx adm b0 (1544, [some (.ref 0), some (.ref 1), some (.ref 2), some (.int x3)], [.int r1, .int r1]) _ _
  refine kl_eq hC rfl ?_
  exact kk _ _ hinv
set_option maxRecDepth 100000 in
set_option maxHeartbeats 4000000 in
theorem kl_case40 {p : Program} {l : Launch} {e : Env} {s : State} {m : MethodId} {below : List Frame} {meth : Method} {c0 : Code} {D : va_G} {ac : Nat → ClassId} {adx adm : Nat → Nat} {b0 Lx : Nat} {xs : Nat → Int32} (hC : kl_C p s m meth c0 D ac adx adm b0 Lx xs) {Inv : kx_M → kx_M → Prop} {Mx Mm : kx_M} (hinv0 : Inv Mx Mm) {x3 : Int32} (hi1 : vp_in (x3 + (1 : Int32)) Lx) (hi2 : vp_in (x3 + (2 : Int32)) Lx) (hi3 : vp_in (x3 + (3 : Int32)) Lx) (hi4 : vp_in (x3 + (4 : Int32)) Lx) (hi5 : vp_in (x3 + (5 : Int32)) Lx) (hs : kl_simI Inv T_X4_visitsTill T_X5_visitsTill [.int (xs (x3 + (1 : Int32)).toNatClampNeg), .int (xs (x3 + (2 : Int32)).toNatClampNeg)]) (kk : ∀ Mx' Mm', Inv Mx' Mm' → kl_R p l e s m below meth c0 D ac adx adm b0 (2039, [some (.ref 0), some (.ref 1), some (.ref 2), some (.int x3)], []) Mx' Mm') : kl_R p l e s m below meth c0 D ac adx adm b0 (1549, [some (.ref 0), some (.ref 1), some (.ref 2), some (.int x3)], []) Mx Mm := by
  obtain ⟨r1, Mx', Mm', hcx, hcm, hinv⟩ := hs Mx Mm hinv0
  have hr : kl_num (.int r1) := Or.inl ⟨r1, rfl⟩
  refine kl_go hC (pc' := 1554) (L' := [some (.ref 0), some (.ref 1), some (.ref 2), some (.int x3)]) (st' := [.int (x3 + (1 : Int32)), .ref 0, .ref 1]) 5 rfl ?_
  refine kl_sld hC rfl hi1 ?_
  refine kl_go hC (pc' := 1559) (L' := [some (.ref 0), some (.ref 1), some (.ref 2), some (.int x3)]) (st' := [.int (x3 + (2 : Int32)), .ref 0, .int (xs (x3 + (1 : Int32)).toNatClampNeg), .ref 1]) 4 rfl ?_
  refine kl_sld hC rfl hi2 ?_
  refine kl_callX hC (as := [.int (xs (x3 + (1 : Int32)).toNatClampNeg), .int (xs (x3 + (2 : Int32)).toNatClampNeg)]) (rest := []) rfl klk_L_183 kse_X4_visitsTill rfl rfl rfl rfl (Nat.le_of_ble_eq_true rfl) (Nat.le_of_ble_eq_true rfl) hr hcx ?_
  show kl_R p l e s m below meth c0 D ac adx adm b0 (1563, [some (.ref 0), some (.ref 1), some (.ref 2), some (.int x3)], [.int r1]) _ _
  refine kl_go hC (pc' := 1568) (L' := [some (.ref 0), some (.ref 1), some (.ref 2), some (.int x3)]) (st' := [.int (x3 + (1 : Int32)), .ref 0, .ref 2, .int r1]) 5 rfl ?_
  refine kl_sld hC rfl hi1 ?_
  refine kl_go hC (pc' := 1573) (L' := [some (.ref 0), some (.ref 1), some (.ref 2), some (.int x3)]) (st' := [.int (x3 + (2 : Int32)), .ref 0, .int (xs (x3 + (1 : Int32)).toNatClampNeg), .ref 2, .int r1]) 4 rfl ?_
  refine kl_sld hC rfl hi2 ?_
  refine kl_callM hC (as := [.int (xs (x3 + (1 : Int32)).toNatClampNeg), .int (xs (x3 + (2 : Int32)).toNatClampNeg)]) (rest := [.int r1]) rfl klk_L_186 kse_X5_visitsTill rfl rfl rfl rfl (Nat.le_of_ble_eq_true rfl) (Nat.le_of_ble_eq_true rfl) hr hcm ?_
  show kl_R p l e s m below meth c0 D ac adx adm b0 (1577, [some (.ref 0), some (.ref 1), some (.ref 2), some (.int x3)], [.int r1, .int r1]) _ _
  refine kl_eq hC rfl ?_
  exact kk _ _ hinv
set_option maxRecDepth 100000 in
set_option maxHeartbeats 4000000 in
theorem kl_case41 {p : Program} {l : Launch} {e : Env} {s : State} {m : MethodId} {below : List Frame} {meth : Method} {c0 : Code} {D : va_G} {ac : Nat → ClassId} {adx adm : Nat → Nat} {b0 Lx : Nat} {xs : Nat → Int32} (hC : kl_C p s m meth c0 D ac adx adm b0 Lx xs) {Inv : kx_M → kx_M → Prop} {Mx Mm : kx_M} (hinv0 : Inv Mx Mm) {x3 : Int32} (hi1 : vp_in (x3 + (1 : Int32)) Lx) (hi2 : vp_in (x3 + (2 : Int32)) Lx) (hi3 : vp_in (x3 + (3 : Int32)) Lx) (hi4 : vp_in (x3 + (4 : Int32)) Lx) (hi5 : vp_in (x3 + (5 : Int32)) Lx) (hs : kl_simI Inv T_X4_who T_X5_who [.int (xs (x3 + (1 : Int32)).toNatClampNeg)]) (kk : ∀ Mx' Mm', Inv Mx' Mm' → kl_R p l e s m below meth c0 D ac adx adm b0 (2039, [some (.ref 0), some (.ref 1), some (.ref 2), some (.int x3)], []) Mx' Mm') : kl_R p l e s m below meth c0 D ac adx adm b0 (1582, [some (.ref 0), some (.ref 1), some (.ref 2), some (.int x3)], []) Mx Mm := by
  obtain ⟨r1, Mx', Mm', hcx, hcm, hinv⟩ := hs Mx Mm hinv0
  have hr : kl_num (.int r1) := Or.inl ⟨r1, rfl⟩
  refine kl_go hC (pc' := 1587) (L' := [some (.ref 0), some (.ref 1), some (.ref 2), some (.int x3)]) (st' := [.int (x3 + (1 : Int32)), .ref 0, .ref 1]) 5 rfl ?_
  refine kl_sld hC rfl hi1 ?_
  refine kl_callX hC (as := [.int (xs (x3 + (1 : Int32)).toNatClampNeg)]) (rest := []) rfl klk_L_187 kse_X4_who rfl rfl rfl rfl (Nat.le_of_ble_eq_true rfl) (Nat.le_of_ble_eq_true rfl) hr hcx ?_
  show kl_R p l e s m below meth c0 D ac adx adm b0 (1591, [some (.ref 0), some (.ref 1), some (.ref 2), some (.int x3)], [.int r1]) _ _
  refine kl_go hC (pc' := 1596) (L' := [some (.ref 0), some (.ref 1), some (.ref 2), some (.int x3)]) (st' := [.int (x3 + (1 : Int32)), .ref 0, .ref 2, .int r1]) 5 rfl ?_
  refine kl_sld hC rfl hi1 ?_
  refine kl_callM hC (as := [.int (xs (x3 + (1 : Int32)).toNatClampNeg)]) (rest := [.int r1]) rfl klk_L_190 kse_X5_who rfl rfl rfl rfl (Nat.le_of_ble_eq_true rfl) (Nat.le_of_ble_eq_true rfl) hr hcm ?_
  show kl_R p l e s m below meth c0 D ac adx adm b0 (1600, [some (.ref 0), some (.ref 1), some (.ref 2), some (.int x3)], [.int r1, .int r1]) _ _
  refine kl_eq hC rfl ?_
  exact kk _ _ hinv
set_option maxRecDepth 100000 in
set_option maxHeartbeats 4000000 in
theorem kl_case42 {p : Program} {l : Launch} {e : Env} {s : State} {m : MethodId} {below : List Frame} {meth : Method} {c0 : Code} {D : va_G} {ac : Nat → ClassId} {adx adm : Nat → Nat} {b0 Lx : Nat} {xs : Nat → Int32} (hC : kl_C p s m meth c0 D ac adx adm b0 Lx xs) {Inv : kx_M → kx_M → Prop} {Mx Mm : kx_M} (hinv0 : Inv Mx Mm) {x3 : Int32} (hi1 : vp_in (x3 + (1 : Int32)) Lx) (hi2 : vp_in (x3 + (2 : Int32)) Lx) (hi3 : vp_in (x3 + (3 : Int32)) Lx) (hi4 : vp_in (x3 + (4 : Int32)) Lx) (hi5 : vp_in (x3 + (5 : Int32)) Lx) (hs : kl_simI Inv T_X4_company T_X5_company [.int (xs (x3 + (1 : Int32)).toNatClampNeg)]) (kk : ∀ Mx' Mm', Inv Mx' Mm' → kl_R p l e s m below meth c0 D ac adx adm b0 (2039, [some (.ref 0), some (.ref 1), some (.ref 2), some (.int x3)], []) Mx' Mm') : kl_R p l e s m below meth c0 D ac adx adm b0 (1605, [some (.ref 0), some (.ref 1), some (.ref 2), some (.int x3)], []) Mx Mm := by
  obtain ⟨r1, Mx', Mm', hcx, hcm, hinv⟩ := hs Mx Mm hinv0
  have hr : kl_num (.int r1) := Or.inl ⟨r1, rfl⟩
  refine kl_go hC (pc' := 1610) (L' := [some (.ref 0), some (.ref 1), some (.ref 2), some (.int x3)]) (st' := [.int (x3 + (1 : Int32)), .ref 0, .ref 1]) 5 rfl ?_
  refine kl_sld hC rfl hi1 ?_
  refine kl_callX hC (as := [.int (xs (x3 + (1 : Int32)).toNatClampNeg)]) (rest := []) rfl klk_L_191 kse_X4_company rfl rfl rfl rfl (Nat.le_of_ble_eq_true rfl) (Nat.le_of_ble_eq_true rfl) hr hcx ?_
  show kl_R p l e s m below meth c0 D ac adx adm b0 (1614, [some (.ref 0), some (.ref 1), some (.ref 2), some (.int x3)], [.int r1]) _ _
  refine kl_go hC (pc' := 1619) (L' := [some (.ref 0), some (.ref 1), some (.ref 2), some (.int x3)]) (st' := [.int (x3 + (1 : Int32)), .ref 0, .ref 2, .int r1]) 5 rfl ?_
  refine kl_sld hC rfl hi1 ?_
  refine kl_callM hC (as := [.int (xs (x3 + (1 : Int32)).toNatClampNeg)]) (rest := [.int r1]) rfl klk_L_194 kse_X5_company rfl rfl rfl rfl (Nat.le_of_ble_eq_true rfl) (Nat.le_of_ble_eq_true rfl) hr hcm ?_
  show kl_R p l e s m below meth c0 D ac adx adm b0 (1623, [some (.ref 0), some (.ref 1), some (.ref 2), some (.int x3)], [.int r1, .int r1]) _ _
  refine kl_eq hC rfl ?_
  exact kk _ _ hinv
set_option maxRecDepth 100000 in
set_option maxHeartbeats 4000000 in
theorem kl_case43 {p : Program} {l : Launch} {e : Env} {s : State} {m : MethodId} {below : List Frame} {meth : Method} {c0 : Code} {D : va_G} {ac : Nat → ClassId} {adx adm : Nat → Nat} {b0 Lx : Nat} {xs : Nat → Int32} (hC : kl_C p s m meth c0 D ac adx adm b0 Lx xs) {Inv : kx_M → kx_M → Prop} {Mx Mm : kx_M} (hinv0 : Inv Mx Mm) {x3 : Int32} (hi1 : vp_in (x3 + (1 : Int32)) Lx) (hi2 : vp_in (x3 + (2 : Int32)) Lx) (hi3 : vp_in (x3 + (3 : Int32)) Lx) (hi4 : vp_in (x3 + (4 : Int32)) Lx) (hi5 : vp_in (x3 + (5 : Int32)) Lx) (hs : kl_simI Inv T_X4_spoiler T_X5_spoiler [.int (xs (x3 + (1 : Int32)).toNatClampNeg)]) (kk : ∀ Mx' Mm', Inv Mx' Mm' → kl_R p l e s m below meth c0 D ac adx adm b0 (2039, [some (.ref 0), some (.ref 1), some (.ref 2), some (.int x3)], []) Mx' Mm') : kl_R p l e s m below meth c0 D ac adx adm b0 (1628, [some (.ref 0), some (.ref 1), some (.ref 2), some (.int x3)], []) Mx Mm := by
  obtain ⟨r1, Mx', Mm', hcx, hcm, hinv⟩ := hs Mx Mm hinv0
  have hr : kl_num (.int r1) := Or.inl ⟨r1, rfl⟩
  refine kl_go hC (pc' := 1633) (L' := [some (.ref 0), some (.ref 1), some (.ref 2), some (.int x3)]) (st' := [.int (x3 + (1 : Int32)), .ref 0, .ref 1]) 5 rfl ?_
  refine kl_sld hC rfl hi1 ?_
  refine kl_callX hC (as := [.int (xs (x3 + (1 : Int32)).toNatClampNeg)]) (rest := []) rfl klk_L_195 kse_X4_spoiler rfl rfl rfl rfl (Nat.le_of_ble_eq_true rfl) (Nat.le_of_ble_eq_true rfl) hr hcx ?_
  show kl_R p l e s m below meth c0 D ac adx adm b0 (1637, [some (.ref 0), some (.ref 1), some (.ref 2), some (.int x3)], [.int r1]) _ _
  refine kl_go hC (pc' := 1642) (L' := [some (.ref 0), some (.ref 1), some (.ref 2), some (.int x3)]) (st' := [.int (x3 + (1 : Int32)), .ref 0, .ref 2, .int r1]) 5 rfl ?_
  refine kl_sld hC rfl hi1 ?_
  refine kl_callM hC (as := [.int (xs (x3 + (1 : Int32)).toNatClampNeg)]) (rest := [.int r1]) rfl klk_L_198 kse_X5_spoiler rfl rfl rfl rfl (Nat.le_of_ble_eq_true rfl) (Nat.le_of_ble_eq_true rfl) hr hcm ?_
  show kl_R p l e s m below meth c0 D ac adx adm b0 (1646, [some (.ref 0), some (.ref 1), some (.ref 2), some (.int x3)], [.int r1, .int r1]) _ _
  refine kl_eq hC rfl ?_
  exact kk _ _ hinv
set_option maxRecDepth 100000 in
set_option maxHeartbeats 4000000 in
theorem kl_case44 {p : Program} {l : Launch} {e : Env} {s : State} {m : MethodId} {below : List Frame} {meth : Method} {c0 : Code} {D : va_G} {ac : Nat → ClassId} {adx adm : Nat → Nat} {b0 Lx : Nat} {xs : Nat → Int32} (hC : kl_C p s m meth c0 D ac adx adm b0 Lx xs) {Inv : kx_M → kx_M → Prop} {Mx Mm : kx_M} (hinv0 : Inv Mx Mm) {x3 : Int32} (hi1 : vp_in (x3 + (1 : Int32)) Lx) (hi2 : vp_in (x3 + (2 : Int32)) Lx) (hi3 : vp_in (x3 + (3 : Int32)) Lx) (hi4 : vp_in (x3 + (4 : Int32)) Lx) (hi5 : vp_in (x3 + (5 : Int32)) Lx) (hs : kl_simI Inv T_X4_split T_X5_split [.int (xs (x3 + (1 : Int32)).toNatClampNeg), .int (xs (x3 + (2 : Int32)).toNatClampNeg)]) (kk : ∀ Mx' Mm', Inv Mx' Mm' → kl_R p l e s m below meth c0 D ac adx adm b0 (2039, [some (.ref 0), some (.ref 1), some (.ref 2), some (.int x3)], []) Mx' Mm') : kl_R p l e s m below meth c0 D ac adx adm b0 (1651, [some (.ref 0), some (.ref 1), some (.ref 2), some (.int x3)], []) Mx Mm := by
  obtain ⟨r1, Mx', Mm', hcx, hcm, hinv⟩ := hs Mx Mm hinv0
  have hr : kl_num (.int r1) := Or.inl ⟨r1, rfl⟩
  refine kl_go hC (pc' := 1656) (L' := [some (.ref 0), some (.ref 1), some (.ref 2), some (.int x3)]) (st' := [.int (x3 + (1 : Int32)), .ref 0, .ref 1]) 5 rfl ?_
  refine kl_sld hC rfl hi1 ?_
  refine kl_go hC (pc' := 1661) (L' := [some (.ref 0), some (.ref 1), some (.ref 2), some (.int x3)]) (st' := [.int (x3 + (2 : Int32)), .ref 0, .int (xs (x3 + (1 : Int32)).toNatClampNeg), .ref 1]) 4 rfl ?_
  refine kl_sld hC rfl hi2 ?_
  refine kl_callX hC (as := [.int (xs (x3 + (1 : Int32)).toNatClampNeg), .int (xs (x3 + (2 : Int32)).toNatClampNeg)]) (rest := []) rfl klk_L_199 kse_X4_split rfl rfl rfl rfl (Nat.le_of_ble_eq_true rfl) (Nat.le_of_ble_eq_true rfl) hr hcx ?_
  show kl_R p l e s m below meth c0 D ac adx adm b0 (1665, [some (.ref 0), some (.ref 1), some (.ref 2), some (.int x3)], [.int r1]) _ _
  refine kl_go hC (pc' := 1670) (L' := [some (.ref 0), some (.ref 1), some (.ref 2), some (.int x3)]) (st' := [.int (x3 + (1 : Int32)), .ref 0, .ref 2, .int r1]) 5 rfl ?_
  refine kl_sld hC rfl hi1 ?_
  refine kl_go hC (pc' := 1675) (L' := [some (.ref 0), some (.ref 1), some (.ref 2), some (.int x3)]) (st' := [.int (x3 + (2 : Int32)), .ref 0, .int (xs (x3 + (1 : Int32)).toNatClampNeg), .ref 2, .int r1]) 4 rfl ?_
  refine kl_sld hC rfl hi2 ?_
  refine kl_callM hC (as := [.int (xs (x3 + (1 : Int32)).toNatClampNeg), .int (xs (x3 + (2 : Int32)).toNatClampNeg)]) (rest := [.int r1]) rfl klk_L_202 kse_X5_split rfl rfl rfl rfl (Nat.le_of_ble_eq_true rfl) (Nat.le_of_ble_eq_true rfl) hr hcm ?_
  show kl_R p l e s m below meth c0 D ac adx adm b0 (1679, [some (.ref 0), some (.ref 1), some (.ref 2), some (.int x3)], [.int r1, .int r1]) _ _
  refine kl_eq hC rfl ?_
  exact kk _ _ hinv
set_option maxRecDepth 100000 in
set_option maxHeartbeats 4000000 in
theorem kl_case45 {p : Program} {l : Launch} {e : Env} {s : State} {m : MethodId} {below : List Frame} {meth : Method} {c0 : Code} {D : va_G} {ac : Nat → ClassId} {adx adm : Nat → Nat} {b0 Lx : Nat} {xs : Nat → Int32} (hC : kl_C p s m meth c0 D ac adx adm b0 Lx xs) {Inv : kx_M → kx_M → Prop} {Mx Mm : kx_M} (hinv0 : Inv Mx Mm) {x3 : Int32} (hi1 : vp_in (x3 + (1 : Int32)) Lx) (hi2 : vp_in (x3 + (2 : Int32)) Lx) (hi3 : vp_in (x3 + (3 : Int32)) Lx) (hi4 : vp_in (x3 + (4 : Int32)) Lx) (hi5 : vp_in (x3 + (5 : Int32)) Lx) (hs : kl_simI Inv T_X4_couple T_X5_couple []) (kk : ∀ Mx' Mm', Inv Mx' Mm' → kl_R p l e s m below meth c0 D ac adx adm b0 (2039, [some (.ref 0), some (.ref 1), some (.ref 2), some (.int x3)], []) Mx' Mm') : kl_R p l e s m below meth c0 D ac adx adm b0 (1684, [some (.ref 0), some (.ref 1), some (.ref 2), some (.int x3)], []) Mx Mm := by
  obtain ⟨r1, Mx', Mm', hcx, hcm, hinv⟩ := hs Mx Mm hinv0
  have hr : kl_num (.int r1) := Or.inl ⟨r1, rfl⟩
  refine kl_go hC (pc' := 1685) (L' := [some (.ref 0), some (.ref 1), some (.ref 2), some (.int x3)]) (st' := [.ref 1]) 1 rfl ?_
  refine kl_callX hC (as := []) (rest := []) rfl klk_L_203 kse_X4_couple rfl rfl rfl rfl (Nat.le_of_ble_eq_true rfl) (Nat.le_of_ble_eq_true rfl) hr hcx ?_
  show kl_R p l e s m below meth c0 D ac adx adm b0 (1688, [some (.ref 0), some (.ref 1), some (.ref 2), some (.int x3)], [.int r1]) _ _
  refine kl_go hC (pc' := 1689) (L' := [some (.ref 0), some (.ref 1), some (.ref 2), some (.int x3)]) (st' := [.ref 2, .int r1]) 1 rfl ?_
  refine kl_callM hC (as := []) (rest := [.int r1]) rfl klk_L_206 kse_X5_couple rfl rfl rfl rfl (Nat.le_of_ble_eq_true rfl) (Nat.le_of_ble_eq_true rfl) hr hcm ?_
  show kl_R p l e s m below meth c0 D ac adx adm b0 (1692, [some (.ref 0), some (.ref 1), some (.ref 2), some (.int x3)], [.int r1, .int r1]) _ _
  refine kl_eq hC rfl ?_
  exact kk _ _ hinv
set_option maxRecDepth 100000 in
set_option maxHeartbeats 4000000 in
theorem kl_case46 {p : Program} {l : Launch} {e : Env} {s : State} {m : MethodId} {below : List Frame} {meth : Method} {c0 : Code} {D : va_G} {ac : Nat → ClassId} {adx adm : Nat → Nat} {b0 Lx : Nat} {xs : Nat → Int32} (hC : kl_C p s m meth c0 D ac adx adm b0 Lx xs) {Inv : kx_M → kx_M → Prop} {Mx Mm : kx_M} (hinv0 : Inv Mx Mm) {x3 : Int32} (hi1 : vp_in (x3 + (1 : Int32)) Lx) (hi2 : vp_in (x3 + (2 : Int32)) Lx) (hi3 : vp_in (x3 + (3 : Int32)) Lx) (hi4 : vp_in (x3 + (4 : Int32)) Lx) (hi5 : vp_in (x3 + (5 : Int32)) Lx) (hs : kl_simI Inv T_X4_secret T_X5_secret [.int (xs (x3 + (1 : Int32)).toNatClampNeg)]) (kk : ∀ Mx' Mm', Inv Mx' Mm' → kl_R p l e s m below meth c0 D ac adx adm b0 (2039, [some (.ref 0), some (.ref 1), some (.ref 2), some (.int x3)], []) Mx' Mm') : kl_R p l e s m below meth c0 D ac adx adm b0 (1697, [some (.ref 0), some (.ref 1), some (.ref 2), some (.int x3)], []) Mx Mm := by
  obtain ⟨r1, Mx', Mm', hcx, hcm, hinv⟩ := hs Mx Mm hinv0
  have hr : kl_num (.int r1) := Or.inl ⟨r1, rfl⟩
  refine kl_go hC (pc' := 1702) (L' := [some (.ref 0), some (.ref 1), some (.ref 2), some (.int x3)]) (st' := [.int (x3 + (1 : Int32)), .ref 0, .ref 1]) 5 rfl ?_
  refine kl_sld hC rfl hi1 ?_
  refine kl_callX hC (as := [.int (xs (x3 + (1 : Int32)).toNatClampNeg)]) (rest := []) rfl klk_L_207 kse_X4_secret rfl rfl rfl rfl (Nat.le_of_ble_eq_true rfl) (Nat.le_of_ble_eq_true rfl) hr hcx ?_
  show kl_R p l e s m below meth c0 D ac adx adm b0 (1706, [some (.ref 0), some (.ref 1), some (.ref 2), some (.int x3)], [.int r1]) _ _
  refine kl_go hC (pc' := 1711) (L' := [some (.ref 0), some (.ref 1), some (.ref 2), some (.int x3)]) (st' := [.int (x3 + (1 : Int32)), .ref 0, .ref 2, .int r1]) 5 rfl ?_
  refine kl_sld hC rfl hi1 ?_
  refine kl_callM hC (as := [.int (xs (x3 + (1 : Int32)).toNatClampNeg)]) (rest := [.int r1]) rfl klk_L_210 kse_X5_secret rfl rfl rfl rfl (Nat.le_of_ble_eq_true rfl) (Nat.le_of_ble_eq_true rfl) hr hcm ?_
  show kl_R p l e s m below meth c0 D ac adx adm b0 (1715, [some (.ref 0), some (.ref 1), some (.ref 2), some (.int x3)], [.int r1, .int r1]) _ _
  refine kl_eq hC rfl ?_
  exact kk _ _ hinv
set_option maxRecDepth 100000 in
set_option maxHeartbeats 4000000 in
theorem kl_case47 {p : Program} {l : Launch} {e : Env} {s : State} {m : MethodId} {below : List Frame} {meth : Method} {c0 : Code} {D : va_G} {ac : Nat → ClassId} {adx adm : Nat → Nat} {b0 Lx : Nat} {xs : Nat → Int32} (hC : kl_C p s m meth c0 D ac adx adm b0 Lx xs) {Inv : kx_M → kx_M → Prop} {Mx Mm : kx_M} (hinv0 : Inv Mx Mm) {x3 : Int32} (hi1 : vp_in (x3 + (1 : Int32)) Lx) (hi2 : vp_in (x3 + (2 : Int32)) Lx) (hi3 : vp_in (x3 + (3 : Int32)) Lx) (hi4 : vp_in (x3 + (4 : Int32)) Lx) (hi5 : vp_in (x3 + (5 : Int32)) Lx) (hs : kl_simI Inv T_X4_rank T_X5_rank [.int (xs (x3 + (1 : Int32)).toNatClampNeg)]) (kk : ∀ Mx' Mm', Inv Mx' Mm' → kl_R p l e s m below meth c0 D ac adx adm b0 (2039, [some (.ref 0), some (.ref 1), some (.ref 2), some (.int x3)], []) Mx' Mm') : kl_R p l e s m below meth c0 D ac adx adm b0 (1720, [some (.ref 0), some (.ref 1), some (.ref 2), some (.int x3)], []) Mx Mm := by
  obtain ⟨r1, Mx', Mm', hcx, hcm, hinv⟩ := hs Mx Mm hinv0
  have hr : kl_num (.int r1) := Or.inl ⟨r1, rfl⟩
  refine kl_go hC (pc' := 1725) (L' := [some (.ref 0), some (.ref 1), some (.ref 2), some (.int x3)]) (st' := [.int (x3 + (1 : Int32)), .ref 0, .ref 1]) 5 rfl ?_
  refine kl_sld hC rfl hi1 ?_
  refine kl_callX hC (as := [.int (xs (x3 + (1 : Int32)).toNatClampNeg)]) (rest := []) rfl klk_L_211 kse_X4_rank rfl rfl rfl rfl (Nat.le_of_ble_eq_true rfl) (Nat.le_of_ble_eq_true rfl) hr hcx ?_
  show kl_R p l e s m below meth c0 D ac adx adm b0 (1729, [some (.ref 0), some (.ref 1), some (.ref 2), some (.int x3)], [.int r1]) _ _
  refine kl_go hC (pc' := 1734) (L' := [some (.ref 0), some (.ref 1), some (.ref 2), some (.int x3)]) (st' := [.int (x3 + (1 : Int32)), .ref 0, .ref 2, .int r1]) 5 rfl ?_
  refine kl_sld hC rfl hi1 ?_
  refine kl_callM hC (as := [.int (xs (x3 + (1 : Int32)).toNatClampNeg)]) (rest := [.int r1]) rfl klk_L_214 kse_X5_rank rfl rfl rfl rfl (Nat.le_of_ble_eq_true rfl) (Nat.le_of_ble_eq_true rfl) hr hcm ?_
  show kl_R p l e s m below meth c0 D ac adx adm b0 (1738, [some (.ref 0), some (.ref 1), some (.ref 2), some (.int x3)], [.int r1, .int r1]) _ _
  refine kl_eq hC rfl ?_
  exact kk _ _ hinv
set_option maxRecDepth 100000 in
set_option maxHeartbeats 4000000 in
theorem kl_case48 {p : Program} {l : Launch} {e : Env} {s : State} {m : MethodId} {below : List Frame} {meth : Method} {c0 : Code} {D : va_G} {ac : Nat → ClassId} {adx adm : Nat → Nat} {b0 Lx : Nat} {xs : Nat → Int32} (hC : kl_C p s m meth c0 D ac adx adm b0 Lx xs) {Inv : kx_M → kx_M → Prop} {Mx Mm : kx_M} (hinv0 : Inv Mx Mm) {x3 : Int32} (hi1 : vp_in (x3 + (1 : Int32)) Lx) (hi2 : vp_in (x3 + (2 : Int32)) Lx) (hi3 : vp_in (x3 + (3 : Int32)) Lx) (hi4 : vp_in (x3 + (4 : Int32)) Lx) (hi5 : vp_in (x3 + (5 : Int32)) Lx) (hs : kl_simI Inv T_X4_blind T_X5_blind [.int (xs (x3 + (1 : Int32)).toNatClampNeg)]) (kk : ∀ Mx' Mm', Inv Mx' Mm' → kl_R p l e s m below meth c0 D ac adx adm b0 (2039, [some (.ref 0), some (.ref 1), some (.ref 2), some (.int x3)], []) Mx' Mm') : kl_R p l e s m below meth c0 D ac adx adm b0 (1743, [some (.ref 0), some (.ref 1), some (.ref 2), some (.int x3)], []) Mx Mm := by
  obtain ⟨r1, Mx', Mm', hcx, hcm, hinv⟩ := hs Mx Mm hinv0
  have hr : kl_num (.int r1) := Or.inl ⟨r1, rfl⟩
  refine kl_go hC (pc' := 1748) (L' := [some (.ref 0), some (.ref 1), some (.ref 2), some (.int x3)]) (st' := [.int (x3 + (1 : Int32)), .ref 0, .ref 1]) 5 rfl ?_
  refine kl_sld hC rfl hi1 ?_
  refine kl_callX hC (as := [.int (xs (x3 + (1 : Int32)).toNatClampNeg)]) (rest := []) rfl klk_L_215 kse_X4_blind rfl rfl rfl rfl (Nat.le_of_ble_eq_true rfl) (Nat.le_of_ble_eq_true rfl) hr hcx ?_
  show kl_R p l e s m below meth c0 D ac adx adm b0 (1752, [some (.ref 0), some (.ref 1), some (.ref 2), some (.int x3)], [.int r1]) _ _
  refine kl_go hC (pc' := 1757) (L' := [some (.ref 0), some (.ref 1), some (.ref 2), some (.int x3)]) (st' := [.int (x3 + (1 : Int32)), .ref 0, .ref 2, .int r1]) 5 rfl ?_
  refine kl_sld hC rfl hi1 ?_
  refine kl_callM hC (as := [.int (xs (x3 + (1 : Int32)).toNatClampNeg)]) (rest := [.int r1]) rfl klk_L_218 kse_X5_blind rfl rfl rfl rfl (Nat.le_of_ble_eq_true rfl) (Nat.le_of_ble_eq_true rfl) hr hcm ?_
  show kl_R p l e s m below meth c0 D ac adx adm b0 (1761, [some (.ref 0), some (.ref 1), some (.ref 2), some (.int x3)], [.int r1, .int r1]) _ _
  refine kl_eq hC rfl ?_
  exact kk _ _ hinv
set_option maxRecDepth 100000 in
set_option maxHeartbeats 4000000 in
theorem kl_case49 {p : Program} {l : Launch} {e : Env} {s : State} {m : MethodId} {below : List Frame} {meth : Method} {c0 : Code} {D : va_G} {ac : Nat → ClassId} {adx adm : Nat → Nat} {b0 Lx : Nat} {xs : Nat → Int32} (hC : kl_C p s m meth c0 D ac adx adm b0 Lx xs) {Inv : kx_M → kx_M → Prop} {Mx Mm : kx_M} (hinv0 : Inv Mx Mm) {x3 : Int32} (hi1 : vp_in (x3 + (1 : Int32)) Lx) (hi2 : vp_in (x3 + (2 : Int32)) Lx) (hi3 : vp_in (x3 + (3 : Int32)) Lx) (hi4 : vp_in (x3 + (4 : Int32)) Lx) (hi5 : vp_in (x3 + (5 : Int32)) Lx) (hs : kl_simI Inv T_X4_shyest T_X5_shyest [.int (xs (x3 + (1 : Int32)).toNatClampNeg)]) (kk : ∀ Mx' Mm', Inv Mx' Mm' → kl_R p l e s m below meth c0 D ac adx adm b0 (2039, [some (.ref 0), some (.ref 1), some (.ref 2), some (.int x3)], []) Mx' Mm') : kl_R p l e s m below meth c0 D ac adx adm b0 (1766, [some (.ref 0), some (.ref 1), some (.ref 2), some (.int x3)], []) Mx Mm := by
  obtain ⟨r1, Mx', Mm', hcx, hcm, hinv⟩ := hs Mx Mm hinv0
  have hr : kl_num (.int r1) := Or.inl ⟨r1, rfl⟩
  refine kl_go hC (pc' := 1771) (L' := [some (.ref 0), some (.ref 1), some (.ref 2), some (.int x3)]) (st' := [.int (x3 + (1 : Int32)), .ref 0, .ref 1]) 5 rfl ?_
  refine kl_sld hC rfl hi1 ?_
  refine kl_callX hC (as := [.int (xs (x3 + (1 : Int32)).toNatClampNeg)]) (rest := []) rfl klk_L_219 kse_X4_shyest rfl rfl rfl rfl (Nat.le_of_ble_eq_true rfl) (Nat.le_of_ble_eq_true rfl) hr hcx ?_
  show kl_R p l e s m below meth c0 D ac adx adm b0 (1775, [some (.ref 0), some (.ref 1), some (.ref 2), some (.int x3)], [.int r1]) _ _
  refine kl_go hC (pc' := 1780) (L' := [some (.ref 0), some (.ref 1), some (.ref 2), some (.int x3)]) (st' := [.int (x3 + (1 : Int32)), .ref 0, .ref 2, .int r1]) 5 rfl ?_
  refine kl_sld hC rfl hi1 ?_
  refine kl_callM hC (as := [.int (xs (x3 + (1 : Int32)).toNatClampNeg)]) (rest := [.int r1]) rfl klk_L_222 kse_X5_shyest rfl rfl rfl rfl (Nat.le_of_ble_eq_true rfl) (Nat.le_of_ble_eq_true rfl) hr hcm ?_
  show kl_R p l e s m below meth c0 D ac adx adm b0 (1784, [some (.ref 0), some (.ref 1), some (.ref 2), some (.int x3)], [.int r1, .int r1]) _ _
  refine kl_eq hC rfl ?_
  exact kk _ _ hinv
set_option maxRecDepth 100000 in
set_option maxHeartbeats 4000000 in
theorem kl_case50 {p : Program} {l : Launch} {e : Env} {s : State} {m : MethodId} {below : List Frame} {meth : Method} {c0 : Code} {D : va_G} {ac : Nat → ClassId} {adx adm : Nat → Nat} {b0 Lx : Nat} {xs : Nat → Int32} (hC : kl_C p s m meth c0 D ac adx adm b0 Lx xs) {Inv : kx_M → kx_M → Prop} {Mx Mm : kx_M} (hinv0 : Inv Mx Mm) {x3 : Int32} (hi1 : vp_in (x3 + (1 : Int32)) Lx) (hi2 : vp_in (x3 + (2 : Int32)) Lx) (hi3 : vp_in (x3 + (3 : Int32)) Lx) (hi4 : vp_in (x3 + (4 : Int32)) Lx) (hi5 : vp_in (x3 + (5 : Int32)) Lx) (hs : kl_simI Inv T_X4_alike T_X5_alike [.int (xs (x3 + (1 : Int32)).toNatClampNeg), .int (xs (x3 + (2 : Int32)).toNatClampNeg)]) (kk : ∀ Mx' Mm', Inv Mx' Mm' → kl_R p l e s m below meth c0 D ac adx adm b0 (2039, [some (.ref 0), some (.ref 1), some (.ref 2), some (.int x3)], []) Mx' Mm') : kl_R p l e s m below meth c0 D ac adx adm b0 (1789, [some (.ref 0), some (.ref 1), some (.ref 2), some (.int x3)], []) Mx Mm := by
  obtain ⟨r1, Mx', Mm', hcx, hcm, hinv⟩ := hs Mx Mm hinv0
  have hr : kl_num (.int r1) := Or.inl ⟨r1, rfl⟩
  refine kl_go hC (pc' := 1794) (L' := [some (.ref 0), some (.ref 1), some (.ref 2), some (.int x3)]) (st' := [.int (x3 + (1 : Int32)), .ref 0, .ref 1]) 5 rfl ?_
  refine kl_sld hC rfl hi1 ?_
  refine kl_go hC (pc' := 1799) (L' := [some (.ref 0), some (.ref 1), some (.ref 2), some (.int x3)]) (st' := [.int (x3 + (2 : Int32)), .ref 0, .int (xs (x3 + (1 : Int32)).toNatClampNeg), .ref 1]) 4 rfl ?_
  refine kl_sld hC rfl hi2 ?_
  refine kl_callX hC (as := [.int (xs (x3 + (1 : Int32)).toNatClampNeg), .int (xs (x3 + (2 : Int32)).toNatClampNeg)]) (rest := []) rfl klk_L_223 kse_X4_alike rfl rfl rfl rfl (Nat.le_of_ble_eq_true rfl) (Nat.le_of_ble_eq_true rfl) hr hcx ?_
  show kl_R p l e s m below meth c0 D ac adx adm b0 (1803, [some (.ref 0), some (.ref 1), some (.ref 2), some (.int x3)], [.int r1]) _ _
  refine kl_go hC (pc' := 1808) (L' := [some (.ref 0), some (.ref 1), some (.ref 2), some (.int x3)]) (st' := [.int (x3 + (1 : Int32)), .ref 0, .ref 2, .int r1]) 5 rfl ?_
  refine kl_sld hC rfl hi1 ?_
  refine kl_go hC (pc' := 1813) (L' := [some (.ref 0), some (.ref 1), some (.ref 2), some (.int x3)]) (st' := [.int (x3 + (2 : Int32)), .ref 0, .int (xs (x3 + (1 : Int32)).toNatClampNeg), .ref 2, .int r1]) 4 rfl ?_
  refine kl_sld hC rfl hi2 ?_
  refine kl_callM hC (as := [.int (xs (x3 + (1 : Int32)).toNatClampNeg), .int (xs (x3 + (2 : Int32)).toNatClampNeg)]) (rest := [.int r1]) rfl klk_L_226 kse_X5_alike rfl rfl rfl rfl (Nat.le_of_ble_eq_true rfl) (Nat.le_of_ble_eq_true rfl) hr hcm ?_
  show kl_R p l e s m below meth c0 D ac adx adm b0 (1817, [some (.ref 0), some (.ref 1), some (.ref 2), some (.int x3)], [.int r1, .int r1]) _ _
  refine kl_eq hC rfl ?_
  exact kk _ _ hinv
set_option maxRecDepth 100000 in
set_option maxHeartbeats 4000000 in
theorem kl_case51 {p : Program} {l : Launch} {e : Env} {s : State} {m : MethodId} {below : List Frame} {meth : Method} {c0 : Code} {D : va_G} {ac : Nat → ClassId} {adx adm : Nat → Nat} {b0 Lx : Nat} {xs : Nat → Int32} (hC : kl_C p s m meth c0 D ac adx adm b0 Lx xs) {Inv : kx_M → kx_M → Prop} {Mx Mm : kx_M} (hinv0 : Inv Mx Mm) {x3 : Int32} (hi1 : vp_in (x3 + (1 : Int32)) Lx) (hi2 : vp_in (x3 + (2 : Int32)) Lx) (hi3 : vp_in (x3 + (3 : Int32)) Lx) (hi4 : vp_in (x3 + (4 : Int32)) Lx) (hi5 : vp_in (x3 + (5 : Int32)) Lx) (hs : kl_simI Inv T_X4_ofKind T_X5_ofKind [.int (xs (x3 + (1 : Int32)).toNatClampNeg)]) (kk : ∀ Mx' Mm', Inv Mx' Mm' → kl_R p l e s m below meth c0 D ac adx adm b0 (2039, [some (.ref 0), some (.ref 1), some (.ref 2), some (.int x3)], []) Mx' Mm') : kl_R p l e s m below meth c0 D ac adx adm b0 (1822, [some (.ref 0), some (.ref 1), some (.ref 2), some (.int x3)], []) Mx Mm := by
  obtain ⟨r1, Mx', Mm', hcx, hcm, hinv⟩ := hs Mx Mm hinv0
  have hr : kl_num (.int r1) := Or.inl ⟨r1, rfl⟩
  refine kl_go hC (pc' := 1827) (L' := [some (.ref 0), some (.ref 1), some (.ref 2), some (.int x3)]) (st' := [.int (x3 + (1 : Int32)), .ref 0, .ref 1]) 5 rfl ?_
  refine kl_sld hC rfl hi1 ?_
  refine kl_callX hC (as := [.int (xs (x3 + (1 : Int32)).toNatClampNeg)]) (rest := []) rfl klk_L_227 kse_X4_ofKind rfl rfl rfl rfl (Nat.le_of_ble_eq_true rfl) (Nat.le_of_ble_eq_true rfl) hr hcx ?_
  show kl_R p l e s m below meth c0 D ac adx adm b0 (1831, [some (.ref 0), some (.ref 1), some (.ref 2), some (.int x3)], [.int r1]) _ _
  refine kl_go hC (pc' := 1836) (L' := [some (.ref 0), some (.ref 1), some (.ref 2), some (.int x3)]) (st' := [.int (x3 + (1 : Int32)), .ref 0, .ref 2, .int r1]) 5 rfl ?_
  refine kl_sld hC rfl hi1 ?_
  refine kl_callM hC (as := [.int (xs (x3 + (1 : Int32)).toNatClampNeg)]) (rest := [.int r1]) rfl klk_L_230 kse_X5_ofKind rfl rfl rfl rfl (Nat.le_of_ble_eq_true rfl) (Nat.le_of_ble_eq_true rfl) hr hcm ?_
  show kl_R p l e s m below meth c0 D ac adx adm b0 (1840, [some (.ref 0), some (.ref 1), some (.ref 2), some (.int x3)], [.int r1, .int r1]) _ _
  refine kl_eq hC rfl ?_
  exact kk _ _ hinv
set_option maxRecDepth 100000 in
set_option maxHeartbeats 4000000 in
theorem kl_case52 {p : Program} {l : Launch} {e : Env} {s : State} {m : MethodId} {below : List Frame} {meth : Method} {c0 : Code} {D : va_G} {ac : Nat → ClassId} {adx adm : Nat → Nat} {b0 Lx : Nat} {xs : Nat → Int32} (hC : kl_C p s m meth c0 D ac adx adm b0 Lx xs) {Inv : kx_M → kx_M → Prop} {Mx Mm : kx_M} (hinv0 : Inv Mx Mm) {x3 : Int32} (hi1 : vp_in (x3 + (1 : Int32)) Lx) (hi2 : vp_in (x3 + (2 : Int32)) Lx) (hi3 : vp_in (x3 + (3 : Int32)) Lx) (hi4 : vp_in (x3 + (4 : Int32)) Lx) (hi5 : vp_in (x3 + (5 : Int32)) Lx) (hs : kl_simI Inv T_X4_judge T_X5_judge [.int (xs (x3 + (1 : Int32)).toNatClampNeg), .int (xs (x3 + (2 : Int32)).toNatClampNeg)]) (kk : ∀ Mx' Mm', Inv Mx' Mm' → kl_R p l e s m below meth c0 D ac adx adm b0 (2039, [some (.ref 0), some (.ref 1), some (.ref 2), some (.int x3)], []) Mx' Mm') : kl_R p l e s m below meth c0 D ac adx adm b0 (1845, [some (.ref 0), some (.ref 1), some (.ref 2), some (.int x3)], []) Mx Mm := by
  obtain ⟨r1, Mx', Mm', hcx, hcm, hinv⟩ := hs Mx Mm hinv0
  have hr : kl_num (.int r1) := Or.inl ⟨r1, rfl⟩
  refine kl_go hC (pc' := 1850) (L' := [some (.ref 0), some (.ref 1), some (.ref 2), some (.int x3)]) (st' := [.int (x3 + (1 : Int32)), .ref 0, .ref 1]) 5 rfl ?_
  refine kl_sld hC rfl hi1 ?_
  refine kl_go hC (pc' := 1855) (L' := [some (.ref 0), some (.ref 1), some (.ref 2), some (.int x3)]) (st' := [.int (x3 + (2 : Int32)), .ref 0, .int (xs (x3 + (1 : Int32)).toNatClampNeg), .ref 1]) 4 rfl ?_
  refine kl_sld hC rfl hi2 ?_
  refine kl_callX hC (as := [.int (xs (x3 + (1 : Int32)).toNatClampNeg), .int (xs (x3 + (2 : Int32)).toNatClampNeg)]) (rest := []) rfl klk_L_231 kse_X4_judge rfl rfl rfl rfl (Nat.le_of_ble_eq_true rfl) (Nat.le_of_ble_eq_true rfl) hr hcx ?_
  show kl_R p l e s m below meth c0 D ac adx adm b0 (1859, [some (.ref 0), some (.ref 1), some (.ref 2), some (.int x3)], [.int r1]) _ _
  refine kl_go hC (pc' := 1864) (L' := [some (.ref 0), some (.ref 1), some (.ref 2), some (.int x3)]) (st' := [.int (x3 + (1 : Int32)), .ref 0, .ref 2, .int r1]) 5 rfl ?_
  refine kl_sld hC rfl hi1 ?_
  refine kl_go hC (pc' := 1869) (L' := [some (.ref 0), some (.ref 1), some (.ref 2), some (.int x3)]) (st' := [.int (x3 + (2 : Int32)), .ref 0, .int (xs (x3 + (1 : Int32)).toNatClampNeg), .ref 2, .int r1]) 4 rfl ?_
  refine kl_sld hC rfl hi2 ?_
  refine kl_callM hC (as := [.int (xs (x3 + (1 : Int32)).toNatClampNeg), .int (xs (x3 + (2 : Int32)).toNatClampNeg)]) (rest := [.int r1]) rfl klk_L_234 kse_X5_judge rfl rfl rfl rfl (Nat.le_of_ble_eq_true rfl) (Nat.le_of_ble_eq_true rfl) hr hcm ?_
  show kl_R p l e s m below meth c0 D ac adx adm b0 (1873, [some (.ref 0), some (.ref 1), some (.ref 2), some (.int x3)], [.int r1, .int r1]) _ _
  refine kl_eq hC rfl ?_
  exact kk _ _ hinv
set_option maxRecDepth 100000 in
set_option maxHeartbeats 4000000 in
theorem kl_case53 {p : Program} {l : Launch} {e : Env} {s : State} {m : MethodId} {below : List Frame} {meth : Method} {c0 : Code} {D : va_G} {ac : Nat → ClassId} {adx adm : Nat → Nat} {b0 Lx : Nat} {xs : Nat → Int32} (hC : kl_C p s m meth c0 D ac adx adm b0 Lx xs) {Inv : kx_M → kx_M → Prop} {Mx Mm : kx_M} (hinv0 : Inv Mx Mm) {x3 : Int32} (hi1 : vp_in (x3 + (1 : Int32)) Lx) (hi2 : vp_in (x3 + (2 : Int32)) Lx) (hi3 : vp_in (x3 + (3 : Int32)) Lx) (hi4 : vp_in (x3 + (4 : Int32)) Lx) (hi5 : vp_in (x3 + (5 : Int32)) Lx) (hs : kl_simI Inv T_X4_behind T_X5_behind [.int (xs (x3 + (1 : Int32)).toNatClampNeg), .int (xs (x3 + (2 : Int32)).toNatClampNeg), .int (xs (x3 + (3 : Int32)).toNatClampNeg)]) (kk : ∀ Mx' Mm', Inv Mx' Mm' → kl_R p l e s m below meth c0 D ac adx adm b0 (2039, [some (.ref 0), some (.ref 1), some (.ref 2), some (.int x3)], []) Mx' Mm') : kl_R p l e s m below meth c0 D ac adx adm b0 (1878, [some (.ref 0), some (.ref 1), some (.ref 2), some (.int x3)], []) Mx Mm := by
  obtain ⟨r1, Mx', Mm', hcx, hcm, hinv⟩ := hs Mx Mm hinv0
  have hr : kl_num (.int r1) := Or.inl ⟨r1, rfl⟩
  refine kl_go hC (pc' := 1883) (L' := [some (.ref 0), some (.ref 1), some (.ref 2), some (.int x3)]) (st' := [.int (x3 + (1 : Int32)), .ref 0, .ref 1]) 5 rfl ?_
  refine kl_sld hC rfl hi1 ?_
  refine kl_go hC (pc' := 1888) (L' := [some (.ref 0), some (.ref 1), some (.ref 2), some (.int x3)]) (st' := [.int (x3 + (2 : Int32)), .ref 0, .int (xs (x3 + (1 : Int32)).toNatClampNeg), .ref 1]) 4 rfl ?_
  refine kl_sld hC rfl hi2 ?_
  refine kl_go hC (pc' := 1893) (L' := [some (.ref 0), some (.ref 1), some (.ref 2), some (.int x3)]) (st' := [.int (x3 + (3 : Int32)), .ref 0, .int (xs (x3 + (2 : Int32)).toNatClampNeg), .int (xs (x3 + (1 : Int32)).toNatClampNeg), .ref 1]) 4 rfl ?_
  refine kl_sld hC rfl hi3 ?_
  refine kl_callX hC (as := [.int (xs (x3 + (1 : Int32)).toNatClampNeg), .int (xs (x3 + (2 : Int32)).toNatClampNeg), .int (xs (x3 + (3 : Int32)).toNatClampNeg)]) (rest := []) rfl klk_L_235 kse_X4_behind rfl rfl rfl rfl (Nat.le_of_ble_eq_true rfl) (Nat.le_of_ble_eq_true rfl) hr hcx ?_
  show kl_R p l e s m below meth c0 D ac adx adm b0 (1897, [some (.ref 0), some (.ref 1), some (.ref 2), some (.int x3)], [.int r1]) _ _
  refine kl_go hC (pc' := 1902) (L' := [some (.ref 0), some (.ref 1), some (.ref 2), some (.int x3)]) (st' := [.int (x3 + (1 : Int32)), .ref 0, .ref 2, .int r1]) 5 rfl ?_
  refine kl_sld hC rfl hi1 ?_
  refine kl_go hC (pc' := 1907) (L' := [some (.ref 0), some (.ref 1), some (.ref 2), some (.int x3)]) (st' := [.int (x3 + (2 : Int32)), .ref 0, .int (xs (x3 + (1 : Int32)).toNatClampNeg), .ref 2, .int r1]) 4 rfl ?_
  refine kl_sld hC rfl hi2 ?_
  refine kl_go hC (pc' := 1912) (L' := [some (.ref 0), some (.ref 1), some (.ref 2), some (.int x3)]) (st' := [.int (x3 + (3 : Int32)), .ref 0, .int (xs (x3 + (2 : Int32)).toNatClampNeg), .int (xs (x3 + (1 : Int32)).toNatClampNeg), .ref 2, .int r1]) 4 rfl ?_
  refine kl_sld hC rfl hi3 ?_
  refine kl_callM hC (as := [.int (xs (x3 + (1 : Int32)).toNatClampNeg), .int (xs (x3 + (2 : Int32)).toNatClampNeg), .int (xs (x3 + (3 : Int32)).toNatClampNeg)]) (rest := [.int r1]) rfl klk_L_238 kse_X5_behind rfl rfl rfl rfl (Nat.le_of_ble_eq_true rfl) (Nat.le_of_ble_eq_true rfl) hr hcm ?_
  show kl_R p l e s m below meth c0 D ac adx adm b0 (1916, [some (.ref 0), some (.ref 1), some (.ref 2), some (.int x3)], [.int r1, .int r1]) _ _
  refine kl_eq hC rfl ?_
  exact kk _ _ hinv
set_option maxRecDepth 100000 in
set_option maxHeartbeats 4000000 in
theorem kl_case54 {p : Program} {l : Launch} {e : Env} {s : State} {m : MethodId} {below : List Frame} {meth : Method} {c0 : Code} {D : va_G} {ac : Nat → ClassId} {adx adm : Nat → Nat} {b0 Lx : Nat} {xs : Nat → Int32} (hC : kl_C p s m meth c0 D ac adx adm b0 Lx xs) {Inv : kx_M → kx_M → Prop} {Mx Mm : kx_M} (hinv0 : Inv Mx Mm) {x3 : Int32} (hi1 : vp_in (x3 + (1 : Int32)) Lx) (hi2 : vp_in (x3 + (2 : Int32)) Lx) (hi3 : vp_in (x3 + (3 : Int32)) Lx) (hi4 : vp_in (x3 + (4 : Int32)) Lx) (hi5 : vp_in (x3 + (5 : Int32)) Lx) (hs : kl_simI Inv T_X4_visit T_X5_visit [.int (xs (x3 + (1 : Int32)).toNatClampNeg)]) (kk : ∀ Mx' Mm', Inv Mx' Mm' → kl_R p l e s m below meth c0 D ac adx adm b0 (2039, [some (.ref 0), some (.ref 1), some (.ref 2), some (.int x3)], []) Mx' Mm') : kl_R p l e s m below meth c0 D ac adx adm b0 (1921, [some (.ref 0), some (.ref 1), some (.ref 2), some (.int x3)], []) Mx Mm := by
  obtain ⟨r1, Mx', Mm', hcx, hcm, hinv⟩ := hs Mx Mm hinv0
  have hr : kl_num (.int r1) := Or.inl ⟨r1, rfl⟩
  refine kl_go hC (pc' := 1926) (L' := [some (.ref 0), some (.ref 1), some (.ref 2), some (.int x3)]) (st' := [.int (x3 + (1 : Int32)), .ref 0, .ref 1]) 5 rfl ?_
  refine kl_sld hC rfl hi1 ?_
  refine kl_callX hC (as := [.int (xs (x3 + (1 : Int32)).toNatClampNeg)]) (rest := []) rfl klk_L_239 kse_X4_visit rfl rfl rfl rfl (Nat.le_of_ble_eq_true rfl) (Nat.le_of_ble_eq_true rfl) hr hcx ?_
  show kl_R p l e s m below meth c0 D ac adx adm b0 (1930, [some (.ref 0), some (.ref 1), some (.ref 2), some (.int x3)], [.int r1]) _ _
  refine kl_go hC (pc' := 1935) (L' := [some (.ref 0), some (.ref 1), some (.ref 2), some (.int x3)]) (st' := [.int (x3 + (1 : Int32)), .ref 0, .ref 2, .int r1]) 5 rfl ?_
  refine kl_sld hC rfl hi1 ?_
  refine kl_callM hC (as := [.int (xs (x3 + (1 : Int32)).toNatClampNeg)]) (rest := [.int r1]) rfl klk_L_242 kse_X5_visit rfl rfl rfl rfl (Nat.le_of_ble_eq_true rfl) (Nat.le_of_ble_eq_true rfl) hr hcm ?_
  show kl_R p l e s m below meth c0 D ac adx adm b0 (1939, [some (.ref 0), some (.ref 1), some (.ref 2), some (.int x3)], [.int r1, .int r1]) _ _
  refine kl_eq hC rfl ?_
  exact kk _ _ hinv
set_option maxRecDepth 100000 in
set_option maxHeartbeats 4000000 in
theorem kl_case55 {p : Program} {l : Launch} {e : Env} {s : State} {m : MethodId} {below : List Frame} {meth : Method} {c0 : Code} {D : va_G} {ac : Nat → ClassId} {adx adm : Nat → Nat} {b0 Lx : Nat} {xs : Nat → Int32} (hC : kl_C p s m meth c0 D ac adx adm b0 Lx xs) {Inv : kx_M → kx_M → Prop} {Mx Mm : kx_M} (hinv0 : Inv Mx Mm) {x3 : Int32} (hi1 : vp_in (x3 + (1 : Int32)) Lx) (hi2 : vp_in (x3 + (2 : Int32)) Lx) (hi3 : vp_in (x3 + (3 : Int32)) Lx) (hi4 : vp_in (x3 + (4 : Int32)) Lx) (hi5 : vp_in (x3 + (5 : Int32)) Lx) (hs : kl_simI Inv T_X4_days T_X5_days [.int (xs (x3 + (1 : Int32)).toNatClampNeg)]) (kk : ∀ Mx' Mm', Inv Mx' Mm' → kl_R p l e s m below meth c0 D ac adx adm b0 (2039, [some (.ref 0), some (.ref 1), some (.ref 2), some (.int x3)], []) Mx' Mm') : kl_R p l e s m below meth c0 D ac adx adm b0 (1944, [some (.ref 0), some (.ref 1), some (.ref 2), some (.int x3)], []) Mx Mm := by
  obtain ⟨r1, Mx', Mm', hcx, hcm, hinv⟩ := hs Mx Mm hinv0
  have hr : kl_num (.int r1) := Or.inl ⟨r1, rfl⟩
  refine kl_go hC (pc' := 1949) (L' := [some (.ref 0), some (.ref 1), some (.ref 2), some (.int x3)]) (st' := [.int (x3 + (1 : Int32)), .ref 0, .ref 1]) 5 rfl ?_
  refine kl_sld hC rfl hi1 ?_
  refine kl_callX hC (as := [.int (xs (x3 + (1 : Int32)).toNatClampNeg)]) (rest := []) rfl klk_L_243 kse_X4_days rfl rfl rfl rfl (Nat.le_of_ble_eq_true rfl) (Nat.le_of_ble_eq_true rfl) hr hcx ?_
  show kl_R p l e s m below meth c0 D ac adx adm b0 (1953, [some (.ref 0), some (.ref 1), some (.ref 2), some (.int x3)], [.int r1]) _ _
  refine kl_go hC (pc' := 1958) (L' := [some (.ref 0), some (.ref 1), some (.ref 2), some (.int x3)]) (st' := [.int (x3 + (1 : Int32)), .ref 0, .ref 2, .int r1]) 5 rfl ?_
  refine kl_sld hC rfl hi1 ?_
  refine kl_callM hC (as := [.int (xs (x3 + (1 : Int32)).toNatClampNeg)]) (rest := [.int r1]) rfl klk_L_246 kse_X5_days rfl rfl rfl rfl (Nat.le_of_ble_eq_true rfl) (Nat.le_of_ble_eq_true rfl) hr hcm ?_
  show kl_R p l e s m below meth c0 D ac adx adm b0 (1962, [some (.ref 0), some (.ref 1), some (.ref 2), some (.int x3)], [.int r1, .int r1]) _ _
  refine kl_eq hC rfl ?_
  exact kk _ _ hinv
set_option maxRecDepth 100000 in
set_option maxHeartbeats 4000000 in
theorem kl_case56 {p : Program} {l : Launch} {e : Env} {s : State} {m : MethodId} {below : List Frame} {meth : Method} {c0 : Code} {D : va_G} {ac : Nat → ClassId} {adx adm : Nat → Nat} {b0 Lx : Nat} {xs : Nat → Int32} (hC : kl_C p s m meth c0 D ac adx adm b0 Lx xs) {Inv : kx_M → kx_M → Prop} {Mx Mm : kx_M} (hinv0 : Inv Mx Mm) {x3 : Int32} (hi1 : vp_in (x3 + (1 : Int32)) Lx) (hi2 : vp_in (x3 + (2 : Int32)) Lx) (hi3 : vp_in (x3 + (3 : Int32)) Lx) (hi4 : vp_in (x3 + (4 : Int32)) Lx) (hi5 : vp_in (x3 + (5 : Int32)) Lx) (hs : kl_simI Inv T_X4_seed T_X5_seed [.int (xs (x3 + (1 : Int32)).toNatClampNeg)]) (kk : ∀ Mx' Mm', Inv Mx' Mm' → kl_R p l e s m below meth c0 D ac adx adm b0 (2039, [some (.ref 0), some (.ref 1), some (.ref 2), some (.int x3)], []) Mx' Mm') : kl_R p l e s m below meth c0 D ac adx adm b0 (1967, [some (.ref 0), some (.ref 1), some (.ref 2), some (.int x3)], []) Mx Mm := by
  obtain ⟨r1, Mx', Mm', hcx, hcm, hinv⟩ := hs Mx Mm hinv0
  have hr : kl_num (.int r1) := Or.inl ⟨r1, rfl⟩
  refine kl_go hC (pc' := 1972) (L' := [some (.ref 0), some (.ref 1), some (.ref 2), some (.int x3)]) (st' := [.int (x3 + (1 : Int32)), .ref 0, .ref 1]) 5 rfl ?_
  refine kl_sld hC rfl hi1 ?_
  refine kl_callX hC (as := [.int (xs (x3 + (1 : Int32)).toNatClampNeg)]) (rest := []) rfl klk_L_247 kse_X4_seed rfl rfl rfl rfl (Nat.le_of_ble_eq_true rfl) (Nat.le_of_ble_eq_true rfl) hr hcx ?_
  show kl_R p l e s m below meth c0 D ac adx adm b0 (1976, [some (.ref 0), some (.ref 1), some (.ref 2), some (.int x3)], [.int r1]) _ _
  refine kl_go hC (pc' := 1981) (L' := [some (.ref 0), some (.ref 1), some (.ref 2), some (.int x3)]) (st' := [.int (x3 + (1 : Int32)), .ref 0, .ref 2, .int r1]) 5 rfl ?_
  refine kl_sld hC rfl hi1 ?_
  refine kl_callM hC (as := [.int (xs (x3 + (1 : Int32)).toNatClampNeg)]) (rest := [.int r1]) rfl klk_L_250 kse_X5_seed rfl rfl rfl rfl (Nat.le_of_ble_eq_true rfl) (Nat.le_of_ble_eq_true rfl) hr hcm ?_
  show kl_R p l e s m below meth c0 D ac adx adm b0 (1985, [some (.ref 0), some (.ref 1), some (.ref 2), some (.int x3)], [.int r1, .int r1]) _ _
  refine kl_eq hC rfl ?_
  exact kk _ _ hinv
set_option maxRecDepth 100000 in
set_option maxHeartbeats 4000000 in
theorem kl_case57 {p : Program} {l : Launch} {e : Env} {s : State} {m : MethodId} {below : List Frame} {meth : Method} {c0 : Code} {D : va_G} {ac : Nat → ClassId} {adx adm : Nat → Nat} {b0 Lx : Nat} {xs : Nat → Int32} (hC : kl_C p s m meth c0 D ac adx adm b0 Lx xs) {Inv : kx_M → kx_M → Prop} {Mx Mm : kx_M} (hinv0 : Inv Mx Mm) {x3 : Int32} (hi1 : vp_in (x3 + (1 : Int32)) Lx) (hi2 : vp_in (x3 + (2 : Int32)) Lx) (hi3 : vp_in (x3 + (3 : Int32)) Lx) (hi4 : vp_in (x3 + (4 : Int32)) Lx) (hi5 : vp_in (x3 + (5 : Int32)) Lx) (hs : kl_simI Inv T_X4_image T_X5_image []) (kk : ∀ Mx' Mm', Inv Mx' Mm' → kl_R p l e s m below meth c0 D ac adx adm b0 (2039, [some (.ref 0), some (.ref 1), some (.ref 2), some (.int x3)], []) Mx' Mm') : kl_R p l e s m below meth c0 D ac adx adm b0 (1990, [some (.ref 0), some (.ref 1), some (.ref 2), some (.int x3)], []) Mx Mm := by
  obtain ⟨r1, Mx', Mm', hcx, hcm, hinv⟩ := hs Mx Mm hinv0
  have hr : kl_num (.int r1) := Or.inl ⟨r1, rfl⟩
  refine kl_go hC (pc' := 1991) (L' := [some (.ref 0), some (.ref 1), some (.ref 2), some (.int x3)]) (st' := [.ref 1]) 1 rfl ?_
  refine kl_callX hC (as := []) (rest := []) rfl klk_L_251 kse_X4_image rfl rfl rfl rfl (Nat.le_of_ble_eq_true rfl) (Nat.le_of_ble_eq_true rfl) hr hcx ?_
  show kl_R p l e s m below meth c0 D ac adx adm b0 (1994, [some (.ref 0), some (.ref 1), some (.ref 2), some (.int x3)], [.int r1]) _ _
  refine kl_go hC (pc' := 1995) (L' := [some (.ref 0), some (.ref 1), some (.ref 2), some (.int x3)]) (st' := [.ref 2, .int r1]) 1 rfl ?_
  refine kl_callM hC (as := []) (rest := [.int r1]) rfl klk_L_254 kse_X5_image rfl rfl rfl rfl (Nat.le_of_ble_eq_true rfl) (Nat.le_of_ble_eq_true rfl) hr hcm ?_
  show kl_R p l e s m below meth c0 D ac adx adm b0 (1998, [some (.ref 0), some (.ref 1), some (.ref 2), some (.int x3)], [.int r1, .int r1]) _ _
  refine kl_eq hC rfl ?_
  exact kk _ _ hinv
set_option maxRecDepth 100000 in
set_option maxHeartbeats 4000000 in
theorem kl_case58 {p : Program} {l : Launch} {e : Env} {s : State} {m : MethodId} {below : List Frame} {meth : Method} {c0 : Code} {D : va_G} {ac : Nat → ClassId} {adx adm : Nat → Nat} {b0 Lx : Nat} {xs : Nat → Int32} (hC : kl_C p s m meth c0 D ac adx adm b0 Lx xs) {Inv : kx_M → kx_M → Prop} {Mx Mm : kx_M} (hinv0 : Inv Mx Mm) {x3 : Int32} (hi1 : vp_in (x3 + (1 : Int32)) Lx) (hi2 : vp_in (x3 + (2 : Int32)) Lx) (hi3 : vp_in (x3 + (3 : Int32)) Lx) (hi4 : vp_in (x3 + (4 : Int32)) Lx) (hi5 : vp_in (x3 + (5 : Int32)) Lx) (hs : kl_simI Inv T_X4_back T_X5_back []) (kk : ∀ Mx' Mm', Inv Mx' Mm' → kl_R p l e s m below meth c0 D ac adx adm b0 (2039, [some (.ref 0), some (.ref 1), some (.ref 2), some (.int x3)], []) Mx' Mm') : kl_R p l e s m below meth c0 D ac adx adm b0 (2003, [some (.ref 0), some (.ref 1), some (.ref 2), some (.int x3)], []) Mx Mm := by
  obtain ⟨r1, Mx', Mm', hcx, hcm, hinv⟩ := hs Mx Mm hinv0
  have hr : kl_num (.int r1) := Or.inl ⟨r1, rfl⟩
  refine kl_go hC (pc' := 2004) (L' := [some (.ref 0), some (.ref 1), some (.ref 2), some (.int x3)]) (st' := [.ref 1]) 1 rfl ?_
  refine kl_callX hC (as := []) (rest := []) rfl klk_L_255 kse_X4_back rfl rfl rfl rfl (Nat.le_of_ble_eq_true rfl) (Nat.le_of_ble_eq_true rfl) hr hcx ?_
  show kl_R p l e s m below meth c0 D ac adx adm b0 (2007, [some (.ref 0), some (.ref 1), some (.ref 2), some (.int x3)], [.int r1]) _ _
  refine kl_go hC (pc' := 2008) (L' := [some (.ref 0), some (.ref 1), some (.ref 2), some (.int x3)]) (st' := [.ref 2, .int r1]) 1 rfl ?_
  refine kl_callM hC (as := []) (rest := [.int r1]) rfl klk_L_258 kse_X5_back rfl rfl rfl rfl (Nat.le_of_ble_eq_true rfl) (Nat.le_of_ble_eq_true rfl) hr hcm ?_
  show kl_R p l e s m below meth c0 D ac adx adm b0 (2011, [some (.ref 0), some (.ref 1), some (.ref 2), some (.int x3)], [.int r1, .int r1]) _ _
  refine kl_eq hC rfl ?_
  exact kk _ _ hinv
set_option maxRecDepth 100000 in
set_option maxHeartbeats 4000000 in
theorem kl_case59 {p : Program} {l : Launch} {e : Env} {s : State} {m : MethodId} {below : List Frame} {meth : Method} {c0 : Code} {D : va_G} {ac : Nat → ClassId} {adx adm : Nat → Nat} {b0 Lx : Nat} {xs : Nat → Int32} (hC : kl_C p s m meth c0 D ac adx adm b0 Lx xs) {Inv : kx_M → kx_M → Prop} {Mx Mm : kx_M} (hinv0 : Inv Mx Mm) {x3 : Int32} (hi1 : vp_in (x3 + (1 : Int32)) Lx) (hi2 : vp_in (x3 + (2 : Int32)) Lx) (hi3 : vp_in (x3 + (3 : Int32)) Lx) (hi4 : vp_in (x3 + (4 : Int32)) Lx) (hi5 : vp_in (x3 + (5 : Int32)) Lx) (hs : kl_simI Inv T_X4_status T_X5_status [.int (xs (x3 + (1 : Int32)).toNatClampNeg)]) (kk : ∀ Mx' Mm', Inv Mx' Mm' → kl_R p l e s m below meth c0 D ac adx adm b0 (2039, [some (.ref 0), some (.ref 1), some (.ref 2), some (.int x3)], []) Mx' Mm') : kl_R p l e s m below meth c0 D ac adx adm b0 (2016, [some (.ref 0), some (.ref 1), some (.ref 2), some (.int x3)], []) Mx Mm := by
  obtain ⟨r1, Mx', Mm', hcx, hcm, hinv⟩ := hs Mx Mm hinv0
  have hr : kl_num (.int r1) := Or.inl ⟨r1, rfl⟩
  refine kl_go hC (pc' := 2021) (L' := [some (.ref 0), some (.ref 1), some (.ref 2), some (.int x3)]) (st' := [.int (x3 + (1 : Int32)), .ref 0, .ref 1]) 5 rfl ?_
  refine kl_sld hC rfl hi1 ?_
  refine kl_callX hC (as := [.int (xs (x3 + (1 : Int32)).toNatClampNeg)]) (rest := []) rfl klk_L_259 kse_X4_status rfl rfl rfl rfl (Nat.le_of_ble_eq_true rfl) (Nat.le_of_ble_eq_true rfl) hr hcx ?_
  show kl_R p l e s m below meth c0 D ac adx adm b0 (2025, [some (.ref 0), some (.ref 1), some (.ref 2), some (.int x3)], [.int r1]) _ _
  refine kl_go hC (pc' := 2030) (L' := [some (.ref 0), some (.ref 1), some (.ref 2), some (.int x3)]) (st' := [.int (x3 + (1 : Int32)), .ref 0, .ref 2, .int r1]) 5 rfl ?_
  refine kl_sld hC rfl hi1 ?_
  refine kl_callM hC (as := [.int (xs (x3 + (1 : Int32)).toNatClampNeg)]) (rest := [.int r1]) rfl klk_L_262 kse_X5_status rfl rfl rfl rfl (Nat.le_of_ble_eq_true rfl) (Nat.le_of_ble_eq_true rfl) hr hcm ?_
  show kl_R p l e s m below meth c0 D ac adx adm b0 (2034, [some (.ref 0), some (.ref 1), some (.ref 2), some (.int x3)], [.int r1, .int r1]) _ _
  refine kl_eq hC rfl ?_
  exact kk _ _ hinv
