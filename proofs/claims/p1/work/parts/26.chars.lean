def sn_coder : MethodName := ⟨"java/lang/String", "coder", "()B"⟩
def sc_coder : Cond := Cond.code sn_coder prog_23_method_152_code 1 (some .byte)
set_option maxRecDepth 100000 in
theorem sw_coder : Cond.code sn_coder prog_23_method_152_code 1 (some .byte) ∈ tb_T := tb_in (p := 576) rfl rfl
theorem si_coder : Cond.initialized sn_coder.cls ∈ tb_T := tb_w_of (p := 21) (by decide +kernel)
theorem sm_coder : Cond.instanceMethod sn_coder ∈ tb_T := tb_w_of (p := 574) (by decide +kernel)
theorem sl_coder : Cond.selects "java/lang/String" sn_coder sn_coder ∈ tb_T := tb_w_of (p := 575) (by decide +kernel)
theorem sy_coder : sn_coder.cls ≠ "java/lang/invoke/MethodHandle" ∧ sn_coder.cls ≠ "java/lang/invoke/VarHandle" := by decide +kernel
theorem sf_coder : plainFor sn_coder = true := by decide +kernel
theorem sd_coder_0 : decode prog_23_method_152_code 0 = .ok (.getstatic 38, 3) := by decide +kernel
theorem sd_coder_3 : decode prog_23_method_152_code 3 = .ok (.ifCond .eq 10, 3) := by decide +kernel
theorem sd_coder_6 : decode prog_23_method_152_code 6 = .ok (.aload_n 0, 1) := by decide +kernel
theorem sd_coder_7 : decode prog_23_method_152_code 7 = .ok (.getfield 15, 3) := by decide +kernel
theorem sd_coder_10 : decode prog_23_method_152_code 10 = .ok (.goto 4, 3) := by decide +kernel
theorem sd_coder_13 : decode prog_23_method_152_code 13 = .ok (.iconst 1, 1) := by decide +kernel
theorem sd_coder_14 : decode prog_23_method_152_code 14 = .ok (.ireturn, 1) := by decide +kernel
def sn_lat : MethodName := ⟨"java/lang/String", "isLatin1", "()Z"⟩
def sc_lat : Cond := Cond.code sn_lat prog_23_method_154_code 1 (some .boolean)
set_option maxRecDepth 100000 in
theorem sw_lat : Cond.code sn_lat prog_23_method_154_code 1 (some .boolean) ∈ tb_T := tb_in (p := 586) rfl rfl
theorem si_lat : Cond.initialized sn_lat.cls ∈ tb_T := tb_w_of (p := 21) (by decide +kernel)
theorem sm_lat : Cond.instanceMethod sn_lat ∈ tb_T := tb_w_of (p := 584) (by decide +kernel)
theorem sl_lat : Cond.selects "java/lang/String" sn_lat sn_lat ∈ tb_T := tb_w_of (p := 585) (by decide +kernel)
theorem sy_lat : sn_lat.cls ≠ "java/lang/invoke/MethodHandle" ∧ sn_lat.cls ≠ "java/lang/invoke/VarHandle" := by decide +kernel
theorem sf_lat : plainFor sn_lat = true := by decide +kernel
theorem sd_lat_0 : decode prog_23_method_154_code 0 = .ok (.getstatic 38, 3) := by decide +kernel
theorem sd_lat_3 : decode prog_23_method_154_code 3 = .ok (.ifCond .eq 14, 3) := by decide +kernel
theorem sd_lat_6 : decode prog_23_method_154_code 6 = .ok (.aload_n 0, 1) := by decide +kernel
theorem sd_lat_7 : decode prog_23_method_154_code 7 = .ok (.getfield 15, 3) := by decide +kernel
theorem sd_lat_10 : decode prog_23_method_154_code 10 = .ok (.ifCond .ne 7, 3) := by decide +kernel
theorem sd_lat_13 : decode prog_23_method_154_code 13 = .ok (.iconst 1, 1) := by decide +kernel
theorem sd_lat_14 : decode prog_23_method_154_code 14 = .ok (.goto 4, 3) := by decide +kernel
theorem sd_lat_17 : decode prog_23_method_154_code 17 = .ok (.iconst 0, 1) := by decide +kernel
theorem sd_lat_18 : decode prog_23_method_154_code 18 = .ok (.ireturn, 1) := by decide +kernel
def sn_len : MethodName := ⟨"java/lang/String", "length", "()I"⟩
def sc_len : Cond := Cond.code sn_len prog_23_method_54_code 1 (some .int)
set_option maxRecDepth 100000 in
theorem sw_len : Cond.code sn_len prog_23_method_54_code 1 (some .int) ∈ tb_T := tb_in (p := 572) rfl rfl
theorem si_len : Cond.initialized sn_len.cls ∈ tb_T := tb_w_of (p := 21) (by decide +kernel)
theorem sm_len : Cond.instanceMethod sn_len ∈ tb_T := tb_w_of (p := 570) (by decide +kernel)
theorem sl_len : Cond.selects "java/lang/String" sn_len sn_len ∈ tb_T := tb_w_of (p := 571) (by decide +kernel)
theorem sy_len : sn_len.cls ≠ "java/lang/invoke/MethodHandle" ∧ sn_len.cls ≠ "java/lang/invoke/VarHandle" := by decide +kernel
theorem sf_len : plainFor sn_len = true := by decide +kernel
theorem sd_len_0 : decode prog_23_method_54_code 0 = .ok (.aload_n 0, 1) := by decide +kernel
theorem sd_len_1 : decode prog_23_method_54_code 1 = .ok (.getfield 9, 3) := by decide +kernel
theorem sd_len_4 : decode prog_23_method_54_code 4 = .ok (.arraylength, 1) := by decide +kernel
theorem sd_len_5 : decode prog_23_method_54_code 5 = .ok (.aload_n 0, 1) := by decide +kernel
theorem sd_len_6 : decode prog_23_method_54_code 6 = .ok (.invokevirtual 335, 3) := by decide +kernel
theorem sd_len_9 : decode prog_23_method_54_code 9 = .ok (.ishr, 1) := by decide +kernel
theorem sd_len_10 : decode prog_23_method_54_code 10 = .ok (.ireturn, 1) := by decide +kernel
def sn_pci : MethodName := ⟨"jdk/internal/util/Preconditions", "checkIndex", "(IILjava/util/function/BiFunction;)I"⟩
def sc_pci : Cond := Cond.code sn_pci prog_29_method_11_code 3 (some .int)
set_option maxRecDepth 100000 in
theorem sw_pci : Cond.code sn_pci prog_29_method_11_code 3 (some .int) ∈ tb_T := tb_in (p := 597) rfl rfl
theorem si_pci : Cond.initialized sn_pci.cls ∈ tb_T := tb_w_of (p := 23) (by decide +kernel)
theorem ss_pci : Cond.static sn_pci ∈ tb_T := tb_w_of (p := 596) (by decide +kernel)
theorem sy_pci : sn_pci.cls ≠ "java/lang/invoke/MethodHandle" ∧ sn_pci.cls ≠ "java/lang/invoke/VarHandle" := by decide +kernel
theorem sf_pci : plainFor sn_pci = true := by decide +kernel
theorem sd_pci_0 : decode prog_29_method_11_code 0 = .ok (.iload_n 0, 1) := by decide +kernel
theorem sd_pci_1 : decode prog_29_method_11_code 1 = .ok (.ifCond .lt 8, 3) := by decide +kernel
theorem sd_pci_4 : decode prog_29_method_11_code 4 = .ok (.iload_n 0, 1) := by decide +kernel
theorem sd_pci_5 : decode prog_29_method_11_code 5 = .ok (.iload_n 1, 1) := by decide +kernel
theorem sd_pci_6 : decode prog_29_method_11_code 6 = .ok (.if_icmp .lt 10, 3) := by decide +kernel
theorem sd_pci_9 : decode prog_29_method_11_code 9 = .ok (.aload_n 2, 1) := by decide +kernel
theorem sd_pci_10 : decode prog_29_method_11_code 10 = .ok (.iload_n 0, 1) := by decide +kernel
theorem sd_pci_11 : decode prog_29_method_11_code 11 = .ok (.iload_n 1, 1) := by decide +kernel
theorem sd_pci_12 : decode prog_29_method_11_code 12 = .ok (.invokestatic 95, 3) := by decide +kernel
theorem sd_pci_15 : decode prog_29_method_11_code 15 = .ok (.athrow, 1) := by decide +kernel
theorem sd_pci_16 : decode prog_29_method_11_code 16 = .ok (.iload_n 0, 1) := by decide +kernel
theorem sd_pci_17 : decode prog_29_method_11_code 17 = .ok (.ireturn, 1) := by decide +kernel
def sn_ci : MethodName := ⟨"java/lang/String", "checkIndex", "(II)V"⟩
def sc_ci : Cond := Cond.code sn_ci prog_23_method_155_code 2 none
set_option maxRecDepth 100000 in
theorem sw_ci : Cond.code sn_ci prog_23_method_155_code 2 none ∈ tb_T := tb_in (p := 592) rfl rfl
theorem si_ci : Cond.initialized sn_ci.cls ∈ tb_T := tb_w_of (p := 21) (by decide +kernel)
theorem ss_ci : Cond.static sn_ci ∈ tb_T := tb_w_of (p := 591) (by decide +kernel)
theorem sy_ci : sn_ci.cls ≠ "java/lang/invoke/MethodHandle" ∧ sn_ci.cls ≠ "java/lang/invoke/VarHandle" := by decide +kernel
theorem sf_ci : plainFor sn_ci = true := by decide +kernel
theorem sd_ci_0 : decode prog_23_method_155_code 0 = .ok (.iload_n 0, 1) := by decide +kernel
theorem sd_ci_1 : decode prog_23_method_155_code 1 = .ok (.iload_n 1, 1) := by decide +kernel
theorem sd_ci_2 : decode prog_23_method_155_code 2 = .ok (.getstatic 1053, 3) := by decide +kernel
theorem sd_ci_5 : decode prog_23_method_155_code 5 = .ok (.invokestatic 1059, 3) := by decide +kernel
theorem sd_ci_8 : decode prog_23_method_155_code 8 = .ok (.pop, 1) := by decide +kernel
theorem sd_ci_9 : decode prog_23_method_155_code 9 = .ok (.return_, 1) := by decide +kernel
def sn_lca : MethodName := ⟨"java/lang/StringLatin1", "charAt", "([BI)C"⟩
def sc_lca : Cond := Cond.code sn_lca prog_24_method_2_code 2 (some .char)
set_option maxRecDepth 100000 in
theorem sw_lca : Cond.code sn_lca prog_24_method_2_code 2 (some .char) ∈ tb_T := tb_in (p := 589) rfl rfl
theorem si_lca : Cond.initialized sn_lca.cls ∈ tb_T := tb_w_of (p := 22) (by decide +kernel)
theorem ss_lca : Cond.static sn_lca ∈ tb_T := tb_w_of (p := 588) (by decide +kernel)
theorem sy_lca : sn_lca.cls ≠ "java/lang/invoke/MethodHandle" ∧ sn_lca.cls ≠ "java/lang/invoke/VarHandle" := by decide +kernel
theorem sf_lca : plainFor sn_lca = true := by decide +kernel
theorem sd_lca_0 : decode prog_24_method_2_code 0 = .ok (.iload_n 1, 1) := by decide +kernel
theorem sd_lca_1 : decode prog_24_method_2_code 1 = .ok (.aload_n 0, 1) := by decide +kernel
theorem sd_lca_2 : decode prog_24_method_2_code 2 = .ok (.arraylength, 1) := by decide +kernel
theorem sd_lca_3 : decode prog_24_method_2_code 3 = .ok (.invokestatic 9, 3) := by decide +kernel
theorem sd_lca_6 : decode prog_24_method_2_code 6 = .ok (.aload_n 0, 1) := by decide +kernel
theorem sd_lca_7 : decode prog_24_method_2_code 7 = .ok (.iload_n 1, 1) := by decide +kernel
theorem sd_lca_8 : decode prog_24_method_2_code 8 = .ok (.baload, 1) := by decide +kernel
theorem sd_lca_9 : decode prog_24_method_2_code 9 = .ok (.sipush 255, 3) := by decide +kernel
theorem sd_lca_12 : decode prog_24_method_2_code 12 = .ok (.iand, 1) := by decide +kernel
theorem sd_lca_13 : decode prog_24_method_2_code 13 = .ok (.i2c, 1) := by decide +kernel
theorem sd_lca_14 : decode prog_24_method_2_code 14 = .ok (.ireturn, 1) := by decide +kernel
def sn_ca : MethodName := ⟨"java/lang/String", "charAt", "(I)C"⟩
def sc_ca : Cond := Cond.code sn_ca prog_23_method_56_code 2 (some .char)
set_option maxRecDepth 100000 in
theorem sw_ca : Cond.code sn_ca prog_23_method_56_code 2 (some .char) ∈ tb_T := tb_in (p := 582) rfl rfl
theorem si_ca : Cond.initialized sn_ca.cls ∈ tb_T := tb_w_of (p := 21) (by decide +kernel)
theorem sm_ca : Cond.instanceMethod sn_ca ∈ tb_T := tb_w_of (p := 580) (by decide +kernel)
theorem sl_ca : Cond.selects "java/lang/String" sn_ca sn_ca ∈ tb_T := tb_w_of (p := 581) (by decide +kernel)
theorem sy_ca : sn_ca.cls ≠ "java/lang/invoke/MethodHandle" ∧ sn_ca.cls ≠ "java/lang/invoke/VarHandle" := by decide +kernel
theorem sf_ca : plainFor sn_ca = true := by decide +kernel
theorem sd_ca_0 : decode prog_23_method_56_code 0 = .ok (.aload_n 0, 1) := by decide +kernel
theorem sd_ca_1 : decode prog_23_method_56_code 1 = .ok (.invokevirtual 492, 3) := by decide +kernel
theorem sd_ca_4 : decode prog_23_method_56_code 4 = .ok (.ifCond .eq 12, 3) := by decide +kernel
theorem sd_ca_7 : decode prog_23_method_56_code 7 = .ok (.aload_n 0, 1) := by decide +kernel
theorem sd_ca_8 : decode prog_23_method_56_code 8 = .ok (.getfield 9, 3) := by decide +kernel
theorem sd_ca_11 : decode prog_23_method_56_code 11 = .ok (.iload_n 1, 1) := by decide +kernel
theorem sd_ca_12 : decode prog_23_method_56_code 12 = .ok (.invokestatic 495, 3) := by decide +kernel
theorem sd_ca_15 : decode prog_23_method_56_code 15 = .ok (.ireturn, 1) := by decide +kernel
theorem sd_ca_16 : decode prog_23_method_56_code 16 = .ok (.aload_n 0, 1) := by decide +kernel
theorem sd_ca_17 : decode prog_23_method_56_code 17 = .ok (.getfield 9, 3) := by decide +kernel
theorem sd_ca_20 : decode prog_23_method_56_code 20 = .ok (.iload_n 1, 1) := by decide +kernel
theorem sd_ca_21 : decode prog_23_method_56_code 21 = .ok (.invokestatic 498, 3) := by decide +kernel
theorem sd_ca_24 : decode prog_23_method_56_code 24 = .ok (.ireturn, 1) := by decide +kernel
def sn_enc : MethodName := ⟨"java/lang/StringLatin1", "canEncode", "(I)Z"⟩
def sc_enc : Cond := Cond.code sn_enc prog_24_method_4_code 1 (some .boolean)
set_option maxRecDepth 100000 in
theorem sw_enc : Cond.code sn_enc prog_24_method_4_code 1 (some .boolean) ∈ tb_T := tb_in (p := 644) rfl rfl
theorem si_enc : Cond.initialized sn_enc.cls ∈ tb_T := tb_w_of (p := 22) (by decide +kernel)
theorem ss_enc : Cond.static sn_enc ∈ tb_T := tb_w_of (p := 643) (by decide +kernel)
theorem sy_enc : sn_enc.cls ≠ "java/lang/invoke/MethodHandle" ∧ sn_enc.cls ≠ "java/lang/invoke/VarHandle" := by decide +kernel
theorem sf_enc : plainFor sn_enc = true := by decide +kernel
theorem sd_enc_0 : decode prog_24_method_4_code 0 = .ok (.iload_n 0, 1) := by decide +kernel
theorem sd_enc_1 : decode prog_24_method_4_code 1 = .ok (.ifCond .lt 14, 3) := by decide +kernel
theorem sd_enc_4 : decode prog_24_method_4_code 4 = .ok (.iload_n 0, 1) := by decide +kernel
theorem sd_enc_5 : decode prog_24_method_4_code 5 = .ok (.sipush 255, 3) := by decide +kernel
theorem sd_enc_8 : decode prog_24_method_4_code 8 = .ok (.if_icmp .gt 7, 3) := by decide +kernel
theorem sd_enc_11 : decode prog_24_method_4_code 11 = .ok (.iconst 1, 1) := by decide +kernel
theorem sd_enc_12 : decode prog_24_method_4_code 12 = .ok (.goto 4, 3) := by decide +kernel
theorem sd_enc_15 : decode prog_24_method_4_code 15 = .ok (.iconst 0, 1) := by decide +kernel
theorem sd_enc_16 : decode prog_24_method_4_code 16 = .ok (.ireturn, 1) := by decide +kernel
def sn_ioc : MethodName := ⟨"java/lang/StringLatin1", "indexOfChar", "([BIII)I"⟩
def sc_ioc : Cond := Cond.code sn_ioc prog_24_method_23_code 6 (some .int)
set_option maxRecDepth 100000 in
theorem sw_ioc : Cond.code sn_ioc prog_24_method_23_code 6 (some .int) ∈ tb_T := tb_in (p := 651) rfl rfl
theorem si_ioc : Cond.initialized sn_ioc.cls ∈ tb_T := tb_w_of (p := 22) (by decide +kernel)
theorem ss_ioc : Cond.static sn_ioc ∈ tb_T := tb_w_of (p := 650) (by decide +kernel)
theorem sy_ioc : sn_ioc.cls ≠ "java/lang/invoke/MethodHandle" ∧ sn_ioc.cls ≠ "java/lang/invoke/VarHandle" := by decide +kernel
theorem sf_ioc : plainFor sn_ioc = true := by decide +kernel
theorem sd_ioc_0 : decode prog_24_method_23_code 0 = .ok (.iload_n 1, 1) := by decide +kernel
theorem sd_ioc_1 : decode prog_24_method_23_code 1 = .ok (.i2b, 1) := by decide +kernel
theorem sd_ioc_2 : decode prog_24_method_23_code 2 = .ok (.istore 4, 2) := by decide +kernel
theorem sd_ioc_4 : decode prog_24_method_23_code 4 = .ok (.iload_n 2, 1) := by decide +kernel
theorem sd_ioc_5 : decode prog_24_method_23_code 5 = .ok (.istore 5, 2) := by decide +kernel
theorem sd_ioc_7 : decode prog_24_method_23_code 7 = .ok (.iload 5, 2) := by decide +kernel
theorem sd_ioc_9 : decode prog_24_method_23_code 9 = .ok (.iload_n 3, 1) := by decide +kernel
theorem sd_ioc_10 : decode prog_24_method_23_code 10 = .ok (.if_icmp .ge 21, 3) := by decide +kernel
theorem sd_ioc_13 : decode prog_24_method_23_code 13 = .ok (.aload_n 0, 1) := by decide +kernel
theorem sd_ioc_14 : decode prog_24_method_23_code 14 = .ok (.iload 5, 2) := by decide +kernel
theorem sd_ioc_16 : decode prog_24_method_23_code 16 = .ok (.baload, 1) := by decide +kernel
theorem sd_ioc_17 : decode prog_24_method_23_code 17 = .ok (.iload 4, 2) := by decide +kernel
theorem sd_ioc_19 : decode prog_24_method_23_code 19 = .ok (.if_icmp .ne 6, 3) := by decide +kernel
theorem sd_ioc_22 : decode prog_24_method_23_code 22 = .ok (.iload 5, 2) := by decide +kernel
theorem sd_ioc_24 : decode prog_24_method_23_code 24 = .ok (.ireturn, 1) := by decide +kernel
theorem sd_ioc_25 : decode prog_24_method_23_code 25 = .ok (.iinc 5 1, 3) := by decide +kernel
theorem sd_ioc_28 : decode prog_24_method_23_code 28 = .ok (.goto (-21), 3) := by decide +kernel
theorem sd_ioc_31 : decode prog_24_method_23_code 31 = .ok (.iconst (-1), 1) := by decide +kernel
theorem sd_ioc_32 : decode prog_24_method_23_code 32 = .ok (.ireturn, 1) := by decide +kernel
def sn_lio : MethodName := ⟨"java/lang/StringLatin1", "indexOf", "([BIII)I"⟩
def sc_lio : Cond := Cond.code sn_lio prog_24_method_22_code 4 (some .int)
set_option maxRecDepth 100000 in
theorem sw_lio : Cond.code sn_lio prog_24_method_22_code 4 (some .int) ∈ tb_T := tb_in (p := 641) rfl rfl
theorem si_lio : Cond.initialized sn_lio.cls ∈ tb_T := tb_w_of (p := 22) (by decide +kernel)
theorem ss_lio : Cond.static sn_lio ∈ tb_T := tb_w_of (p := 640) (by decide +kernel)
theorem sy_lio : sn_lio.cls ≠ "java/lang/invoke/MethodHandle" ∧ sn_lio.cls ≠ "java/lang/invoke/VarHandle" := by decide +kernel
theorem sf_lio : plainFor sn_lio = true := by decide +kernel
theorem sd_lio_0 : decode prog_24_method_22_code 0 = .ok (.iload_n 1, 1) := by decide +kernel
theorem sd_lio_1 : decode prog_24_method_22_code 1 = .ok (.invokestatic 88, 3) := by decide +kernel
theorem sd_lio_4 : decode prog_24_method_22_code 4 = .ok (.ifCond .ne 5, 3) := by decide +kernel
theorem sd_lio_7 : decode prog_24_method_22_code 7 = .ok (.iconst (-1), 1) := by decide +kernel
theorem sd_lio_8 : decode prog_24_method_22_code 8 = .ok (.ireturn, 1) := by decide +kernel
theorem sd_lio_9 : decode prog_24_method_22_code 9 = .ok (.iload_n 2, 1) := by decide +kernel
theorem sd_lio_10 : decode prog_24_method_22_code 10 = .ok (.iconst 0, 1) := by decide +kernel
theorem sd_lio_11 : decode prog_24_method_22_code 11 = .ok (.invokestatic 92, 3) := by decide +kernel
theorem sd_lio_14 : decode prog_24_method_22_code 14 = .ok (.istore_n 2, 1) := by decide +kernel
theorem sd_lio_15 : decode prog_24_method_22_code 15 = .ok (.iload_n 3, 1) := by decide +kernel
theorem sd_lio_16 : decode prog_24_method_22_code 16 = .ok (.aload_n 0, 1) := by decide +kernel
theorem sd_lio_17 : decode prog_24_method_22_code 17 = .ok (.arraylength, 1) := by decide +kernel
theorem sd_lio_18 : decode prog_24_method_22_code 18 = .ok (.invokestatic 38, 3) := by decide +kernel
theorem sd_lio_21 : decode prog_24_method_22_code 21 = .ok (.istore_n 3, 1) := by decide +kernel
theorem sd_lio_22 : decode prog_24_method_22_code 22 = .ok (.iload_n 2, 1) := by decide +kernel
theorem sd_lio_23 : decode prog_24_method_22_code 23 = .ok (.iload_n 3, 1) := by decide +kernel
theorem sd_lio_24 : decode prog_24_method_22_code 24 = .ok (.if_icmp .lt 5, 3) := by decide +kernel
theorem sd_lio_27 : decode prog_24_method_22_code 27 = .ok (.iconst (-1), 1) := by decide +kernel
theorem sd_lio_28 : decode prog_24_method_22_code 28 = .ok (.ireturn, 1) := by decide +kernel
theorem sd_lio_29 : decode prog_24_method_22_code 29 = .ok (.aload_n 0, 1) := by decide +kernel
theorem sd_lio_30 : decode prog_24_method_22_code 30 = .ok (.iload_n 1, 1) := by decide +kernel
theorem sd_lio_31 : decode prog_24_method_22_code 31 = .ok (.iload_n 2, 1) := by decide +kernel
theorem sd_lio_32 : decode prog_24_method_22_code 32 = .ok (.iload_n 3, 1) := by decide +kernel
theorem sd_lio_33 : decode prog_24_method_22_code 33 = .ok (.invokestatic 95, 3) := by decide +kernel
theorem sd_lio_36 : decode prog_24_method_22_code 36 = .ok (.ireturn, 1) := by decide +kernel
def sn_io2 : MethodName := ⟨"java/lang/String", "indexOf", "(II)I"⟩
def sc_io2 : Cond := Cond.code sn_io2 prog_23_method_80_code 3 (some .int)
set_option maxRecDepth 100000 in
theorem sw_io2 : Cond.code sn_io2 prog_23_method_80_code 3 (some .int) ∈ tb_T := tb_in (p := 637) rfl rfl
theorem si_io2 : Cond.initialized sn_io2.cls ∈ tb_T := tb_w_of (p := 21) (by decide +kernel)
theorem sm_io2 : Cond.instanceMethod sn_io2 ∈ tb_T := tb_w_of (p := 635) (by decide +kernel)
theorem sl_io2 : Cond.selects "java/lang/String" sn_io2 sn_io2 ∈ tb_T := tb_w_of (p := 636) (by decide +kernel)
theorem sy_io2 : sn_io2.cls ≠ "java/lang/invoke/MethodHandle" ∧ sn_io2.cls ≠ "java/lang/invoke/VarHandle" := by decide +kernel
theorem sf_io2 : plainFor sn_io2 = true := by decide +kernel
theorem sd_io2_0 : decode prog_23_method_80_code 0 = .ok (.aload_n 0, 1) := by decide +kernel
theorem sd_io2_1 : decode prog_23_method_80_code 1 = .ok (.invokevirtual 492, 3) := by decide +kernel
theorem sd_io2_4 : decode prog_23_method_80_code 4 = .ok (.ifCond .eq 19, 3) := by decide +kernel
theorem sd_io2_7 : decode prog_23_method_80_code 7 = .ok (.aload_n 0, 1) := by decide +kernel
theorem sd_io2_8 : decode prog_23_method_80_code 8 = .ok (.getfield 9, 3) := by decide +kernel
theorem sd_io2_11 : decode prog_23_method_80_code 11 = .ok (.iload_n 1, 1) := by decide +kernel
theorem sd_io2_12 : decode prog_23_method_80_code 12 = .ok (.iload_n 2, 1) := by decide +kernel
theorem sd_io2_13 : decode prog_23_method_80_code 13 = .ok (.aload_n 0, 1) := by decide +kernel
theorem sd_io2_14 : decode prog_23_method_80_code 14 = .ok (.invokevirtual 505, 3) := by decide +kernel
theorem sd_io2_17 : decode prog_23_method_80_code 17 = .ok (.invokestatic 637, 3) := by decide +kernel
theorem sd_io2_20 : decode prog_23_method_80_code 20 = .ok (.goto 16, 3) := by decide +kernel
theorem sd_io2_23 : decode prog_23_method_80_code 23 = .ok (.aload_n 0, 1) := by decide +kernel
theorem sd_io2_24 : decode prog_23_method_80_code 24 = .ok (.getfield 9, 3) := by decide +kernel
theorem sd_io2_27 : decode prog_23_method_80_code 27 = .ok (.iload_n 1, 1) := by decide +kernel
theorem sd_io2_28 : decode prog_23_method_80_code 28 = .ok (.iload_n 2, 1) := by decide +kernel
theorem sd_io2_29 : decode prog_23_method_80_code 29 = .ok (.aload_n 0, 1) := by decide +kernel
theorem sd_io2_30 : decode prog_23_method_80_code 30 = .ok (.invokevirtual 505, 3) := by decide +kernel
theorem sd_io2_33 : decode prog_23_method_80_code 33 = .ok (.invokestatic 640, 3) := by decide +kernel
theorem sd_io2_36 : decode prog_23_method_80_code 36 = .ok (.ireturn, 1) := by decide +kernel
def sn_io : MethodName := ⟨"java/lang/String", "indexOf", "(I)I"⟩
def sc_io : Cond := Cond.code sn_io prog_23_method_79_code 2 (some .int)
set_option maxRecDepth 100000 in
theorem sw_io : Cond.code sn_io prog_23_method_79_code 2 (some .int) ∈ tb_T := tb_in (p := 633) rfl rfl
theorem si_io : Cond.initialized sn_io.cls ∈ tb_T := tb_w_of (p := 21) (by decide +kernel)
theorem sm_io : Cond.instanceMethod sn_io ∈ tb_T := tb_w_of (p := 631) (by decide +kernel)
theorem sl_io : Cond.selects "java/lang/String" sn_io sn_io ∈ tb_T := tb_w_of (p := 632) (by decide +kernel)
theorem sy_io : sn_io.cls ≠ "java/lang/invoke/MethodHandle" ∧ sn_io.cls ≠ "java/lang/invoke/VarHandle" := by decide +kernel
theorem sf_io : plainFor sn_io = true := by decide +kernel
theorem sd_io_0 : decode prog_23_method_79_code 0 = .ok (.aload_n 0, 1) := by decide +kernel
theorem sd_io_1 : decode prog_23_method_79_code 1 = .ok (.iload_n 1, 1) := by decide +kernel
theorem sd_io_2 : decode prog_23_method_79_code 2 = .ok (.iconst 0, 1) := by decide +kernel
theorem sd_io_3 : decode prog_23_method_79_code 3 = .ok (.invokevirtual 633, 3) := by decide +kernel
theorem sd_io_6 : decode prog_23_method_79_code 6 = .ok (.ireturn, 1) := by decide +kernel
section SXC
variable {l : Launch} {A : Nat → Prop} {adK adV : Nat → Nat}
theorem sv_coder {i : Nat} (hi : i < 19) : Met l sn_coder (Cond.code sn_coder prog_23_method_152_code 1 (some .byte) :: tb_T) (k2_rm 0 0) (sx_P A adK adV [.ref (adK i)]) (sx_Q (some (.int 0))) 0 0 (fun _ => False) := by
  refine sx_met sf_coder (Nat.le_of_ble_eq_true rfl) ?_
  intro p e s m below meth c ls S hr hlk hG hl
  obtain ⟨hx, hb, hml, hown, hts⟩ := id S
  refine va_gets hx hb hG.2.2.2.2.2.1 va_S.rf hown (hts _ (tb_w_of (p := 577) (by decide +kernel))) (fun _ h => h) sd_coder_0 ?_
  refine sx hx hb sd_coder_3 rfl hl (fun ls hl => ?_)
  refine sx hx hb sd_coder_6 rfl hl (fun ls hl => ?_)
  refine vk_getf hx hb (hG.1.1 i hi).2.1 va_S.rf hown (hts _ (tb_w_of (p := 1910) (by decide +kernel))) (fun _ h => h) sd_coder_7 ?_
  refine sx hx hb sd_coder_10 rfl hl (fun ls hl => ?_)
  exact W.zret hx hb hr rfl (fun t ht hW => ⟨rfl, ht⟩) (fun q hq => nomatch hq) sd_coder_14
theorem sv_lat {i : Nat} (hi : i < 19) : Met l sn_lat (Cond.code sn_lat prog_23_method_154_code 1 (some .boolean) :: tb_T) (k2_rm 0 0) (sx_P A adK adV [.ref (adK i)]) (sx_Q (some (.int 1))) 0 0 (fun _ => False) := by
  refine sx_met sf_lat (Nat.le_of_ble_eq_true rfl) ?_
  intro p e s m below meth c ls S hr hlk hG hl
  obtain ⟨hx, hb, hml, hown, hts⟩ := id S
  refine va_gets hx hb hG.2.2.2.2.2.1 va_S.rf hown (hts _ (tb_w_of (p := 577) (by decide +kernel))) (fun _ h => h) sd_lat_0 ?_
  refine sx hx hb sd_lat_3 rfl hl (fun ls hl => ?_)
  refine sx hx hb sd_lat_6 rfl hl (fun ls hl => ?_)
  refine vk_getf hx hb (hG.1.1 i hi).2.1 va_S.rf hown (hts _ (tb_w_of (p := 1910) (by decide +kernel))) (fun _ h => h) sd_lat_7 ?_
  refine sx hx hb sd_lat_10 rfl hl (fun ls hl => ?_)
  refine sx hx hb sd_lat_13 rfl hl (fun ls hl => ?_)
  refine sx hx hb sd_lat_14 rfl hl (fun ls hl => ?_)
  exact W.zret hx hb hr rfl (fun t ht hW => ⟨rfl, ht⟩) (fun q hq => nomatch hq) sd_lat_18
theorem sv_len {i : Nat} (hi : i < 19) : Met l sn_len (Cond.code sn_len prog_23_method_54_code 1 (some .int) :: tb_T) (k2_rm 1 20) (sx_P A adK adV [.ref (adK i)]) (sx_Q (some (.int (nI (ts_len.getD i 0))))) 0 0 (fun _ => False) := by
  refine sx_met sf_len (Nat.le_of_ble_eq_true rfl) ?_
  intro p e s m below meth c ls S hr hlk hG hl
  obtain ⟨hx, hb, hml, hown, hts⟩ := id S
  refine sx hx hb sd_len_0 rfl hl (fun ls hl => ?_)
  refine vk_getf hx hb (hG.1.1 i hi).2.2.1 va_S.rf hown (hts _ (tb_w_of (p := 1909) (by decide +kernel))) (fun _ h => h) sd_len_1 ?_
  refine va_tlen hx hb (hG.1.1 i hi).2.2.2 va_S.rf rfl sd_len_4 ?_
  refine sx hx hb sd_len_5 rfl hl (fun ls hl => ?_)
  refine sx_callV (As := []) S hG va_S.rf hi (sv_coder hi) sw_coder si_coder (tb_w_of (p := 573) (by decide +kernel)) sm_coder sl_coder sy_coder rfl rfl ⟨by decide, by decide⟩ hl.1 (Nat.le_of_ble_eq_true rfl) (Nat.zero_le _) (Nat.zero_le _) sd_len_6 ?_
  refine sx hx hb sd_len_9 rfl hl (fun ls hl => ?_)
  have e9 : Int32.ofNat (ts_len.getD i 0) >>> ((0 : Int32) &&& 31) = nI (ts_len.getD i 0) := sb_shr0 _
  rw [e9]
  exact W.zret hx hb hr rfl (fun t ht hW => ⟨rfl, ht⟩) (fun q hq => nomatch hq) sd_len_10
theorem sv_pci {k n : Nat} {f : Value} (hf : f = .null ∨ ∃ t, f = .ref t) (hk : k < n) (hn : n < 2 ^ 31) : Met l sn_pci (Cond.code sn_pci prog_29_method_11_code 3 (some .int) :: tb_T) (k2_rm 0 0) (sx_P A adK adV [.int (nI k), .int (nI n), f]) (sx_Q (some (.int (nI k)))) 0 0 (fun _ => False) := by
  refine sx_met sf_pci (by rcases hf with rfl | ⟨t, rfl⟩ <;> exact Nat.le_of_ble_eq_true rfl) ?_
  intro p e s m below meth c ls S hr hlk hG hl
  obtain ⟨hx, hb, hml, hown, hts⟩ := id S
  refine sx hx hb sd_pci_0 rfl hl (fun ls hl => ?_)
  refine sx (pc' := 4) hx hb sd_pci_1 (by
    show some ((if nI k < 0 then 9 else 1 + 3 : Nat), _, _) = _
    rw [if_neg (nI_pos (by omega))]) hl (fun ls hl => ?_)
  refine sx hx hb sd_pci_4 rfl hl (fun ls hl => ?_)
  refine sx hx hb sd_pci_5 rfl hl (fun ls hl => ?_)
  refine sx (pc' := 16) hx hb sd_pci_6 (by
    show some ((if nI k < nI n then 16 else 6 + 3 : Nat), _, _) = _
    rw [if_pos (nI_lt hk hn)]) hl (fun ls hl => ?_)
  refine sx hx hb sd_pci_16 rfl hl (fun ls hl => ?_)
  exact W.zret hx hb hr rfl (fun t ht hW => ⟨rfl, ht⟩) (fun q hq => nomatch hq) sd_pci_17
theorem sv_ci {k n : Nat} (hk : k < n) (hn : n < 2 ^ 31) : Met l sn_ci (Cond.code sn_ci prog_23_method_155_code 2 none :: tb_T) (k2_rm 1 22) (sx_P A adK adV [.int (nI k), .int (nI n)]) (sx_Q none) 0 0 (fun _ => False) := by
  refine sx_met sf_ci (Nat.le_of_ble_eq_true rfl) ?_
  intro p e s m below meth c ls S hr hlk hG hl
  obtain ⟨hx, hb, hml, hown, hts⟩ := id S
  obtain ⟨f, hf, hZ⟩ : ∃ f, (f = .null ∨ ∃ t, f = .ref t) ∧ va_Z "jdk/internal/util/Preconditions" "SIOOBE_FORMATTER" "Ljava/util/function/BiFunction;" f A s s.heap := by
    rcases hG.2.2.2.2.2.2 with h | ⟨t, h⟩
    · exact ⟨_, Or.inl rfl, h⟩
    · exact ⟨_, Or.inr ⟨t, rfl⟩, h⟩
  refine sx hx hb sd_ci_0 rfl hl (fun ls hl => ?_)
  refine sx hx hb sd_ci_1 rfl hl (fun ls hl => ?_)
  refine va_gets hx hb hZ va_S.rf hown (hts _ (tb_w_of (p := 593) (by decide +kernel))) (fun _ h => h) sd_ci_2 ?_
  refine sx_callS (As := [.int (nI k), .int (nI n), f]) (rest := []) S hG va_S.rf (sv_pci hf hk hn) sw_pci si_pci (tb_w_of (p := 595) (by decide +kernel)) ss_pci sy_pci rfl rfl ⟨by decide, by decide⟩ hl.1 (Nat.le_of_ble_eq_true rfl) (Nat.zero_le _) (Nat.zero_le _) sd_ci_5 ?_
  refine sx hx hb sd_ci_8 rfl hl (fun ls hl => ?_)
  exact W.vret hx hb hr (fun t ht hW => ⟨rfl, ht⟩) (fun q hq => nomatch hq) sd_ci_9
/-- the byte at k -/
def ts_ch (i k : Nat) : Int32 := (ts_byt.getD i []).getD k 0
theorem sv_lca {i k : Nat} (hi : i < 19) (hk : k < ts_len.getD i 0) (hn : ts_len.getD i 0 < 2 ^ 31) : Met l sn_lca (Cond.code sn_lca prog_24_method_2_code 2 (some .char) :: tb_T) (k2_rm 2 43) (sx_P A adK adV [.ref (adV i), .int (nI k)]) (sx_Q (some (.int (((ts_ch i k &&& 255).toUInt32 % 65536).toInt32)))) 0 0 (fun _ => False) := by
  refine sx_met sf_lca (Nat.le_of_ble_eq_true rfl) ?_
  intro p e s m below meth c ls S hr hlk hG hl
  obtain ⟨hx, hb, hml, hown, hts⟩ := id S
  refine sx hx hb sd_lca_0 rfl hl (fun ls hl => ?_)
  refine sx hx hb sd_lca_1 rfl hl (fun ls hl => ?_)
  refine va_tlen hx hb (hG.1.1 i hi).2.2.2 va_S.rf rfl sd_lca_2 ?_
  refine sx_callS (As := [.int (nI k), .int (nI (ts_len.getD i 0))]) (rest := []) S hG va_S.rf (sv_ci hk hn) sw_ci si_ci (tb_w_of (p := 590) (by decide +kernel)) ss_ci sy_ci rfl rfl ⟨by decide, by decide⟩ hl.1 (Nat.le_of_ble_eq_true rfl) (Nat.zero_le _) (Nat.zero_le _) sd_lca_3 ?_
  refine sx hx hb sd_lca_6 rfl hl (fun ls hl => ?_)
  refine sx hx hb sd_lca_7 rfl hl (fun ls hl => ?_)
  refine va_tb (v := .int (ts_ch i k)) hx hb (hG.1.1 i hi).2.2.2 va_S.rf (vp_in_nI hk hn) (by show Value.int ((ts_byt.getD i []).getD (nI k).toNatClampNeg 0) = _; rw [nI_clamp (by omega)]; rfl) sd_lca_8 ?_
  refine sx hx hb sd_lca_9 rfl hl (fun ls hl => ?_)
  refine sx hx hb sd_lca_12 rfl hl (fun ls hl => ?_)
  refine sx hx hb sd_lca_13 rfl hl (fun ls hl => ?_)
  have e9 : narrow .char (.int (((ts_ch i k &&& 255).toUInt32 % 65536).toInt32)) = .int (((ts_ch i k &&& 255).toUInt32 % 65536).toInt32) := by rw [sc_c2]; exact sc_nar _
  exact W.zret hx hb hr e9 (fun t ht hW => ⟨rfl, ht⟩) (fun q hq => nomatch hq) sd_lca_14
theorem sv_ca {i k : Nat} (hi : i < 19) (hk : k < ts_len.getD i 0) (hn : ts_len.getD i 0 < 2 ^ 31) : Met l sn_ca (Cond.code sn_ca prog_23_method_56_code 2 (some .char) :: tb_T) (k2_rm 3 64) (sx_P A adK adV [.ref (adK i), .int (nI k)]) (sx_Q (some (.int (((ts_ch i k &&& 255).toUInt32 % 65536).toInt32)))) 0 0 (fun _ => False) := by
  refine sx_met sf_ca (Nat.le_of_ble_eq_true rfl) ?_
  intro p e s m below meth c ls S hr hlk hG hl
  obtain ⟨hx, hb, hml, hown, hts⟩ := id S
  refine sx hx hb sd_ca_0 rfl hl (fun ls hl => ?_)
  refine sx_callV (As := []) (rest := []) S hG va_S.rf hi (sv_lat hi) sw_lat si_lat (tb_w_of (p := 583) (by decide +kernel)) sm_lat sl_lat sy_lat rfl rfl ⟨by decide, by decide⟩ hl.1 (Nat.le_of_ble_eq_true rfl) (Nat.zero_le _) (Nat.zero_le _) sd_ca_1 ?_
  refine sx hx hb sd_ca_4 rfl hl (fun ls hl => ?_)
  refine sx hx hb sd_ca_7 rfl hl (fun ls hl => ?_)
  refine vk_getf hx hb (hG.1.1 i hi).2.2.1 va_S.rf hown (hts _ (tb_w_of (p := 1909) (by decide +kernel))) (fun _ h => h) sd_ca_8 ?_
  refine sx hx hb sd_ca_11 rfl hl (fun ls hl => ?_)
  refine sx_callS (As := [.ref (adV i), .int (nI k)]) (rest := []) S hG va_S.rf (sv_lca hi hk hn) sw_lca si_lca (tb_w_of (p := 587) (by decide +kernel)) ss_lca sy_lca rfl rfl ⟨by decide, by decide⟩ hl.1 (Nat.le_of_ble_eq_true rfl) (Nat.zero_le _) (Nat.zero_le _) sd_ca_12 ?_
  have e9 : narrow .char (.int (((ts_ch i k &&& 255).toUInt32 % 65536).toInt32)) = .int (((ts_ch i k &&& 255).toUInt32 % 65536).toInt32) := by rw [sc_c2]; exact sc_nar _
  exact W.zret hx hb hr e9 (fun t ht hW => ⟨rfl, ht⟩) (fun q hq => nomatch hq) sd_ca_15
end SXC
