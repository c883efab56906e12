set_option maxRecDepth 100000 in
theorem tk_D_1 : tables_1[32]? = some (Cond.code tE_1.1.2.2.2.2.2.2 tE_1.1.2.2.2.1 tE_1.1.2.2.2.2.1 tE_1.1.2.2.2.2.2.1) := rfl
set_option maxRecDepth 100000 in
theorem tk_D_2 : tables_1[40]? = some (Cond.code tE_2.1.2.2.2.2.2.2 tE_2.1.2.2.2.1 tE_2.1.2.2.2.2.1 tE_2.1.2.2.2.2.2.1) := rfl
set_option maxRecDepth 100000 in
theorem tk_D_3 : tables_1[78]? = some (Cond.code tE_3.1.2.2.2.2.2.2 tE_3.1.2.2.2.1 tE_3.1.2.2.2.2.1 tE_3.1.2.2.2.2.2.1) := rfl
set_option maxRecDepth 100000 in
theorem tk_D_4 : tables_1[84]? = some (Cond.code tE_4.1.2.2.2.2.2.2 tE_4.1.2.2.2.1 tE_4.1.2.2.2.2.1 tE_4.1.2.2.2.2.2.1) := rfl
set_option maxRecDepth 100000 in
theorem tk_D_5 : tables_1[212]? = some (Cond.code tE_5.1.2.2.2.2.2.2 tE_5.1.2.2.2.1 tE_5.1.2.2.2.2.1 tE_5.1.2.2.2.2.2.1) := rfl
set_option maxRecDepth 100000 in
theorem tk_D_6 : tables_1[270]? = some (Cond.code tE_6.1.2.2.2.2.2.2 tE_6.1.2.2.2.1 tE_6.1.2.2.2.2.1 tE_6.1.2.2.2.2.2.1) := rfl
set_option maxRecDepth 100000 in
theorem tk_D_7 : tables_1[308]? = some (Cond.code tE_7.1.2.2.2.2.2.2 tE_7.1.2.2.2.1 tE_7.1.2.2.2.2.1 tE_7.1.2.2.2.2.2.1) := rfl
set_option maxRecDepth 100000 in
theorem tk_D_8 : tables_1[314]? = some (Cond.code tE_8.1.2.2.2.2.2.2 tE_8.1.2.2.2.1 tE_8.1.2.2.2.2.1 tE_8.1.2.2.2.2.2.1) := rfl
set_option maxRecDepth 100000 in
theorem tk_D_9 : tables_1[384]? = some (Cond.code tE_9.1.2.2.2.2.2.2 tE_9.1.2.2.2.1 tE_9.1.2.2.2.2.1 tE_9.1.2.2.2.2.2.1) := rfl
set_option maxRecDepth 100000 in
theorem tk_D_10 : tables_1[443]? = some (Cond.code tE_10.1.2.2.2.2.2.2 tE_10.1.2.2.2.1 tE_10.1.2.2.2.2.1 tE_10.1.2.2.2.2.2.1) := rfl
set_option maxRecDepth 100000 in
theorem tk_D_11 : tables_1[513]? = some (Cond.code tE_11.1.2.2.2.2.2.2 tE_11.1.2.2.2.1 tE_11.1.2.2.2.2.1 tE_11.1.2.2.2.2.2.1) := rfl
set_option maxRecDepth 100000 in
theorem tk_D_12 : tables_1[517]? = some (Cond.code tE_12.1.2.2.2.2.2.2 tE_12.1.2.2.2.1 tE_12.1.2.2.2.2.1 tE_12.1.2.2.2.2.2.1) := rfl
set_option maxRecDepth 100000 in
theorem tk_D_13 : tables_1[520]? = some (Cond.code tE_13.1.2.2.2.2.2.2 tE_13.1.2.2.2.1 tE_13.1.2.2.2.2.1 tE_13.1.2.2.2.2.2.1) := rfl
set_option maxRecDepth 100000 in
theorem tk_D_14 : tables_1[537]? = some (Cond.code tE_14.1.2.2.2.2.2.2 tE_14.1.2.2.2.1 tE_14.1.2.2.2.2.1 tE_14.1.2.2.2.2.2.1) := rfl
set_option maxRecDepth 100000 in
theorem tk_D_15 : tables_1[541]? = some (Cond.code tE_15.1.2.2.2.2.2.2 tE_15.1.2.2.2.1 tE_15.1.2.2.2.2.1 tE_15.1.2.2.2.2.2.1) := rfl
set_option maxRecDepth 100000 in
theorem tk_D_16 : tables_1[545]? = some (Cond.code tE_16.1.2.2.2.2.2.2 tE_16.1.2.2.2.1 tE_16.1.2.2.2.2.1 tE_16.1.2.2.2.2.2.1) := rfl
set_option maxRecDepth 100000 in
theorem tk_D_17 : tables_1[549]? = some (Cond.code tE_17.1.2.2.2.2.2.2 tE_17.1.2.2.2.1 tE_17.1.2.2.2.2.1 tE_17.1.2.2.2.2.2.1) := rfl
set_option maxRecDepth 100000 in
theorem tk_D_18 : tables_1[553]? = some (Cond.code tE_18.1.2.2.2.2.2.2 tE_18.1.2.2.2.1 tE_18.1.2.2.2.2.1 tE_18.1.2.2.2.2.2.1) := rfl
set_option maxRecDepth 100000 in
theorem tk_D_19 : tables_1[556]? = some (Cond.code tE_19.1.2.2.2.2.2.2 tE_19.1.2.2.2.1 tE_19.1.2.2.2.2.1 tE_19.1.2.2.2.2.2.1) := rfl
set_option maxRecDepth 100000 in
theorem tk_D_20 : tables_1[560]? = some (Cond.code tE_20.1.2.2.2.2.2.2 tE_20.1.2.2.2.1 tE_20.1.2.2.2.2.1 tE_20.1.2.2.2.2.2.1) := rfl
set_option maxRecDepth 100000 in
theorem tk_D_21 : tables_1[563]? = some (Cond.code tE_21.1.2.2.2.2.2.2 tE_21.1.2.2.2.1 tE_21.1.2.2.2.2.1 tE_21.1.2.2.2.2.2.1) := rfl
set_option maxRecDepth 100000 in
theorem tk_D_22 : tables_1[567]? = some (Cond.code tE_22.1.2.2.2.2.2.2 tE_22.1.2.2.2.1 tE_22.1.2.2.2.2.1 tE_22.1.2.2.2.2.2.1) := rfl
set_option maxRecDepth 100000 in
theorem tk_D_23 : tables_1[620]? = some (Cond.code tE_23.1.2.2.2.2.2.2 tE_23.1.2.2.2.1 tE_23.1.2.2.2.2.1 tE_23.1.2.2.2.2.2.1) := rfl
set_option maxRecDepth 100000 in
theorem tk_D_24 : tables_1[624]? = some (Cond.code tE_24.1.2.2.2.2.2.2 tE_24.1.2.2.2.1 tE_24.1.2.2.2.2.1 tE_24.1.2.2.2.2.2.1) := rfl
set_option maxRecDepth 100000 in
theorem tk_D_25 : tables_1[628]? = some (Cond.code tE_25.1.2.2.2.2.2.2 tE_25.1.2.2.2.1 tE_25.1.2.2.2.2.1 tE_25.1.2.2.2.2.2.1) := rfl
set_option maxRecDepth 100000 in
theorem tk_D_26 : tables_1[690]? = some (Cond.code tE_26.1.2.2.2.2.2.2 tE_26.1.2.2.2.1 tE_26.1.2.2.2.2.1 tE_26.1.2.2.2.2.2.1) := rfl
set_option maxRecDepth 100000 in
theorem tk_D_27 : tables_1[694]? = some (Cond.code tE_27.1.2.2.2.2.2.2 tE_27.1.2.2.2.1 tE_27.1.2.2.2.2.1 tE_27.1.2.2.2.2.2.1) := rfl
set_option maxRecDepth 100000 in
theorem tk_D_28 : tables_1[698]? = some (Cond.code tE_28.1.2.2.2.2.2.2 tE_28.1.2.2.2.1 tE_28.1.2.2.2.2.1 tE_28.1.2.2.2.2.2.1) := rfl
set_option maxRecDepth 100000 in
theorem tk_D_29 : tables_1[702]? = some (Cond.code tE_29.1.2.2.2.2.2.2 tE_29.1.2.2.2.1 tE_29.1.2.2.2.2.1 tE_29.1.2.2.2.2.2.1) := rfl
set_option maxRecDepth 100000 in
theorem tk_D_30 : tables_1[706]? = some (Cond.code tE_30.1.2.2.2.2.2.2 tE_30.1.2.2.2.1 tE_30.1.2.2.2.2.1 tE_30.1.2.2.2.2.2.1) := rfl
set_option maxRecDepth 100000 in
theorem tk_D_31 : tables_1[711]? = some (Cond.code tE_31.1.2.2.2.2.2.2 tE_31.1.2.2.2.1 tE_31.1.2.2.2.2.1 tE_31.1.2.2.2.2.2.1) := rfl
set_option maxRecDepth 100000 in
theorem tk_D_32 : tables_1[715]? = some (Cond.code tE_32.1.2.2.2.2.2.2 tE_32.1.2.2.2.1 tE_32.1.2.2.2.2.1 tE_32.1.2.2.2.2.2.1) := rfl
set_option maxRecDepth 100000 in
theorem tk_D_33 : tables_1[719]? = some (Cond.code tE_33.1.2.2.2.2.2.2 tE_33.1.2.2.2.1 tE_33.1.2.2.2.2.1 tE_33.1.2.2.2.2.2.1) := rfl
set_option maxRecDepth 100000 in
theorem tk_D_34 : tables_1[723]? = some (Cond.code tE_34.1.2.2.2.2.2.2 tE_34.1.2.2.2.1 tE_34.1.2.2.2.2.1 tE_34.1.2.2.2.2.2.1) := rfl
set_option maxRecDepth 100000 in
theorem tk_D_35 : tables_1[727]? = some (Cond.code tE_35.1.2.2.2.2.2.2 tE_35.1.2.2.2.1 tE_35.1.2.2.2.2.1 tE_35.1.2.2.2.2.2.1) := rfl
set_option maxRecDepth 100000 in
theorem tk_D_36 : tables_1[731]? = some (Cond.code tE_36.1.2.2.2.2.2.2 tE_36.1.2.2.2.1 tE_36.1.2.2.2.2.1 tE_36.1.2.2.2.2.2.1) := rfl
set_option maxRecDepth 100000 in
theorem tk_D_37 : tables_1[735]? = some (Cond.code tE_37.1.2.2.2.2.2.2 tE_37.1.2.2.2.1 tE_37.1.2.2.2.2.1 tE_37.1.2.2.2.2.2.1) := rfl
set_option maxRecDepth 100000 in
theorem tk_D_38 : tables_1[739]? = some (Cond.code tE_38.1.2.2.2.2.2.2 tE_38.1.2.2.2.1 tE_38.1.2.2.2.2.1 tE_38.1.2.2.2.2.2.1) := rfl
set_option maxRecDepth 100000 in
theorem tk_D_39 : tables_1[743]? = some (Cond.code tE_39.1.2.2.2.2.2.2 tE_39.1.2.2.2.1 tE_39.1.2.2.2.2.1 tE_39.1.2.2.2.2.2.1) := rfl
set_option maxRecDepth 100000 in
theorem tk_D_40 : tables_1[747]? = some (Cond.code tE_40.1.2.2.2.2.2.2 tE_40.1.2.2.2.1 tE_40.1.2.2.2.2.1 tE_40.1.2.2.2.2.2.1) := rfl
set_option maxRecDepth 100000 in
theorem tk_D_41 : tables_1[751]? = some (Cond.code tE_41.1.2.2.2.2.2.2 tE_41.1.2.2.2.1 tE_41.1.2.2.2.2.1 tE_41.1.2.2.2.2.2.1) := rfl
set_option maxRecDepth 100000 in
theorem tk_D_42 : tables_1[755]? = some (Cond.code tE_42.1.2.2.2.2.2.2 tE_42.1.2.2.2.1 tE_42.1.2.2.2.2.1 tE_42.1.2.2.2.2.2.1) := rfl
set_option maxRecDepth 100000 in
theorem tk_D_43 : tables_1[759]? = some (Cond.code tE_43.1.2.2.2.2.2.2 tE_43.1.2.2.2.1 tE_43.1.2.2.2.2.1 tE_43.1.2.2.2.2.2.1) := rfl
set_option maxRecDepth 100000 in
theorem tk_D_44 : tables_1[763]? = some (Cond.code tE_44.1.2.2.2.2.2.2 tE_44.1.2.2.2.1 tE_44.1.2.2.2.2.1 tE_44.1.2.2.2.2.2.1) := rfl
set_option maxRecDepth 100000 in
theorem tk_D_45 : tables_1[767]? = some (Cond.code tE_45.1.2.2.2.2.2.2 tE_45.1.2.2.2.1 tE_45.1.2.2.2.2.1 tE_45.1.2.2.2.2.2.1) := rfl
set_option maxRecDepth 100000 in
theorem tk_D_46 : tables_1[771]? = some (Cond.code tE_46.1.2.2.2.2.2.2 tE_46.1.2.2.2.1 tE_46.1.2.2.2.2.1 tE_46.1.2.2.2.2.2.1) := rfl
set_option maxRecDepth 100000 in
theorem tk_D_47 : tables_1[775]? = some (Cond.code tE_47.1.2.2.2.2.2.2 tE_47.1.2.2.2.1 tE_47.1.2.2.2.2.1 tE_47.1.2.2.2.2.2.1) := rfl
set_option maxRecDepth 100000 in
theorem tk_D_48 : tables_1[779]? = some (Cond.code tE_48.1.2.2.2.2.2.2 tE_48.1.2.2.2.1 tE_48.1.2.2.2.2.1 tE_48.1.2.2.2.2.2.1) := rfl
set_option maxRecDepth 100000 in
theorem tk_D_49 : tables_1[783]? = some (Cond.code tE_49.1.2.2.2.2.2.2 tE_49.1.2.2.2.1 tE_49.1.2.2.2.2.1 tE_49.1.2.2.2.2.2.1) := rfl
set_option maxRecDepth 100000 in
theorem tk_D_50 : tables_1[787]? = some (Cond.code tE_50.1.2.2.2.2.2.2 tE_50.1.2.2.2.1 tE_50.1.2.2.2.2.1 tE_50.1.2.2.2.2.2.1) := rfl
set_option maxRecDepth 100000 in
theorem tk_D_51 : tables_1[791]? = some (Cond.code tE_51.1.2.2.2.2.2.2 tE_51.1.2.2.2.1 tE_51.1.2.2.2.2.1 tE_51.1.2.2.2.2.2.1) := rfl
set_option maxRecDepth 100000 in
theorem tk_D_52 : tables_1[795]? = some (Cond.code tE_52.1.2.2.2.2.2.2 tE_52.1.2.2.2.1 tE_52.1.2.2.2.2.1 tE_52.1.2.2.2.2.2.1) := rfl
set_option maxRecDepth 100000 in
theorem tk_D_53 : tables_1[799]? = some (Cond.code tE_53.1.2.2.2.2.2.2 tE_53.1.2.2.2.1 tE_53.1.2.2.2.2.1 tE_53.1.2.2.2.2.2.1) := rfl
set_option maxRecDepth 100000 in
theorem tk_D_54 : tables_1[803]? = some (Cond.code tE_54.1.2.2.2.2.2.2 tE_54.1.2.2.2.1 tE_54.1.2.2.2.2.1 tE_54.1.2.2.2.2.2.1) := rfl
set_option maxRecDepth 100000 in
theorem tk_D_55 : tables_1[807]? = some (Cond.code tE_55.1.2.2.2.2.2.2 tE_55.1.2.2.2.1 tE_55.1.2.2.2.2.1 tE_55.1.2.2.2.2.2.1) := rfl
set_option maxRecDepth 100000 in
theorem tk_D_56 : tables_1[810]? = some (Cond.code tE_56.1.2.2.2.2.2.2 tE_56.1.2.2.2.1 tE_56.1.2.2.2.2.1 tE_56.1.2.2.2.2.2.1) := rfl
set_option maxRecDepth 100000 in
theorem tk_D_57 : tables_1[814]? = some (Cond.code tE_57.1.2.2.2.2.2.2 tE_57.1.2.2.2.1 tE_57.1.2.2.2.2.1 tE_57.1.2.2.2.2.2.1) := rfl
set_option maxRecDepth 100000 in
theorem tk_D_58 : tables_1[818]? = some (Cond.code tE_58.1.2.2.2.2.2.2 tE_58.1.2.2.2.1 tE_58.1.2.2.2.2.1 tE_58.1.2.2.2.2.2.1) := rfl
set_option maxRecDepth 100000 in
theorem tk_D_59 : tables_1[822]? = some (Cond.code tE_59.1.2.2.2.2.2.2 tE_59.1.2.2.2.1 tE_59.1.2.2.2.2.1 tE_59.1.2.2.2.2.2.1) := rfl
set_option maxRecDepth 100000 in
theorem tk_D_60 : tables_1[826]? = some (Cond.code tE_60.1.2.2.2.2.2.2 tE_60.1.2.2.2.1 tE_60.1.2.2.2.2.1 tE_60.1.2.2.2.2.2.1) := rfl
set_option maxRecDepth 100000 in
theorem tk_D_61 : tables_1[830]? = some (Cond.code tE_61.1.2.2.2.2.2.2 tE_61.1.2.2.2.1 tE_61.1.2.2.2.2.1 tE_61.1.2.2.2.2.2.1) := rfl
set_option maxRecDepth 100000 in
theorem tk_D_62 : tables_1[834]? = some (Cond.code tE_62.1.2.2.2.2.2.2 tE_62.1.2.2.2.1 tE_62.1.2.2.2.2.1 tE_62.1.2.2.2.2.2.1) := rfl
set_option maxRecDepth 100000 in
theorem tk_D_63 : tables_1[838]? = some (Cond.code tE_63.1.2.2.2.2.2.2 tE_63.1.2.2.2.1 tE_63.1.2.2.2.2.1 tE_63.1.2.2.2.2.2.1) := rfl
set_option maxRecDepth 100000 in
theorem tk_D_64 : tables_1[842]? = some (Cond.code tE_64.1.2.2.2.2.2.2 tE_64.1.2.2.2.1 tE_64.1.2.2.2.2.1 tE_64.1.2.2.2.2.2.1) := rfl
set_option maxRecDepth 100000 in
theorem tk_D_65 : tables_1[846]? = some (Cond.code tE_65.1.2.2.2.2.2.2 tE_65.1.2.2.2.1 tE_65.1.2.2.2.2.1 tE_65.1.2.2.2.2.2.1) := rfl
set_option maxRecDepth 100000 in
theorem tk_D_66 : tables_1[850]? = some (Cond.code tE_66.1.2.2.2.2.2.2 tE_66.1.2.2.2.1 tE_66.1.2.2.2.2.1 tE_66.1.2.2.2.2.2.1) := rfl
set_option maxRecDepth 100000 in
theorem tk_D_67 : tables_1[854]? = some (Cond.code tE_67.1.2.2.2.2.2.2 tE_67.1.2.2.2.1 tE_67.1.2.2.2.2.1 tE_67.1.2.2.2.2.2.1) := rfl
set_option maxRecDepth 100000 in
theorem tk_D_68 : tables_1[858]? = some (Cond.code tE_68.1.2.2.2.2.2.2 tE_68.1.2.2.2.1 tE_68.1.2.2.2.2.1 tE_68.1.2.2.2.2.2.1) := rfl
set_option maxRecDepth 100000 in
theorem tk_D_69 : tables_1[862]? = some (Cond.code tE_69.1.2.2.2.2.2.2 tE_69.1.2.2.2.1 tE_69.1.2.2.2.2.1 tE_69.1.2.2.2.2.2.1) := rfl
set_option maxRecDepth 100000 in
theorem tk_D_70 : tables_1[866]? = some (Cond.code tE_70.1.2.2.2.2.2.2 tE_70.1.2.2.2.1 tE_70.1.2.2.2.2.1 tE_70.1.2.2.2.2.2.1) := rfl
set_option maxRecDepth 100000 in
theorem tk_D_71 : tables_1[870]? = some (Cond.code tE_71.1.2.2.2.2.2.2 tE_71.1.2.2.2.1 tE_71.1.2.2.2.2.1 tE_71.1.2.2.2.2.2.1) := rfl
set_option maxRecDepth 100000 in
theorem tk_D_72 : tables_1[874]? = some (Cond.code tE_72.1.2.2.2.2.2.2 tE_72.1.2.2.2.1 tE_72.1.2.2.2.2.1 tE_72.1.2.2.2.2.2.1) := rfl
set_option maxRecDepth 100000 in
theorem tk_D_73 : tables_1[877]? = some (Cond.code tE_73.1.2.2.2.2.2.2 tE_73.1.2.2.2.1 tE_73.1.2.2.2.2.1 tE_73.1.2.2.2.2.2.1) := rfl
set_option maxRecDepth 100000 in
theorem tk_D_74 : tables_1[881]? = some (Cond.code tE_74.1.2.2.2.2.2.2 tE_74.1.2.2.2.1 tE_74.1.2.2.2.2.1 tE_74.1.2.2.2.2.2.1) := rfl
set_option maxRecDepth 100000 in
theorem tk_D_75 : tables_1[884]? = some (Cond.code tE_75.1.2.2.2.2.2.2 tE_75.1.2.2.2.1 tE_75.1.2.2.2.2.1 tE_75.1.2.2.2.2.2.1) := rfl
set_option maxRecDepth 100000 in
theorem tk_D_76 : tables_1[890]? = some (Cond.code tE_76.1.2.2.2.2.2.2 tE_76.1.2.2.2.1 tE_76.1.2.2.2.2.1 tE_76.1.2.2.2.2.2.1) := rfl
set_option maxRecDepth 100000 in
theorem tk_D_77 : tables_1[895]? = some (Cond.code tE_77.1.2.2.2.2.2.2 tE_77.1.2.2.2.1 tE_77.1.2.2.2.2.1 tE_77.1.2.2.2.2.2.1) := rfl
set_option maxRecDepth 100000 in
theorem tk_D_78 : tables_1[898]? = some (Cond.code tE_78.1.2.2.2.2.2.2 tE_78.1.2.2.2.1 tE_78.1.2.2.2.2.1 tE_78.1.2.2.2.2.2.1) := rfl
set_option maxRecDepth 100000 in
theorem tk_D_79 : tables_1[902]? = some (Cond.code tE_79.1.2.2.2.2.2.2 tE_79.1.2.2.2.1 tE_79.1.2.2.2.2.1 tE_79.1.2.2.2.2.2.1) := rfl
set_option maxRecDepth 100000 in
theorem tk_D_80 : tables_1[906]? = some (Cond.code tE_80.1.2.2.2.2.2.2 tE_80.1.2.2.2.1 tE_80.1.2.2.2.2.1 tE_80.1.2.2.2.2.2.1) := rfl
set_option maxRecDepth 100000 in
theorem tk_D_81 : tables_1[910]? = some (Cond.code tE_81.1.2.2.2.2.2.2 tE_81.1.2.2.2.1 tE_81.1.2.2.2.2.1 tE_81.1.2.2.2.2.2.1) := rfl
set_option maxRecDepth 100000 in
theorem tk_D_82 : tables_1[914]? = some (Cond.code tE_82.1.2.2.2.2.2.2 tE_82.1.2.2.2.1 tE_82.1.2.2.2.2.1 tE_82.1.2.2.2.2.2.1) := rfl
set_option maxRecDepth 100000 in
theorem tk_D_83 : tables_1[918]? = some (Cond.code tE_83.1.2.2.2.2.2.2 tE_83.1.2.2.2.1 tE_83.1.2.2.2.2.1 tE_83.1.2.2.2.2.2.1) := rfl
set_option maxRecDepth 100000 in
theorem tk_D_84 : tables_1[922]? = some (Cond.code tE_84.1.2.2.2.2.2.2 tE_84.1.2.2.2.1 tE_84.1.2.2.2.2.1 tE_84.1.2.2.2.2.2.1) := rfl
set_option maxRecDepth 100000 in
theorem tk_D_85 : tables_1[926]? = some (Cond.code tE_85.1.2.2.2.2.2.2 tE_85.1.2.2.2.1 tE_85.1.2.2.2.2.1 tE_85.1.2.2.2.2.2.1) := rfl
set_option maxRecDepth 100000 in
theorem tk_D_86 : tables_1[930]? = some (Cond.code tE_86.1.2.2.2.2.2.2 tE_86.1.2.2.2.1 tE_86.1.2.2.2.2.1 tE_86.1.2.2.2.2.2.1) := rfl
set_option maxRecDepth 100000 in
theorem tk_D_87 : tables_1[934]? = some (Cond.code tE_87.1.2.2.2.2.2.2 tE_87.1.2.2.2.1 tE_87.1.2.2.2.2.1 tE_87.1.2.2.2.2.2.1) := rfl
set_option maxRecDepth 100000 in
theorem tk_D_88 : tables_1[938]? = some (Cond.code tE_88.1.2.2.2.2.2.2 tE_88.1.2.2.2.1 tE_88.1.2.2.2.2.1 tE_88.1.2.2.2.2.2.1) := rfl
set_option maxRecDepth 100000 in
theorem tk_D_89 : tables_1[942]? = some (Cond.code tE_89.1.2.2.2.2.2.2 tE_89.1.2.2.2.1 tE_89.1.2.2.2.2.1 tE_89.1.2.2.2.2.2.1) := rfl
set_option maxRecDepth 100000 in
theorem tk_D_90 : tables_1[946]? = some (Cond.code tE_90.1.2.2.2.2.2.2 tE_90.1.2.2.2.1 tE_90.1.2.2.2.2.1 tE_90.1.2.2.2.2.2.1) := rfl
set_option maxRecDepth 100000 in
theorem tk_D_91 : tables_1[950]? = some (Cond.code tE_91.1.2.2.2.2.2.2 tE_91.1.2.2.2.1 tE_91.1.2.2.2.2.1 tE_91.1.2.2.2.2.2.1) := rfl
set_option maxRecDepth 100000 in
theorem tk_D_92 : tables_1[955]? = some (Cond.code tE_92.1.2.2.2.2.2.2 tE_92.1.2.2.2.1 tE_92.1.2.2.2.2.1 tE_92.1.2.2.2.2.2.1) := rfl
set_option maxRecDepth 100000 in
theorem tk_D_93 : tables_1[959]? = some (Cond.code tE_93.1.2.2.2.2.2.2 tE_93.1.2.2.2.1 tE_93.1.2.2.2.2.1 tE_93.1.2.2.2.2.2.1) := rfl
set_option maxRecDepth 100000 in
theorem tk_D_94 : tables_1[963]? = some (Cond.code tE_94.1.2.2.2.2.2.2 tE_94.1.2.2.2.1 tE_94.1.2.2.2.2.1 tE_94.1.2.2.2.2.2.1) := rfl
set_option maxRecDepth 100000 in
theorem tk_D_95 : tables_1[967]? = some (Cond.code tE_95.1.2.2.2.2.2.2 tE_95.1.2.2.2.1 tE_95.1.2.2.2.2.1 tE_95.1.2.2.2.2.2.1) := rfl
set_option maxRecDepth 100000 in
theorem tk_D_96 : tables_1[971]? = some (Cond.code tE_96.1.2.2.2.2.2.2 tE_96.1.2.2.2.1 tE_96.1.2.2.2.2.1 tE_96.1.2.2.2.2.2.1) := rfl
set_option maxRecDepth 100000 in
theorem tk_D_97 : tables_1[975]? = some (Cond.code tE_97.1.2.2.2.2.2.2 tE_97.1.2.2.2.1 tE_97.1.2.2.2.2.1 tE_97.1.2.2.2.2.2.1) := rfl
set_option maxRecDepth 100000 in
theorem tk_D_98 : tables_1[979]? = some (Cond.code tE_98.1.2.2.2.2.2.2 tE_98.1.2.2.2.1 tE_98.1.2.2.2.2.1 tE_98.1.2.2.2.2.2.1) := rfl
set_option maxRecDepth 100000 in
theorem tk_D_99 : tables_1[983]? = some (Cond.code tE_99.1.2.2.2.2.2.2 tE_99.1.2.2.2.1 tE_99.1.2.2.2.2.1 tE_99.1.2.2.2.2.2.1) := rfl
set_option maxRecDepth 100000 in
theorem tk_D_100 : tables_1[987]? = some (Cond.code tE_100.1.2.2.2.2.2.2 tE_100.1.2.2.2.1 tE_100.1.2.2.2.2.1 tE_100.1.2.2.2.2.2.1) := rfl
set_option maxRecDepth 100000 in
theorem tk_D_101 : tables_1[992]? = some (Cond.code tE_101.1.2.2.2.2.2.2 tE_101.1.2.2.2.1 tE_101.1.2.2.2.2.1 tE_101.1.2.2.2.2.2.1) := rfl
set_option maxRecDepth 100000 in
theorem tk_D_102 : tables_1[996]? = some (Cond.code tE_102.1.2.2.2.2.2.2 tE_102.1.2.2.2.1 tE_102.1.2.2.2.2.1 tE_102.1.2.2.2.2.2.1) := rfl
set_option maxRecDepth 100000 in
theorem tk_D_103 : tables_1[1000]? = some (Cond.code tE_103.1.2.2.2.2.2.2 tE_103.1.2.2.2.1 tE_103.1.2.2.2.2.1 tE_103.1.2.2.2.2.2.1) := rfl
set_option maxRecDepth 100000 in
theorem tk_D_105 : tables_1[1009]? = some (Cond.code tE_105.1.2.2.2.2.2.2 tE_105.1.2.2.2.1 tE_105.1.2.2.2.2.1 tE_105.1.2.2.2.2.2.1) := rfl
set_option maxRecDepth 100000 in
theorem tk_D_107 : tables_1[1085]? = some (Cond.code tE_107.1.2.2.2.2.2.2 tE_107.1.2.2.2.1 tE_107.1.2.2.2.2.1 tE_107.1.2.2.2.2.2.1) := rfl
set_option maxRecDepth 100000 in
theorem tk_D_108 : tables_1[1105]? = some (Cond.code tE_108.1.2.2.2.2.2.2 tE_108.1.2.2.2.1 tE_108.1.2.2.2.2.1 tE_108.1.2.2.2.2.2.1) := rfl
set_option maxRecDepth 100000 in
theorem tk_D_109 : tables_1[1110]? = some (Cond.code tE_109.1.2.2.2.2.2.2 tE_109.1.2.2.2.1 tE_109.1.2.2.2.2.1 tE_109.1.2.2.2.2.2.1) := rfl
set_option maxRecDepth 100000 in
theorem tk_D_110 : tables_1[1116]? = some (Cond.code tE_110.1.2.2.2.2.2.2 tE_110.1.2.2.2.1 tE_110.1.2.2.2.2.1 tE_110.1.2.2.2.2.2.1) := rfl
set_option maxRecDepth 100000 in
theorem tk_D_111 : tables_1[1120]? = some (Cond.code tE_111.1.2.2.2.2.2.2 tE_111.1.2.2.2.1 tE_111.1.2.2.2.2.1 tE_111.1.2.2.2.2.2.1) := rfl
set_option maxRecDepth 100000 in
theorem tk_D_112 : tables_1[1125]? = some (Cond.code tE_112.1.2.2.2.2.2.2 tE_112.1.2.2.2.1 tE_112.1.2.2.2.2.1 tE_112.1.2.2.2.2.2.1) := rfl
set_option maxRecDepth 100000 in
theorem tk_D_113 : tables_1[1129]? = some (Cond.code tE_113.1.2.2.2.2.2.2 tE_113.1.2.2.2.1 tE_113.1.2.2.2.2.1 tE_113.1.2.2.2.2.2.1) := rfl
set_option maxRecDepth 100000 in
theorem tk_D_114 : tables_1[1135]? = some (Cond.code tE_114.1.2.2.2.2.2.2 tE_114.1.2.2.2.1 tE_114.1.2.2.2.2.1 tE_114.1.2.2.2.2.2.1) := rfl
set_option maxRecDepth 100000 in
theorem tk_D_115 : tables_1[1140]? = some (Cond.code tE_115.1.2.2.2.2.2.2 tE_115.1.2.2.2.1 tE_115.1.2.2.2.2.1 tE_115.1.2.2.2.2.2.1) := rfl
set_option maxRecDepth 100000 in
theorem tk_D_116 : tables_1[1145]? = some (Cond.code tE_116.1.2.2.2.2.2.2 tE_116.1.2.2.2.1 tE_116.1.2.2.2.2.1 tE_116.1.2.2.2.2.2.1) := rfl
set_option maxRecDepth 100000 in
theorem tk_D_117 : tables_1[1149]? = some (Cond.code tE_117.1.2.2.2.2.2.2 tE_117.1.2.2.2.1 tE_117.1.2.2.2.2.1 tE_117.1.2.2.2.2.2.1) := rfl
set_option maxRecDepth 100000 in
theorem tk_D_118 : tables_1[1153]? = some (Cond.code tE_118.1.2.2.2.2.2.2 tE_118.1.2.2.2.1 tE_118.1.2.2.2.2.1 tE_118.1.2.2.2.2.2.1) := rfl
set_option maxRecDepth 100000 in
theorem tk_D_119 : tables_1[1157]? = some (Cond.code tE_119.1.2.2.2.2.2.2 tE_119.1.2.2.2.1 tE_119.1.2.2.2.2.1 tE_119.1.2.2.2.2.2.1) := rfl
set_option maxRecDepth 100000 in
theorem tk_D_120 : tables_1[1161]? = some (Cond.code tE_120.1.2.2.2.2.2.2 tE_120.1.2.2.2.1 tE_120.1.2.2.2.2.1 tE_120.1.2.2.2.2.2.1) := rfl
set_option maxRecDepth 100000 in
theorem tk_D_121 : tables_1[1168]? = some (Cond.code tE_121.1.2.2.2.2.2.2 tE_121.1.2.2.2.1 tE_121.1.2.2.2.2.1 tE_121.1.2.2.2.2.2.1) := rfl
set_option maxRecDepth 100000 in
theorem tk_D_122 : tables_1[1172]? = some (Cond.code tE_122.1.2.2.2.2.2.2 tE_122.1.2.2.2.1 tE_122.1.2.2.2.2.1 tE_122.1.2.2.2.2.2.1) := rfl
set_option maxRecDepth 100000 in
theorem tk_D_123 : tables_1[1176]? = some (Cond.code tE_123.1.2.2.2.2.2.2 tE_123.1.2.2.2.1 tE_123.1.2.2.2.2.1 tE_123.1.2.2.2.2.2.1) := rfl
set_option maxRecDepth 100000 in
theorem tk_D_124 : tables_1[1180]? = some (Cond.code tE_124.1.2.2.2.2.2.2 tE_124.1.2.2.2.1 tE_124.1.2.2.2.2.1 tE_124.1.2.2.2.2.2.1) := rfl
set_option maxRecDepth 100000 in
theorem tk_D_126 : tables_1[1190]? = some (Cond.code tE_126.1.2.2.2.2.2.2 tE_126.1.2.2.2.1 tE_126.1.2.2.2.2.1 tE_126.1.2.2.2.2.2.1) := rfl
set_option maxRecDepth 100000 in
theorem tk_D_127 : tables_1[1211]? = some (Cond.code tE_127.1.2.2.2.2.2.2 tE_127.1.2.2.2.1 tE_127.1.2.2.2.2.1 tE_127.1.2.2.2.2.2.1) := rfl
set_option maxRecDepth 100000 in
theorem tk_D_128 : tables_1[1217]? = some (Cond.code tE_128.1.2.2.2.2.2.2 tE_128.1.2.2.2.1 tE_128.1.2.2.2.2.1 tE_128.1.2.2.2.2.2.1) := rfl
set_option maxRecDepth 100000 in
theorem tk_D_129 : tables_1[1233]? = some (Cond.code tE_129.1.2.2.2.2.2.2 tE_129.1.2.2.2.1 tE_129.1.2.2.2.2.1 tE_129.1.2.2.2.2.2.1) := rfl
set_option maxRecDepth 100000 in
theorem tk_D_130 : tables_1[1499]? = some (Cond.code tE_130.1.2.2.2.2.2.2 tE_130.1.2.2.2.1 tE_130.1.2.2.2.2.1 tE_130.1.2.2.2.2.2.1) := rfl
set_option maxRecDepth 100000 in
theorem tk_D_131 : tables_1[1503]? = some (Cond.code tE_131.1.2.2.2.2.2.2 tE_131.1.2.2.2.1 tE_131.1.2.2.2.2.1 tE_131.1.2.2.2.2.2.1) := rfl
set_option maxRecDepth 100000 in
theorem tk_D_132 : tables_1[1507]? = some (Cond.code tE_132.1.2.2.2.2.2.2 tE_132.1.2.2.2.1 tE_132.1.2.2.2.2.1 tE_132.1.2.2.2.2.2.1) := rfl
set_option maxRecDepth 100000 in
theorem tk_D_133 : tables_1[1511]? = some (Cond.code tE_133.1.2.2.2.2.2.2 tE_133.1.2.2.2.1 tE_133.1.2.2.2.2.1 tE_133.1.2.2.2.2.2.1) := rfl
set_option maxRecDepth 100000 in
theorem tk_D_134 : tables_1[1515]? = some (Cond.code tE_134.1.2.2.2.2.2.2 tE_134.1.2.2.2.1 tE_134.1.2.2.2.2.1 tE_134.1.2.2.2.2.2.1) := rfl
set_option maxRecDepth 100000 in
theorem tk_D_135 : tables_1[1519]? = some (Cond.code tE_135.1.2.2.2.2.2.2 tE_135.1.2.2.2.1 tE_135.1.2.2.2.2.1 tE_135.1.2.2.2.2.2.1) := rfl
set_option maxRecDepth 100000 in
theorem tk_D_136 : tables_1[1523]? = some (Cond.code tE_136.1.2.2.2.2.2.2 tE_136.1.2.2.2.1 tE_136.1.2.2.2.2.1 tE_136.1.2.2.2.2.2.1) := rfl
set_option maxRecDepth 100000 in
theorem tk_D_137 : tables_1[1527]? = some (Cond.code tE_137.1.2.2.2.2.2.2 tE_137.1.2.2.2.1 tE_137.1.2.2.2.2.1 tE_137.1.2.2.2.2.2.1) := rfl
set_option maxRecDepth 100000 in
theorem tk_D_138 : tables_1[1531]? = some (Cond.code tE_138.1.2.2.2.2.2.2 tE_138.1.2.2.2.1 tE_138.1.2.2.2.2.1 tE_138.1.2.2.2.2.2.1) := rfl
set_option maxRecDepth 100000 in
theorem tk_D_139 : tables_1[1535]? = some (Cond.code tE_139.1.2.2.2.2.2.2 tE_139.1.2.2.2.1 tE_139.1.2.2.2.2.1 tE_139.1.2.2.2.2.2.1) := rfl
set_option maxRecDepth 100000 in
theorem tk_D_140 : tables_1[1538]? = some (Cond.code tE_140.1.2.2.2.2.2.2 tE_140.1.2.2.2.1 tE_140.1.2.2.2.2.1 tE_140.1.2.2.2.2.2.1) := rfl
set_option maxRecDepth 100000 in
theorem tk_D_141 : tables_1[1541]? = some (Cond.code tE_141.1.2.2.2.2.2.2 tE_141.1.2.2.2.1 tE_141.1.2.2.2.2.1 tE_141.1.2.2.2.2.2.1) := rfl
set_option maxRecDepth 100000 in
theorem tk_D_142 : tables_1[1544]? = some (Cond.code tE_142.1.2.2.2.2.2.2 tE_142.1.2.2.2.1 tE_142.1.2.2.2.2.1 tE_142.1.2.2.2.2.2.1) := rfl
set_option maxRecDepth 100000 in
theorem tk_D_143 : tables_1[1548]? = some (Cond.code tE_143.1.2.2.2.2.2.2 tE_143.1.2.2.2.1 tE_143.1.2.2.2.2.1 tE_143.1.2.2.2.2.2.1) := rfl
set_option maxRecDepth 100000 in
theorem tk_D_144 : tables_1[1553]? = some (Cond.code tE_144.1.2.2.2.2.2.2 tE_144.1.2.2.2.1 tE_144.1.2.2.2.2.1 tE_144.1.2.2.2.2.2.1) := rfl
set_option maxRecDepth 100000 in
theorem tk_D_145 : tables_1[1571]? = some (Cond.code tE_145.1.2.2.2.2.2.2 tE_145.1.2.2.2.1 tE_145.1.2.2.2.2.1 tE_145.1.2.2.2.2.2.1) := rfl
set_option maxRecDepth 100000 in
theorem tk_D_146 : tables_1[1575]? = some (Cond.code tE_146.1.2.2.2.2.2.2 tE_146.1.2.2.2.1 tE_146.1.2.2.2.2.1 tE_146.1.2.2.2.2.2.1) := rfl
set_option maxRecDepth 100000 in
theorem tk_D_147 : tables_1[1579]? = some (Cond.code tE_147.1.2.2.2.2.2.2 tE_147.1.2.2.2.1 tE_147.1.2.2.2.2.1 tE_147.1.2.2.2.2.2.1) := rfl
set_option maxRecDepth 100000 in
theorem tk_D_148 : tables_1[1583]? = some (Cond.code tE_148.1.2.2.2.2.2.2 tE_148.1.2.2.2.1 tE_148.1.2.2.2.2.1 tE_148.1.2.2.2.2.2.1) := rfl
set_option maxRecDepth 100000 in
theorem tk_D_149 : tables_1[1587]? = some (Cond.code tE_149.1.2.2.2.2.2.2 tE_149.1.2.2.2.1 tE_149.1.2.2.2.2.1 tE_149.1.2.2.2.2.2.1) := rfl
set_option maxRecDepth 100000 in
theorem tk_D_150 : tables_1[1591]? = some (Cond.code tE_150.1.2.2.2.2.2.2 tE_150.1.2.2.2.1 tE_150.1.2.2.2.2.1 tE_150.1.2.2.2.2.2.1) := rfl
set_option maxRecDepth 100000 in
theorem tk_D_151 : tables_1[1595]? = some (Cond.code tE_151.1.2.2.2.2.2.2 tE_151.1.2.2.2.1 tE_151.1.2.2.2.2.1 tE_151.1.2.2.2.2.2.1) := rfl
set_option maxRecDepth 100000 in
theorem tk_D_152 : tables_1[1599]? = some (Cond.code tE_152.1.2.2.2.2.2.2 tE_152.1.2.2.2.1 tE_152.1.2.2.2.2.1 tE_152.1.2.2.2.2.2.1) := rfl
set_option maxRecDepth 100000 in
theorem tk_D_153 : tables_1[1603]? = some (Cond.code tE_153.1.2.2.2.2.2.2 tE_153.1.2.2.2.1 tE_153.1.2.2.2.2.1 tE_153.1.2.2.2.2.2.1) := rfl
set_option maxRecDepth 100000 in
theorem tk_D_154 : tables_1[1607]? = some (Cond.code tE_154.1.2.2.2.2.2.2 tE_154.1.2.2.2.1 tE_154.1.2.2.2.2.1 tE_154.1.2.2.2.2.2.1) := rfl
set_option maxRecDepth 100000 in
theorem tk_D_155 : tables_1[1611]? = some (Cond.code tE_155.1.2.2.2.2.2.2 tE_155.1.2.2.2.1 tE_155.1.2.2.2.2.1 tE_155.1.2.2.2.2.2.1) := rfl
set_option maxRecDepth 100000 in
theorem tk_D_156 : tables_1[1615]? = some (Cond.code tE_156.1.2.2.2.2.2.2 tE_156.1.2.2.2.1 tE_156.1.2.2.2.2.1 tE_156.1.2.2.2.2.2.1) := rfl
set_option maxRecDepth 100000 in
theorem tk_D_157 : tables_1[1618]? = some (Cond.code tE_157.1.2.2.2.2.2.2 tE_157.1.2.2.2.1 tE_157.1.2.2.2.2.1 tE_157.1.2.2.2.2.2.1) := rfl
set_option maxRecDepth 100000 in
theorem tk_D_158 : tables_1[1622]? = some (Cond.code tE_158.1.2.2.2.2.2.2 tE_158.1.2.2.2.1 tE_158.1.2.2.2.2.1 tE_158.1.2.2.2.2.2.1) := rfl
set_option maxRecDepth 100000 in
theorem tk_D_159 : tables_1[1626]? = some (Cond.code tE_159.1.2.2.2.2.2.2 tE_159.1.2.2.2.1 tE_159.1.2.2.2.2.1 tE_159.1.2.2.2.2.2.1) := rfl
set_option maxRecDepth 100000 in
theorem tk_D_160 : tables_1[1630]? = some (Cond.code tE_160.1.2.2.2.2.2.2 tE_160.1.2.2.2.1 tE_160.1.2.2.2.2.1 tE_160.1.2.2.2.2.2.1) := rfl
set_option maxRecDepth 100000 in
theorem tk_D_161 : tables_1[1634]? = some (Cond.code tE_161.1.2.2.2.2.2.2 tE_161.1.2.2.2.1 tE_161.1.2.2.2.2.1 tE_161.1.2.2.2.2.2.1) := rfl
set_option maxRecDepth 100000 in
theorem tk_D_162 : tables_1[1638]? = some (Cond.code tE_162.1.2.2.2.2.2.2 tE_162.1.2.2.2.1 tE_162.1.2.2.2.2.1 tE_162.1.2.2.2.2.2.1) := rfl
set_option maxRecDepth 100000 in
theorem tk_D_163 : tables_1[1642]? = some (Cond.code tE_163.1.2.2.2.2.2.2 tE_163.1.2.2.2.1 tE_163.1.2.2.2.2.1 tE_163.1.2.2.2.2.2.1) := rfl
set_option maxRecDepth 100000 in
theorem tk_D_164 : tables_1[1646]? = some (Cond.code tE_164.1.2.2.2.2.2.2 tE_164.1.2.2.2.1 tE_164.1.2.2.2.2.1 tE_164.1.2.2.2.2.2.1) := rfl
set_option maxRecDepth 100000 in
theorem tk_D_165 : tables_1[1650]? = some (Cond.code tE_165.1.2.2.2.2.2.2 tE_165.1.2.2.2.1 tE_165.1.2.2.2.2.1 tE_165.1.2.2.2.2.2.1) := rfl
set_option maxRecDepth 100000 in
theorem tk_D_166 : tables_1[1654]? = some (Cond.code tE_166.1.2.2.2.2.2.2 tE_166.1.2.2.2.1 tE_166.1.2.2.2.2.1 tE_166.1.2.2.2.2.2.1) := rfl
set_option maxRecDepth 100000 in
theorem tk_D_167 : tables_1[1658]? = some (Cond.code tE_167.1.2.2.2.2.2.2 tE_167.1.2.2.2.1 tE_167.1.2.2.2.2.1 tE_167.1.2.2.2.2.2.1) := rfl
set_option maxRecDepth 100000 in
theorem tk_D_168 : tables_1[1662]? = some (Cond.code tE_168.1.2.2.2.2.2.2 tE_168.1.2.2.2.1 tE_168.1.2.2.2.2.1 tE_168.1.2.2.2.2.2.1) := rfl
set_option maxRecDepth 100000 in
theorem tk_D_169 : tables_1[1666]? = some (Cond.code tE_169.1.2.2.2.2.2.2 tE_169.1.2.2.2.1 tE_169.1.2.2.2.2.1 tE_169.1.2.2.2.2.2.1) := rfl
set_option maxRecDepth 100000 in
theorem tk_D_170 : tables_1[1670]? = some (Cond.code tE_170.1.2.2.2.2.2.2 tE_170.1.2.2.2.1 tE_170.1.2.2.2.2.1 tE_170.1.2.2.2.2.2.1) := rfl
set_option maxRecDepth 100000 in
theorem tk_D_171 : tables_1[1674]? = some (Cond.code tE_171.1.2.2.2.2.2.2 tE_171.1.2.2.2.1 tE_171.1.2.2.2.2.1 tE_171.1.2.2.2.2.2.1) := rfl
set_option maxRecDepth 100000 in
theorem tk_D_172 : tables_1[1678]? = some (Cond.code tE_172.1.2.2.2.2.2.2 tE_172.1.2.2.2.1 tE_172.1.2.2.2.2.1 tE_172.1.2.2.2.2.2.1) := rfl
set_option maxRecDepth 100000 in
theorem tk_D_173 : tables_1[1682]? = some (Cond.code tE_173.1.2.2.2.2.2.2 tE_173.1.2.2.2.1 tE_173.1.2.2.2.2.1 tE_173.1.2.2.2.2.2.1) := rfl
set_option maxRecDepth 100000 in
theorem tk_D_174 : tables_1[1686]? = some (Cond.code tE_174.1.2.2.2.2.2.2 tE_174.1.2.2.2.1 tE_174.1.2.2.2.2.1 tE_174.1.2.2.2.2.2.1) := rfl
set_option maxRecDepth 100000 in
theorem tk_D_175 : tables_1[1690]? = some (Cond.code tE_175.1.2.2.2.2.2.2 tE_175.1.2.2.2.1 tE_175.1.2.2.2.2.1 tE_175.1.2.2.2.2.2.1) := rfl
set_option maxRecDepth 100000 in
theorem tk_D_176 : tables_1[1694]? = some (Cond.code tE_176.1.2.2.2.2.2.2 tE_176.1.2.2.2.1 tE_176.1.2.2.2.2.1 tE_176.1.2.2.2.2.2.1) := rfl
set_option maxRecDepth 100000 in
theorem tk_D_177 : tables_1[1698]? = some (Cond.code tE_177.1.2.2.2.2.2.2 tE_177.1.2.2.2.1 tE_177.1.2.2.2.2.1 tE_177.1.2.2.2.2.2.1) := rfl
set_option maxRecDepth 100000 in
theorem tk_D_178 : tables_1[1702]? = some (Cond.code tE_178.1.2.2.2.2.2.2 tE_178.1.2.2.2.1 tE_178.1.2.2.2.2.1 tE_178.1.2.2.2.2.2.1) := rfl
set_option maxRecDepth 100000 in
theorem tk_D_179 : tables_1[1706]? = some (Cond.code tE_179.1.2.2.2.2.2.2 tE_179.1.2.2.2.1 tE_179.1.2.2.2.2.1 tE_179.1.2.2.2.2.2.1) := rfl
set_option maxRecDepth 100000 in
theorem tk_D_180 : tables_1[1710]? = some (Cond.code tE_180.1.2.2.2.2.2.2 tE_180.1.2.2.2.1 tE_180.1.2.2.2.2.1 tE_180.1.2.2.2.2.2.1) := rfl
set_option maxRecDepth 100000 in
theorem tk_D_181 : tables_1[1714]? = some (Cond.code tE_181.1.2.2.2.2.2.2 tE_181.1.2.2.2.1 tE_181.1.2.2.2.2.1 tE_181.1.2.2.2.2.2.1) := rfl
set_option maxRecDepth 100000 in
theorem tk_D_182 : tables_1[1718]? = some (Cond.code tE_182.1.2.2.2.2.2.2 tE_182.1.2.2.2.1 tE_182.1.2.2.2.2.1 tE_182.1.2.2.2.2.2.1) := rfl
set_option maxRecDepth 100000 in
theorem tk_D_183 : tables_1[1722]? = some (Cond.code tE_183.1.2.2.2.2.2.2 tE_183.1.2.2.2.1 tE_183.1.2.2.2.2.1 tE_183.1.2.2.2.2.2.1) := rfl
set_option maxRecDepth 100000 in
theorem tk_D_184 : tables_1[1726]? = some (Cond.code tE_184.1.2.2.2.2.2.2 tE_184.1.2.2.2.1 tE_184.1.2.2.2.2.1 tE_184.1.2.2.2.2.2.1) := rfl
set_option maxRecDepth 100000 in
theorem tk_D_185 : tables_1[1730]? = some (Cond.code tE_185.1.2.2.2.2.2.2 tE_185.1.2.2.2.1 tE_185.1.2.2.2.2.1 tE_185.1.2.2.2.2.2.1) := rfl
set_option maxRecDepth 100000 in
theorem tk_D_186 : tables_1[1734]? = some (Cond.code tE_186.1.2.2.2.2.2.2 tE_186.1.2.2.2.1 tE_186.1.2.2.2.2.1 tE_186.1.2.2.2.2.2.1) := rfl
set_option maxRecDepth 100000 in
theorem tk_D_187 : tables_1[1738]? = some (Cond.code tE_187.1.2.2.2.2.2.2 tE_187.1.2.2.2.1 tE_187.1.2.2.2.2.1 tE_187.1.2.2.2.2.2.1) := rfl
set_option maxRecDepth 100000 in
theorem tk_D_188 : tables_1[1742]? = some (Cond.code tE_188.1.2.2.2.2.2.2 tE_188.1.2.2.2.1 tE_188.1.2.2.2.2.1 tE_188.1.2.2.2.2.2.1) := rfl
set_option maxRecDepth 100000 in
theorem tk_D_189 : tables_1[1746]? = some (Cond.code tE_189.1.2.2.2.2.2.2 tE_189.1.2.2.2.1 tE_189.1.2.2.2.2.1 tE_189.1.2.2.2.2.2.1) := rfl
set_option maxRecDepth 100000 in
theorem tk_D_190 : tables_1[1750]? = some (Cond.code tE_190.1.2.2.2.2.2.2 tE_190.1.2.2.2.1 tE_190.1.2.2.2.2.1 tE_190.1.2.2.2.2.2.1) := rfl
set_option maxRecDepth 100000 in
theorem tk_D_191 : tables_1[1754]? = some (Cond.code tE_191.1.2.2.2.2.2.2 tE_191.1.2.2.2.1 tE_191.1.2.2.2.2.1 tE_191.1.2.2.2.2.2.1) := rfl
set_option maxRecDepth 100000 in
theorem tk_D_192 : tables_1[1758]? = some (Cond.code tE_192.1.2.2.2.2.2.2 tE_192.1.2.2.2.1 tE_192.1.2.2.2.2.1 tE_192.1.2.2.2.2.2.1) := rfl
set_option maxRecDepth 100000 in
theorem tk_D_193 : tables_1[1762]? = some (Cond.code tE_193.1.2.2.2.2.2.2 tE_193.1.2.2.2.1 tE_193.1.2.2.2.2.1 tE_193.1.2.2.2.2.2.1) := rfl
set_option maxRecDepth 100000 in
theorem tk_D_194 : tables_1[1766]? = some (Cond.code tE_194.1.2.2.2.2.2.2 tE_194.1.2.2.2.1 tE_194.1.2.2.2.2.1 tE_194.1.2.2.2.2.2.1) := rfl
set_option maxRecDepth 100000 in
theorem tk_D_195 : tables_1[1770]? = some (Cond.code tE_195.1.2.2.2.2.2.2 tE_195.1.2.2.2.1 tE_195.1.2.2.2.2.1 tE_195.1.2.2.2.2.2.1) := rfl
set_option maxRecDepth 100000 in
theorem tk_D_196 : tables_1[1773]? = some (Cond.code tE_196.1.2.2.2.2.2.2 tE_196.1.2.2.2.1 tE_196.1.2.2.2.2.1 tE_196.1.2.2.2.2.2.1) := rfl
set_option maxRecDepth 100000 in
theorem tk_D_197 : tables_1[1779]? = some (Cond.code tE_197.1.2.2.2.2.2.2 tE_197.1.2.2.2.1 tE_197.1.2.2.2.2.1 tE_197.1.2.2.2.2.2.1) := rfl
set_option maxRecDepth 100000 in
theorem tk_D_198 : tables_1[1783]? = some (Cond.code tE_198.1.2.2.2.2.2.2 tE_198.1.2.2.2.1 tE_198.1.2.2.2.2.1 tE_198.1.2.2.2.2.2.1) := rfl
set_option maxRecDepth 100000 in
theorem tk_D_199 : tables_1[1787]? = some (Cond.code tE_199.1.2.2.2.2.2.2 tE_199.1.2.2.2.1 tE_199.1.2.2.2.2.1 tE_199.1.2.2.2.2.2.1) := rfl
set_option maxRecDepth 100000 in
theorem tk_D_200 : tables_1[1791]? = some (Cond.code tE_200.1.2.2.2.2.2.2 tE_200.1.2.2.2.1 tE_200.1.2.2.2.2.1 tE_200.1.2.2.2.2.2.1) := rfl
set_option maxRecDepth 100000 in
theorem tk_D_201 : tables_1[1795]? = some (Cond.code tE_201.1.2.2.2.2.2.2 tE_201.1.2.2.2.1 tE_201.1.2.2.2.2.1 tE_201.1.2.2.2.2.2.1) := rfl
set_option maxRecDepth 100000 in
theorem tk_D_202 : tables_1[1799]? = some (Cond.code tE_202.1.2.2.2.2.2.2 tE_202.1.2.2.2.1 tE_202.1.2.2.2.2.1 tE_202.1.2.2.2.2.2.1) := rfl
set_option maxRecDepth 100000 in
theorem tk_D_203 : tables_1[1803]? = some (Cond.code tE_203.1.2.2.2.2.2.2 tE_203.1.2.2.2.1 tE_203.1.2.2.2.2.1 tE_203.1.2.2.2.2.2.1) := rfl
set_option maxRecDepth 100000 in
theorem tk_D_204 : tables_1[1807]? = some (Cond.code tE_204.1.2.2.2.2.2.2 tE_204.1.2.2.2.1 tE_204.1.2.2.2.2.1 tE_204.1.2.2.2.2.2.1) := rfl
set_option maxRecDepth 100000 in
theorem tk_D_205 : tables_1[1811]? = some (Cond.code tE_205.1.2.2.2.2.2.2 tE_205.1.2.2.2.1 tE_205.1.2.2.2.2.1 tE_205.1.2.2.2.2.2.1) := rfl
set_option maxRecDepth 100000 in
theorem tk_D_206 : tables_1[1815]? = some (Cond.code tE_206.1.2.2.2.2.2.2 tE_206.1.2.2.2.1 tE_206.1.2.2.2.2.1 tE_206.1.2.2.2.2.2.1) := rfl
set_option maxRecDepth 100000 in
theorem tk_D_207 : tables_1[1819]? = some (Cond.code tE_207.1.2.2.2.2.2.2 tE_207.1.2.2.2.1 tE_207.1.2.2.2.2.1 tE_207.1.2.2.2.2.2.1) := rfl
set_option maxRecDepth 100000 in
theorem tk_D_208 : tables_1[1823]? = some (Cond.code tE_208.1.2.2.2.2.2.2 tE_208.1.2.2.2.1 tE_208.1.2.2.2.2.1 tE_208.1.2.2.2.2.2.1) := rfl
set_option maxRecDepth 100000 in
theorem tk_D_209 : tables_1[1827]? = some (Cond.code tE_209.1.2.2.2.2.2.2 tE_209.1.2.2.2.1 tE_209.1.2.2.2.2.1 tE_209.1.2.2.2.2.2.1) := rfl
set_option maxRecDepth 100000 in
theorem tk_D_210 : tables_1[1831]? = some (Cond.code tE_210.1.2.2.2.2.2.2 tE_210.1.2.2.2.1 tE_210.1.2.2.2.2.1 tE_210.1.2.2.2.2.2.1) := rfl
set_option maxRecDepth 100000 in
theorem tk_D_211 : tables_1[1835]? = some (Cond.code tE_211.1.2.2.2.2.2.2 tE_211.1.2.2.2.1 tE_211.1.2.2.2.2.1 tE_211.1.2.2.2.2.2.1) := rfl
set_option maxRecDepth 100000 in
theorem tk_D_212 : tables_1[1839]? = some (Cond.code tE_212.1.2.2.2.2.2.2 tE_212.1.2.2.2.1 tE_212.1.2.2.2.2.1 tE_212.1.2.2.2.2.2.1) := rfl
set_option maxRecDepth 100000 in
theorem tk_D_213 : tables_1[1843]? = some (Cond.code tE_213.1.2.2.2.2.2.2 tE_213.1.2.2.2.1 tE_213.1.2.2.2.2.1 tE_213.1.2.2.2.2.2.1) := rfl
set_option maxRecDepth 100000 in
theorem tk_D_214 : tables_1[1847]? = some (Cond.code tE_214.1.2.2.2.2.2.2 tE_214.1.2.2.2.1 tE_214.1.2.2.2.2.1 tE_214.1.2.2.2.2.2.1) := rfl
set_option maxRecDepth 100000 in
theorem tk_D_215 : tables_1[1851]? = some (Cond.code tE_215.1.2.2.2.2.2.2 tE_215.1.2.2.2.1 tE_215.1.2.2.2.2.1 tE_215.1.2.2.2.2.2.1) := rfl
set_option maxRecDepth 100000 in
theorem tk_D_216 : tables_1[1855]? = some (Cond.code tE_216.1.2.2.2.2.2.2 tE_216.1.2.2.2.1 tE_216.1.2.2.2.2.1 tE_216.1.2.2.2.2.2.1) := rfl
set_option maxRecDepth 100000 in
theorem tk_D_217 : tables_1[1859]? = some (Cond.code tE_217.1.2.2.2.2.2.2 tE_217.1.2.2.2.1 tE_217.1.2.2.2.2.1 tE_217.1.2.2.2.2.2.1) := rfl
set_option maxRecDepth 100000 in
theorem tk_D_218 : tables_1[1863]? = some (Cond.code tE_218.1.2.2.2.2.2.2 tE_218.1.2.2.2.1 tE_218.1.2.2.2.2.1 tE_218.1.2.2.2.2.2.1) := rfl
set_option maxRecDepth 100000 in
theorem tk_D_219 : tables_1[1867]? = some (Cond.code tE_219.1.2.2.2.2.2.2 tE_219.1.2.2.2.1 tE_219.1.2.2.2.2.1 tE_219.1.2.2.2.2.2.1) := rfl
set_option maxRecDepth 100000 in
theorem tk_D_220 : tables_1[1871]? = some (Cond.code tE_220.1.2.2.2.2.2.2 tE_220.1.2.2.2.1 tE_220.1.2.2.2.2.1 tE_220.1.2.2.2.2.2.1) := rfl
set_option maxRecDepth 100000 in
theorem tk_D_221 : tables_1[1875]? = some (Cond.code tE_221.1.2.2.2.2.2.2 tE_221.1.2.2.2.1 tE_221.1.2.2.2.2.1 tE_221.1.2.2.2.2.2.1) := rfl
set_option maxRecDepth 100000 in
theorem tk_D_222 : tables_1[1879]? = some (Cond.code tE_222.1.2.2.2.2.2.2 tE_222.1.2.2.2.1 tE_222.1.2.2.2.2.1 tE_222.1.2.2.2.2.2.1) := rfl
set_option maxRecDepth 100000 in
theorem tk_D_223 : tables_1[1883]? = some (Cond.code tE_223.1.2.2.2.2.2.2 tE_223.1.2.2.2.1 tE_223.1.2.2.2.2.1 tE_223.1.2.2.2.2.2.1) := rfl
set_option maxRecDepth 100000 in
theorem tk_D_224 : tables_1[1887]? = some (Cond.code tE_224.1.2.2.2.2.2.2 tE_224.1.2.2.2.1 tE_224.1.2.2.2.2.1 tE_224.1.2.2.2.2.2.1) := rfl
set_option maxRecDepth 100000 in
theorem tk_D_225 : tables_1[1891]? = some (Cond.code tE_225.1.2.2.2.2.2.2 tE_225.1.2.2.2.1 tE_225.1.2.2.2.2.1 tE_225.1.2.2.2.2.2.1) := rfl
set_option maxRecDepth 100000 in
theorem tk_D_226 : tables_1[1895]? = some (Cond.code tE_226.1.2.2.2.2.2.2 tE_226.1.2.2.2.1 tE_226.1.2.2.2.2.1 tE_226.1.2.2.2.2.2.1) := rfl
set_option maxRecDepth 100000 in
theorem tk_D_227 : tables_1[1899]? = some (Cond.code tE_227.1.2.2.2.2.2.2 tE_227.1.2.2.2.1 tE_227.1.2.2.2.2.1 tE_227.1.2.2.2.2.2.1) := rfl
set_option maxRecDepth 100000 in
theorem tk_D_228 : tables_1[1903]? = some (Cond.code tE_228.1.2.2.2.2.2.2 tE_228.1.2.2.2.1 tE_228.1.2.2.2.2.1 tE_228.1.2.2.2.2.2.1) := rfl
set_option maxRecDepth 100000 in
theorem tk_D_229 : tables_1[1907]? = some (Cond.code tE_229.1.2.2.2.2.2.2 tE_229.1.2.2.2.1 tE_229.1.2.2.2.2.1 tE_229.1.2.2.2.2.2.1) := rfl
