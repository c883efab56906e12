/-- a field's link, by its place; ci: the own class, in a constructor (its finals alone are put there) -/
def tk_G (own : String) (ci : Option Nat) (ps : List (Nat × Nat)) (q : Nat × (Nat × Nat × FieldType × Bool)) : Bool := match tb_cl[q.2.1]? with
  | some c => decide (q.2.2.1 < c.2.2) && (decide (parseFieldDescriptor (c.2.1 q.2.2.1).2.2.1 = some q.2.2.2.1) && (decide ((c.2.1 q.2.2.1).2.2.2 = q.2.2.2.2) &&
    ((tb_w ((vz_lk ps q.1).getD 0) (.fieldLink own q.1 (c.2.1 q.2.2.1).1 (c.2.1 q.2.2.1).2.1 (c.2.1 q.2.2.1).2.2.1) && (!(q.2.2.2.2 && decide (ci = some q.2.1)) || decide ((c.2.1 q.2.2.1).1 = own))) ||
     (!(q.2.2.2.2 && decide (ci = some q.2.1)) && (tb_wn ((vz_lk ps q.1).getD 0) (.fieldLinkNest own q.1 (c.2.1 q.2.2.1).1 (c.2.1 q.2.2.1).2.1 (c.2.1 q.2.2.1).2.2.1 "GameText") || tb_wn ((vz_lk ps q.1).getD 0) (.fieldLinkNest own q.1 (c.2.1 q.2.2.1).1 (c.2.1 q.2.2.1).2.1 (c.2.1 q.2.2.1).2.2.1 "GameTextModel"))))))
  | none => false
theorem tk_L_0 : tE_0.2.2.2.1.all (tk_L "GameTextLaw" [(27, 30), (30, 1209), (31, 510), (35, 1500), (36, 1002), (41, 1512), (42, 1496), (45, 538), (48, 1516), (49, 952), (52, 1820), (53, 956), (56, 1824), (57, 1078), (60, 1828), (61, 960), (64, 1868), (65, 964), (68, 1872), (69, 1183), (72, 1876), (73, 968), (76, 1880), (77, 976), (80, 1888), (81, 980), (84, 1892), (85, 989), (88, 1900), (89, 993), (93, 1904)]) = true := by decide +kernel
theorem tk_N_0 : tE_0.2.2.2.2.1.all (tk_N "GameTextLaw" [(8, 28, 29, 1), (28, 1207, 1208, 11)]) = true := by decide +kernel
theorem tk_F_1 : tE_1.2.2.1.all (tk_G "GameText" (some 0) [(10, 479), (19, 484), (23, 485), (28, 149), (35, 480), (49, 481), (56, 482), (65, 483), (69, 486), (73, 487), (76, 488)]) = true := by decide +kernel
theorem tk_L_1 : tE_1.2.2.2.1.all (tk_L "GameText" [(1, 33), (9, 38), (18, 76), (32, 210), (41, 268), (46, 306), (55, 382), (62, 441)]) = true := by decide +kernel
theorem tk_N_1 : tE_1.2.2.2.2.1.all (tk_N "GameText" [(7, 36, 37, 2), (16, 74, 75, 3), (26, 208, 209, 5), (39, 266, 267, 6), (44, 304, 305, 7), (53, 380, 381, 9), (60, 439, 440, 10)]) = true := by decide +kernel
theorem tk_F_2 : tE_2.2.2.1.all (tk_G "GameText$Words" (some 1) [(9, 42), (15, 44), (19, 47), (22, 49), (25, 51), (28, 54), (31, 56)]) = true := by decide +kernel
theorem tk_L_2 : tE_2.2.2.2.1.all (tk_L "GameText$Words" [(3, 41)]) = true := by decide +kernel
theorem tk_F_3 : tE_3.2.2.1.all (tk_G "GameText$Text" (some 2) [(12, 145), (18, 150), (22, 153), (25, 156), (28, 159), (31, 161), (34, 164), (37, 167), (41, 171), (44, 174), (47, 176), (50, 180)]) = true := by decide +kernel
theorem tk_L_3 : tE_3.2.2.2.1.all (tk_L "GameText$Text" [(3, 79), (11, 82)]) = true := by decide +kernel
theorem tk_N_3 : tE_3.2.2.2.2.1.all (tk_N "GameText$Text" [(9, 80, 81, 4)]) = true := by decide +kernel
theorem tk_F_4 : tE_4.2.2.1.all (tk_G "GameText$Code" (some 3) [(9, 86), (15, 90), (18, 95), (21, 100), (24, 105), (27, 110), (30, 113), (33, 118), (36, 122)]) = true := by decide +kernel
theorem tk_L_4 : tE_4.2.2.2.1.all (tk_L "GameText$Code" [(3, 85)]) = true := by decide +kernel
theorem tk_F_5 : tE_5.2.2.1.all (tk_G "GameText$Parser" (some 4) [(9, 214), (15, 215), (19, 216), (22, 217), (25, 218), (28, 219), (31, 220), (35, 221), (39, 222), (42, 223), (45, 224), (48, 225), (51, 226), (54, 227), (57, 228), (60, 229), (63, 230)]) = true := by decide +kernel
theorem tk_L_5 : tE_5.2.2.2.1.all (tk_L "GameText$Parser" [(3, 213)]) = true := by decide +kernel
theorem tk_F_6 : tE_6.2.2.1.all (tk_G "GameText$Machine" (some 5) [(9, 272), (15, 274), (18, 275), (21, 276), (25, 147), (31, 277), (32, 278), (36, 280), (39, 283), (43, 284)]) = true := by decide +kernel
theorem tk_L_6 : tE_6.2.2.2.1.all (tk_L "GameText$Machine" [(3, 271)]) = true := by decide +kernel
theorem tk_F_7 : tE_7.2.2.1.all (tk_G "GameText$Checker" (some 6) [(14, 339), (20, 340), (24, 341), (28, 146), (34, 342), (35, 343), (39, 345), (42, 346), (45, 347), (48, 348), (51, 349), (54, 350), (57, 351), (60, 352)]) = true := by decide +kernel
theorem tk_L_7 : tE_7.2.2.2.1.all (tk_L "GameText$Checker" [(3, 309), (11, 312)]) = true := by decide +kernel
theorem tk_N_7 : tE_7.2.2.2.2.1.all (tk_N "GameText$Checker" [(9, 310, 311, 8)]) = true := by decide +kernel
theorem tk_F_8 : tE_8.2.2.1.all (tk_G "GameText$Names" (some 7) [(9, 316), (15, 318), (19, 319), (22, 320), (25, 322), (28, 324)]) = true := by decide +kernel
theorem tk_L_8 : tE_8.2.2.2.1.all (tk_L "GameText$Names" [(3, 315)]) = true := by decide +kernel
theorem tk_F_9 : tE_9.2.2.1.all (tk_G "GameText$Graph" (some 8) [(11, 386), (15, 387), (18, 390), (21, 393), (24, 395), (27, 397), (30, 399), (33, 401), (36, 403), (39, 405), (43, 407), (46, 410), (49, 411)]) = true := by decide +kernel
theorem tk_L_9 : tE_9.2.2.2.1.all (tk_L "GameText$Graph" [(3, 385)]) = true := by decide +kernel
theorem tk_F_10 : tE_10.2.2.1.all (tk_G "GameText$Explorer" (some 9) [(9, 445), (15, 446), (19, 447), (23, 448), (26, 449), (29, 450), (33, 148), (39, 451), (40, 452), (44, 454), (47, 456)]) = true := by decide +kernel
theorem tk_L_10 : tE_10.2.2.2.1.all (tk_L "GameText$Explorer" [(3, 444)]) = true := by decide +kernel
theorem tk_F_11 : tE_11.2.2.1.all (tk_G "GameText" none [(10, 479), (80, 45)]) = true := by decide +kernel
theorem tk_L_11 : tE_11.2.2.2.1.all (tk_L "GameText" [(83, 514), (86, 534)]) = true := by decide +kernel
theorem tk_F_12 : tE_12.2.2.1.all (tk_G "GameText$Words" none [(15, 44), (9, 42)]) = true := by decide +kernel
theorem tk_L_12 : tE_12.2.2.2.1.all (tk_L "GameText$Words" [(34, 518)]) = true := by decide +kernel
theorem tk_L_13 : tE_13.2.2.2.1.all (tk_L "java/util/Arrays" [(304, 528), (150, 531)]) = true := by decide +kernel
theorem tk_F_14 : tE_14.2.2.1.all (tk_G "GameText$Words" none [(15, 44), (9, 42)]) = true := by decide +kernel
theorem tk_F_15 : tE_15.2.2.1.all (tk_G "GameText" none [(35, 480), (23, 485), (28, 149), (49, 481), (107, 344), (76, 488), (10, 479), (108, 53), (80, 45)]) = true := by decide +kernel
theorem tk_L_15 : tE_15.2.2.2.1.all (tk_L "GameText" [(99, 542), (103, 796), (111, 943)]) = true := by decide +kernel
theorem tk_F_16 : tE_16.2.2.1.all (tk_G "GameText$Parser" none [(35, 221), (66, 123), (9, 214), (71, 48), (39, 222), (79, 50)]) = true := by decide +kernel
theorem tk_L_16 : tE_16.2.2.2.1.all (tk_L "GameText$Parser" [(76, 546), (82, 687), (86, 764), (89, 772), (92, 780), (95, 784)]) = true := by decide +kernel
theorem tk_F_17 : tE_17.2.2.1.all (tk_G "GameText$Words" none [(19, 47), (25, 51), (15, 44), (22, 49), (9, 42)]) = true := by decide +kernel
theorem tk_L_17 : tE_17.2.2.2.1.all (tk_L "GameText$Words" [(40, 550), (43, 554), (47, 557), (50, 561), (53, 621), (56, 625)]) = true := by decide +kernel
theorem tk_F_18 : tE_18.2.2.1.all (tk_G "GameText$Words" none [(19, 47), (15, 44), (9, 42)]) = true := by decide +kernel
theorem tk_F_20 : tE_20.2.2.1.all (tk_G "GameText$Words" none [(19, 47), (15, 44), (9, 42), (25, 51), (28, 54), (22, 49)]) = true := by decide +kernel
theorem tk_L_20 : tE_20.2.2.2.1.all (tk_L "GameText$Words" [(43, 554), (50, 561), (60, 564)]) = true := by decide +kernel
theorem tk_F_22 : tE_22.2.2.1.all (tk_G "GameText$Words" none [(28, 54)]) = true := by decide +kernel
theorem tk_L_22 : tE_22.2.2.2.1.all (tk_L "GameText$Words" [(66, 569), (70, 579), (74, 617)]) = true := by decide +kernel
theorem tk_K_22 : tE_22.2.2.2.2.2.1.all (tk_K "GameText$Words" [(64, 568)]) = true := by decide +kernel
theorem tk_F_23 : tE_23.2.2.1.all (tk_G "GameText$Words" none [(28, 54), (9, 42), (25, 51)]) = true := by decide +kernel
theorem tk_L_23 : tE_23.2.2.2.1.all (tk_L "GameText$Words" [(70, 579)]) = true := by decide +kernel
theorem tk_K_23 : tE_23.2.2.2.2.2.1.all (tk_K "GameText$Words" [(64, 568)]) = true := by decide +kernel
theorem tk_F_24 : tE_24.2.2.1.all (tk_G "GameText$Words" none [(31, 56), (19, 47), (15, 44), (9, 42), (25, 51), (28, 54), (22, 49)]) = true := by decide +kernel
theorem tk_L_24 : tE_24.2.2.2.1.all (tk_L "GameText$Words" [(50, 561)]) = true := by decide +kernel
theorem tk_F_25 : tE_25.2.2.1.all (tk_G "GameText$Words" none [(19, 47), (15, 44), (9, 42), (28, 54), (22, 49)]) = true := by decide +kernel
theorem tk_L_25 : tE_25.2.2.2.1.all (tk_L "GameText$Words" [(79, 630)]) = true := by decide +kernel
theorem tk_K_25 : tE_25.2.2.2.2.2.1.all (tk_K "GameText$Words" [(77, 629)]) = true := by decide +kernel
theorem tk_F_26 : tE_26.2.2.1.all (tk_G "GameText$Parser" none [(9, 214), (79, 50)]) = true := by decide +kernel
theorem tk_L_26 : tE_26.2.2.2.1.all (tk_L "GameText$Parser" [(162, 691), (165, 716), (168, 720), (172, 724), (175, 732)]) = true := by decide +kernel
theorem tk_L_27 : tE_27.2.2.2.1.all (tk_L "GameText$Parser" [(178, 695), (150, 708)]) = true := by decide +kernel
theorem tk_F_28 : tE_28.2.2.1.all (tk_G "GameText$Parser" none [(31, 220), (15, 215), (19, 216), (35, 221), (54, 227), (51, 226), (22, 217), (25, 218), (28, 219), (126, 108)]) = true := by decide +kernel
theorem tk_L_28 : tE_28.2.2.2.1.all (tk_L "GameText$Parser" [(153, 699), (109, 703)]) = true := by decide +kernel
theorem tk_F_29 : tE_29.2.2.1.all (tk_G "GameText$Parser" none [(31, 220), (15, 215)]) = true := by decide +kernel
theorem tk_F_30 : tE_30.2.2.1.all (tk_G "GameText$Code" none [(36, 122), (9, 86), (15, 90), (18, 95), (21, 100), (24, 105), (27, 110), (30, 113), (33, 118)]) = true := by decide +kernel
theorem tk_L_30 : tE_30.2.2.2.1.all (tk_L "GameText$Code" [(40, 707)]) = true := by decide +kernel
theorem tk_F_31 : tE_31.2.2.1.all (tk_G "GameText$Parser" none [(31, 220), (15, 215), (19, 216), (9, 214), (106, 52), (22, 217), (54, 227), (25, 218), (28, 219)]) = true := by decide +kernel
theorem tk_L_31 : tE_31.2.2.2.1.all (tk_L "GameText$Parser" [(113, 712)]) = true := by decide +kernel
theorem tk_F_32 : tE_32.2.2.1.all (tk_G "GameText$Parser" none [(39, 222)]) = true := by decide +kernel
theorem tk_L_33 : tE_33.2.2.2.1.all (tk_L "GameText$Parser" [(178, 695), (153, 699), (150, 708)]) = true := by decide +kernel
theorem tk_F_34 : tE_34.2.2.1.all (tk_G "GameText$Parser" none [(35, 221), (9, 214), (106, 52), (54, 227)]) = true := by decide +kernel
theorem tk_L_34 : tE_34.2.2.2.1.all (tk_L "GameText$Parser" [(178, 695), (109, 703), (150, 708)]) = true := by decide +kernel
theorem tk_F_35 : tE_35.2.2.1.all (tk_G "GameText$Parser" none [(31, 220), (42, 223), (35, 221), (9, 214), (106, 52), (54, 227)]) = true := by decide +kernel
theorem tk_L_35 : tE_35.2.2.2.1.all (tk_L "GameText$Parser" [(178, 695), (138, 728), (109, 703), (150, 708)]) = true := by decide +kernel
theorem tk_F_36 : tE_36.2.2.1.all (tk_G "GameText$Parser" none [(51, 226)]) = true := by decide +kernel
theorem tk_F_37 : tE_37.2.2.1.all (tk_G "GameText$Parser" none [(31, 220), (9, 214), (79, 50), (15, 215), (51, 226)]) = true := by decide +kernel
theorem tk_L_37 : tE_37.2.2.2.1.all (tk_L "GameText$Parser" [(178, 695), (182, 736), (185, 752), (188, 756), (113, 712), (191, 760)]) = true := by decide +kernel
theorem tk_F_38 : tE_38.2.2.1.all (tk_G "GameText$Parser" none [(35, 221), (45, 224), (54, 227), (42, 223), (48, 225), (194, 94), (60, 229)]) = true := by decide +kernel
theorem tk_L_38 : tE_38.2.2.2.1.all (tk_L "GameText$Parser" [(109, 703), (102, 740), (129, 744), (141, 748), (113, 712)]) = true := by decide +kernel
theorem tk_F_39 : tE_39.2.2.1.all (tk_G "GameText$Parser" none [(42, 223), (45, 224), (35, 221), (66, 123), (48, 225), (31, 220), (51, 226), (39, 222)]) = true := by decide +kernel
theorem tk_F_40 : tE_40.2.2.1.all (tk_G "GameText$Parser" none [(35, 221), (9, 214), (106, 52)]) = true := by decide +kernel
theorem tk_L_40 : tE_40.2.2.2.1.all (tk_L "GameText$Parser" [(109, 703), (113, 712)]) = true := by decide +kernel
theorem tk_F_41 : tE_41.2.2.1.all (tk_G "GameText$Parser" none [(35, 221), (60, 229)]) = true := by decide +kernel
theorem tk_L_41 : tE_41.2.2.2.1.all (tk_L "GameText$Parser" [(109, 703), (102, 740)]) = true := by decide +kernel
theorem tk_F_42 : tE_42.2.2.1.all (tk_G "GameText$Parser" none [(35, 221), (9, 214), (106, 52), (126, 108), (28, 219), (66, 123), (15, 215), (25, 218), (54, 227)]) = true := by decide +kernel
theorem tk_L_42 : tE_42.2.2.2.1.all (tk_L "GameText$Parser" [(109, 703), (113, 712)]) = true := by decide +kernel
theorem tk_F_43 : tE_43.2.2.1.all (tk_G "GameText$Parser" none [(25, 218), (35, 221), (15, 215), (19, 216), (54, 227)]) = true := by decide +kernel
theorem tk_L_43 : tE_43.2.2.2.1.all (tk_L "GameText$Parser" [(109, 703)]) = true := by decide +kernel
theorem tk_F_44 : tE_44.2.2.1.all (tk_G "GameText$Parser" none [(35, 221), (19, 216), (54, 227), (31, 220), (51, 226)]) = true := by decide +kernel
theorem tk_L_44 : tE_44.2.2.2.1.all (tk_L "GameText$Parser" [(188, 756), (109, 703)]) = true := by decide +kernel
theorem tk_F_45 : tE_45.2.2.1.all (tk_G "GameText$Parser" none [(45, 224), (9, 214), (106, 52), (79, 50), (144, 57), (35, 221), (122, 55), (54, 227)]) = true := by decide +kernel
theorem tk_L_45 : tE_45.2.2.2.1.all (tk_L "GameText$Parser" [(147, 768), (109, 703), (113, 712), (138, 728), (150, 708), (153, 699)]) = true := by decide +kernel
theorem tk_F_46 : tE_46.2.2.1.all (tk_G "GameText$Parser" none [(35, 221), (9, 214), (106, 52), (54, 227), (157, 112), (159, 116)]) = true := by decide +kernel
theorem tk_L_46 : tE_46.2.2.2.1.all (tk_L "GameText$Parser" [(109, 703), (113, 712)]) = true := by decide +kernel
theorem tk_F_47 : tE_47.2.2.1.all (tk_G "GameText$Parser" none [(9, 214), (79, 50)]) = true := by decide +kernel
theorem tk_L_47 : tE_47.2.2.2.1.all (tk_L "GameText$Parser" [(98, 776), (102, 740)]) = true := by decide +kernel
theorem tk_F_48 : tE_48.2.2.1.all (tk_G "GameText$Parser" none [(35, 221), (9, 214), (106, 52), (57, 228)]) = true := by decide +kernel
theorem tk_L_48 : tE_48.2.2.2.1.all (tk_L "GameText$Parser" [(109, 703), (113, 712)]) = true := by decide +kernel
theorem tk_F_49 : tE_49.2.2.1.all (tk_G "GameText$Parser" none [(9, 214), (79, 50), (39, 222), (35, 221), (116, 99), (57, 228), (106, 52), (119, 104), (122, 55), (123, 89), (126, 108)]) = true := by decide +kernel
theorem tk_L_49 : tE_49.2.2.2.1.all (tk_L "GameText$Parser" [(113, 712), (102, 740), (86, 764), (129, 744)]) = true := by decide +kernel
theorem tk_F_50 : tE_50.2.2.1.all (tk_G "GameText$Parser" none [(9, 214), (79, 50), (39, 222), (35, 221), (63, 230), (106, 52), (122, 55)]) = true := by decide +kernel
theorem tk_L_50 : tE_50.2.2.2.1.all (tk_L "GameText$Parser" [(113, 712), (132, 788), (135, 792), (109, 703), (102, 740), (138, 728)]) = true := by decide +kernel
theorem tk_F_51 : tE_51.2.2.1.all (tk_G "GameText$Parser" none [(9, 214), (106, 52), (63, 230)]) = true := by decide +kernel
theorem tk_L_51 : tE_51.2.2.2.1.all (tk_L "GameText$Parser" [(113, 712)]) = true := by decide +kernel
theorem tk_F_52 : tE_52.2.2.1.all (tk_G "GameText$Parser" none [(9, 214), (79, 50)]) = true := by decide +kernel
theorem tk_L_52 : tE_52.2.2.2.1.all (tk_L "GameText$Parser" [(141, 748), (129, 744)]) = true := by decide +kernel
theorem tk_F_53 : tE_53.2.2.1.all (tk_G "GameText$Checker" none [(24, 341), (28, 146), (34, 342), (14, 339), (66, 325), (20, 340), (35, 343), (75, 124), (80, 87), (95, 181), (98, 317), (102, 46)]) = true := by decide +kernel
theorem tk_L_53 : tE_53.2.2.2.1.all (tk_L "GameText$Checker" [(63, 800), (69, 804), (84, 811), (88, 851), (92, 919), (107, 827)]) = true := by decide +kernel
theorem tk_F_54 : tE_54.2.2.1.all (tk_G "GameText$Text" none [(37, 167), (41, 171), (44, 174), (47, 176), (50, 180)]) = true := by decide +kernel
theorem tk_F_55 : tE_55.2.2.1.all (tk_G "GameText$Machine" none [(21, 276), (25, 147), (31, 277), (32, 278), (15, 274)]) = true := by decide +kernel
theorem tk_L_55 : tE_55.2.2.2.1.all (tk_L "GameText$Machine" [(46, 808)]) = true := by decide +kernel
theorem tk_F_57 : tE_57.2.2.1.all (tk_G "GameText$Checker" none [(34, 342), (80, 87)]) = true := by decide +kernel
theorem tk_L_57 : tE_57.2.2.2.1.all (tk_L "GameText$Checker" [(111, 815), (114, 839), (118, 843), (122, 835), (125, 847)]) = true := by decide +kernel
theorem tk_F_58 : tE_58.2.2.1.all (tk_G "GameText$Checker" none [(14, 339), (34, 342), (133, 98), (136, 103), (80, 87), (39, 345), (145, 321), (131, 92), (148, 323), (128, 111), (24, 341), (155, 163), (158, 160)]) = true := by decide +kernel
theorem tk_L_58 : tE_58.2.2.2.1.all (tk_L "GameText$Checker" [(142, 819), (107, 827), (151, 831), (122, 835)]) = true := by decide +kernel
theorem tk_F_59 : tE_59.2.2.1.all (tk_G "GameText$Names" none [(28, 324), (19, 319), (15, 318)]) = true := by decide +kernel
theorem tk_L_59 : tE_59.2.2.2.1.all (tk_L "GameText$Names" [(32, 823)]) = true := by decide +kernel
theorem tk_F_60 : tE_60.2.2.1.all (tk_G "GameText$Names" none [(9, 316), (36, 43)]) = true := by decide +kernel
theorem tk_F_61 : tE_61.2.2.1.all (tk_G "GameText$Checker" none [(35, 343)]) = true := by decide +kernel
theorem tk_F_62 : tE_62.2.2.1.all (tk_G "GameText$Code" none [(27, 110), (30, 113), (33, 118)]) = true := by decide +kernel
theorem tk_F_63 : tE_63.2.2.1.all (tk_G "GameText$Checker" none [(34, 342), (128, 111), (133, 98)]) = true := by decide +kernel
theorem tk_F_64 : tE_64.2.2.1.all (tk_G "GameText$Checker" none [(34, 342), (128, 111), (133, 98), (136, 103)]) = true := by decide +kernel
theorem tk_F_65 : tE_65.2.2.1.all (tk_G "GameText$Checker" none [(34, 342), (128, 111), (131, 92)]) = true := by decide +kernel
theorem tk_L_65 : tE_65.2.2.2.1.all (tk_L "GameText$Checker" [(107, 827)]) = true := by decide +kernel
theorem tk_F_66 : tE_66.2.2.1.all (tk_G "GameText$Checker" none [(34, 342), (128, 111), (136, 103), (139, 109)]) = true := by decide +kernel
theorem tk_L_66 : tE_66.2.2.2.1.all (tk_L "GameText$Checker" [(122, 835), (118, 843)]) = true := by decide +kernel
theorem tk_F_67 : tE_67.2.2.1.all (tk_G "GameText$Checker" none [(34, 342), (80, 87), (39, 345), (14, 339), (133, 98), (136, 103), (24, 341), (187, 175), (155, 163), (42, 346), (162, 173), (139, 109), (95, 181), (200, 166), (172, 179)]) = true := by decide +kernel
theorem tk_L_67 : tE_67.2.2.2.1.all (tk_L "GameText$Checker" [(184, 855), (190, 899), (194, 903), (197, 911)]) = true := by decide +kernel
theorem tk_F_68 : tE_68.2.2.1.all (tk_G "GameText$Checker" none [(42, 346), (14, 339), (34, 342), (133, 98), (39, 345), (136, 103), (24, 341), (162, 173)]) = true := by decide +kernel
theorem tk_L_68 : tE_68.2.2.2.1.all (tk_L "GameText$Checker" [(210, 859), (190, 899)]) = true := by decide +kernel
theorem tk_F_69 : tE_69.2.2.1.all (tk_G "GameText$Checker" none [(20, 340), (206, 282)]) = true := by decide +kernel
theorem tk_L_69 : tE_69.2.2.2.1.all (tk_L "GameText$Checker" [(203, 863), (107, 827)]) = true := by decide +kernel
theorem tk_F_70 : tE_70.2.2.1.all (tk_G "GameText$Machine" none [(31, 277), (59, 106), (62, 125), (65, 88), (18, 275), (15, 274), (56, 96), (32, 278), (21, 276), (68, 162), (83, 91), (36, 280)]) = true := by decide +kernel
theorem tk_L_70 : tE_70.2.2.2.1.all (tk_L "GameText$Machine" [(71, 867), (75, 871), (79, 878), (85, 887)]) = true := by decide +kernel
theorem tk_F_71 : tE_71.2.2.1.all (tk_G "GameText$Machine" none [(31, 277), (52, 114), (56, 96)]) = true := by decide +kernel
theorem tk_F_72 : tE_72.2.2.1.all (tk_G "GameText$Machine" none [(31, 277), (52, 114), (56, 96), (89, 119), (91, 102), (39, 283), (43, 284)]) = true := by decide +kernel
theorem tk_L_72 : tE_72.2.2.2.1.all (tk_L "GameText$Machine" [(94, 875)]) = true := by decide +kernel
theorem tk_F_74 : tE_74.2.2.1.all (tk_G "GameText$Machine" none [(43, 284), (39, 283), (31, 277), (52, 114), (89, 119)]) = true := by decide +kernel
theorem tk_L_74 : tE_74.2.2.2.1.all (tk_L "GameText$Machine" [(100, 882)]) = true := by decide +kernel
theorem tk_K_74 : tE_74.2.2.2.2.2.1.all (tk_K "GameText$Machine" [(103, 885), (105, 886)]) = true := by decide +kernel
theorem tk_F_76 : tE_76.2.2.1.all (tk_G "GameText$Machine" none [(31, 277), (56, 96), (52, 114), (9, 272), (21, 276), (68, 162), (89, 119), (91, 102), (59, 106)]) = true := by decide +kernel
theorem tk_L_76 : tE_76.2.2.2.1.all (tk_L "GameText$Machine" [(107, 891), (110, 892), (113, 896)]) = true := by decide +kernel
theorem tk_F_77 : tE_77.2.2.1.all (tk_G "GameText$Machine" none [(31, 277), (56, 96), (91, 102), (52, 114), (89, 119)]) = true := by decide +kernel
theorem tk_F_79 : tE_79.2.2.1.all (tk_G "GameText$Names" none [(28, 324), (15, 318), (19, 319), (22, 320), (25, 322)]) = true := by decide +kernel
theorem tk_F_80 : tE_80.2.2.1.all (tk_G "GameText$Checker" none [(51, 349), (34, 342), (213, 117), (133, 98)]) = true := by decide +kernel
theorem tk_L_80 : tE_80.2.2.2.1.all (tk_L "GameText$Checker" [(210, 859), (216, 907)]) = true := by decide +kernel
theorem tk_F_81 : tE_81.2.2.1.all (tk_G "GameText$Checker" none [(24, 341), (169, 170), (223, 152), (225, 155), (227, 158), (158, 160), (34, 342), (139, 109), (39, 345), (14, 339), (133, 98), (136, 103)]) = true := by decide +kernel
theorem tk_L_81 : tE_81.2.2.2.1.all (tk_L "GameText$Checker" [(190, 899)]) = true := by decide +kernel
theorem tk_F_82 : tE_82.2.2.1.all (tk_G "GameText$Checker" none [(45, 347), (48, 348), (34, 342), (213, 117), (133, 98), (131, 92), (51, 349)]) = true := by decide +kernel
theorem tk_L_82 : tE_82.2.2.2.1.all (tk_L "GameText$Checker" [(220, 915), (107, 827), (216, 907)]) = true := by decide +kernel
theorem tk_F_83 : tE_83.2.2.1.all (tk_G "GameText$Checker" none [(20, 340), (206, 282), (34, 342), (207, 121), (133, 98), (131, 92)]) = true := by decide +kernel
theorem tk_L_83 : tE_83.2.2.2.1.all (tk_L "GameText$Checker" [(203, 863), (107, 827)]) = true := by decide +kernel
theorem tk_F_84 : tE_84.2.2.1.all (tk_G "GameText$Checker" none [(34, 342), (80, 87), (24, 341), (162, 173), (51, 349), (169, 170), (39, 345), (95, 181), (131, 92), (54, 350), (57, 351), (172, 179)]) = true := by decide +kernel
theorem tk_L_84 : tE_84.2.2.2.1.all (tk_L "GameText$Checker" [(159, 923), (165, 931), (107, 827), (175, 935), (178, 939)]) = true := by decide +kernel
theorem tk_F_85 : tE_85.2.2.1.all (tk_G "GameText$Checker" none [(34, 342), (136, 103), (131, 92), (45, 347), (48, 348), (51, 349), (39, 345), (133, 98), (54, 350), (60, 352), (42, 346)]) = true := by decide +kernel
theorem tk_L_85 : tE_85.2.2.2.1.all (tk_L "GameText$Checker" [(181, 927), (122, 835), (107, 827)]) = true := by decide +kernel
theorem tk_F_86 : tE_86.2.2.1.all (tk_G "GameText$Checker" none [(34, 342), (139, 109), (39, 345), (24, 341), (158, 160), (133, 98), (60, 352)]) = true := by decide +kernel
theorem tk_F_87 : tE_87.2.2.1.all (tk_G "GameText$Checker" none [(39, 345), (34, 342), (131, 92), (133, 98), (14, 339), (136, 103)]) = true := by decide +kernel
theorem tk_L_87 : tE_87.2.2.2.1.all (tk_L "GameText$Checker" [(107, 827), (142, 819)]) = true := by decide +kernel
theorem tk_F_88 : tE_88.2.2.1.all (tk_G "GameText$Checker" none [(57, 351), (34, 342), (131, 92), (139, 109), (39, 345), (54, 350), (60, 352)]) = true := by decide +kernel
theorem tk_L_88 : tE_88.2.2.2.1.all (tk_L "GameText$Checker" [(107, 827)]) = true := by decide +kernel
theorem tk_F_89 : tE_89.2.2.1.all (tk_G "GameText$Checker" none [(34, 342), (133, 98), (14, 339), (136, 103), (145, 321), (148, 323), (54, 350), (139, 109), (60, 352)]) = true := by decide +kernel
theorem tk_L_89 : tE_89.2.2.2.1.all (tk_L "GameText$Checker" [(142, 819), (107, 827)]) = true := by decide +kernel
theorem tk_F_90 : tE_90.2.2.1.all (tk_G "GameText" none [(19, 484), (23, 485), (69, 486), (73, 487), (56, 482)]) = true := by decide +kernel
theorem tk_L_90 : tE_90.2.2.2.1.all (tk_L "GameText" [(114, 947)]) = true := by decide +kernel
theorem tk_F_91 : tE_91.2.2.1.all (tk_G "GameText$Graph" none [(39, 405), (43, 407), (46, 410), (49, 411)]) = true := by decide +kernel
theorem tk_F_92 : tE_92.2.2.1.all (tk_G "GameText" none [(76, 488)]) = true := by decide +kernel
theorem tk_F_93 : tE_93.2.2.1.all (tk_G "GameText" none [(69, 486), (19, 484), (117, 169), (120, 172), (123, 178)]) = true := by decide +kernel
theorem tk_F_94 : tE_94.2.2.1.all (tk_G "GameText" none [(65, 483), (138, 457)]) = true := by decide +kernel
theorem tk_F_95 : tE_95.2.2.1.all (tk_G "GameText" none [(56, 482), (141, 409)]) = true := by decide +kernel
theorem tk_F_96 : tE_96.2.2.1.all (tk_G "GameText" none [(56, 482), (158, 392)]) = true := by decide +kernel
theorem tk_L_96 : tE_96.2.2.2.1.all (tk_L "GameText" [(144, 972)]) = true := by decide +kernel
theorem tk_F_97 : tE_97.2.2.1.all (tk_G "GameText$Graph" none [(43, 407)]) = true := by decide +kernel
theorem tk_F_98 : tE_98.2.2.1.all (tk_G "GameText" none [(56, 482), (161, 394)]) = true := by decide +kernel
theorem tk_L_98 : tE_98.2.2.2.1.all (tk_L "GameText" [(144, 972)]) = true := by decide +kernel
theorem tk_F_99 : tE_99.2.2.1.all (tk_G "GameText" none [(56, 482), (168, 396)]) = true := by decide +kernel
theorem tk_L_99 : tE_99.2.2.2.1.all (tk_L "GameText" [(164, 984)]) = true := by decide +kernel
theorem tk_F_100 : tE_100.2.2.1.all (tk_G "GameText$Graph" none [(21, 393)]) = true := by decide +kernel
theorem tk_L_100 : tE_100.2.2.2.1.all (tk_L "GameText$Graph" [(61, 988)]) = true := by decide +kernel
theorem tk_F_101 : tE_101.2.2.1.all (tk_G "GameText" none [(56, 482), (171, 398)]) = true := by decide +kernel
theorem tk_L_101 : tE_101.2.2.2.1.all (tk_L "GameText" [(164, 984)]) = true := by decide +kernel
theorem tk_F_102 : tE_102.2.2.1.all (tk_G "GameText" none [(56, 482), (178, 400), (181, 402), (184, 404)]) = true := by decide +kernel
theorem tk_L_102 : tE_102.2.2.2.1.all (tk_L "GameText" [(174, 997)]) = true := by decide +kernel
theorem tk_F_103 : tE_103.2.2.1.all (tk_G "GameText$Graph" none [(27, 397)]) = true := by decide +kernel
theorem tk_L_103 : tE_103.2.2.2.1.all (tk_L "GameText$Graph" [(65, 1001)]) = true := by decide +kernel
theorem tk_L_104 : tE_104.2.2.2.1.all (tk_L "GameTextLaw" [(7, 1006)]) = true := by decide +kernel
theorem tk_F_105 : tE_105.2.2.1.all (tk_G "GameText" none [(10, 479), (80, 45)]) = true := by decide +kernel
theorem tk_L_106 : tE_106.2.2.2.1.all (tk_L "GameTextLaw" [(15, 1082)]) = true := by decide +kernel
theorem tk_F_107 : tE_107.2.2.1.all (tk_G "GameText" none [(69, 486), (73, 487), (65, 483), (19, 484), (134, 455), (76, 488), (135, 453)]) = true := by decide +kernel
theorem tk_L_107 : tE_107.2.2.2.1.all (tk_L "GameText" [(131, 1102)]) = true := by decide +kernel
theorem tk_F_108 : tE_108.2.2.1.all (tk_G "GameText$Explorer" none [(29, 450), (33, 148), (39, 451), (40, 452), (44, 454), (47, 456), (9, 445), (15, 446), (56, 168), (65, 157), (72, 408)]) = true := by decide +kernel
theorem tk_L_108 : tE_108.2.2.2.1.all (tk_L "GameText$Explorer" [(50, 1106), (59, 1107), (68, 1113), (75, 1132), (79, 1182)]) = true := by decide +kernel
theorem tk_F_109 : tE_109.2.2.1.all (tk_G "GameText$Graph" none [(39, 405), (11, 386)]) = true := by decide +kernel
theorem tk_L_109 : tE_109.2.2.2.1.all (tk_L "GameText$Graph" [(52, 1111), (55, 1112)]) = true := by decide +kernel
theorem tk_F_110 : tE_110.2.2.1.all (tk_G "GameText$Graph" none [(11, 386), (43, 407)]) = true := by decide +kernel
theorem tk_L_110 : tE_110.2.2.2.1.all (tk_L "GameText$Graph" [(69, 1117), (73, 1122), (77, 1126)]) = true := by decide +kernel
theorem tk_F_111 : tE_111.2.2.1.all (tk_G "GameText$Graph" none [(39, 405)]) = true := by decide +kernel
theorem tk_K_111 : tE_111.2.2.2.2.2.1.all (tk_K "GameText$Graph" [(81, 1121)]) = true := by decide +kernel
theorem tk_F_112 : tE_112.2.2.1.all (tk_G "GameText$Graph" none [(39, 405), (15, 387)]) = true := by decide +kernel
theorem tk_F_113 : tE_113.2.2.1.all (tk_G "GameText$Graph" none [(43, 407), (18, 390), (15, 387), (21, 393), (39, 405)]) = true := by decide +kernel
theorem tk_L_113 : tE_113.2.2.2.1.all (tk_L "GameText$Graph" [(82, 1130), (86, 1131)]) = true := by decide +kernel
theorem tk_F_114 : tE_114.2.2.1.all (tk_G "GameText$Explorer" none [(15, 446), (82, 388), (9, 445), (85, 273), (29, 450), (56, 168), (94, 279), (100, 182), (106, 281), (115, 391), (118, 177)]) = true := by decide +kernel
theorem tk_L_114 : tE_114.2.2.2.1.all (tk_L "GameText$Explorer" [(88, 1136), (97, 1137), (103, 1141), (107, 1142), (111, 1146), (121, 1150)]) = true := by decide +kernel
theorem tk_F_115 : tE_115.2.2.1.all (tk_G "GameText$Graph" none [(21, 393), (46, 410)]) = true := by decide +kernel
theorem tk_F_116 : tE_116.2.2.1.all (tk_G "GameText$Explorer" none [(44, 454)]) = true := by decide +kernel
theorem tk_F_117 : tE_117.2.2.1.all (tk_G "GameText$Machine" none [(31, 277), (52, 114), (56, 96)]) = true := by decide +kernel
theorem tk_F_118 : tE_118.2.2.1.all (tk_G "GameText$Explorer" none [(29, 450), (124, 165), (39, 451), (127, 101), (9, 445), (106, 281), (132, 97), (15, 446), (115, 391), (135, 93), (144, 107), (19, 447)]) = true := by decide +kernel
theorem tk_L_118 : tE_118.2.2.2.1.all (tk_L "GameText$Explorer" [(103, 1141), (107, 1142), (111, 1146), (137, 1154), (140, 1165), (147, 1169)]) = true := by decide +kernel
theorem tk_F_119 : tE_119.2.2.1.all (tk_G "GameText$Explorer" none [(39, 451), (144, 107), (132, 97), (9, 445), (106, 281), (151, 115), (154, 120), (135, 93), (19, 447), (23, 448)]) = true := by decide +kernel
theorem tk_L_119 : tE_119.2.2.2.1.all (tk_L "GameText$Explorer" [(103, 1141), (107, 1142), (157, 1158)]) = true := by decide +kernel
theorem tk_F_120 : tE_120.2.2.1.all (tk_G "GameText$Explorer" none [(23, 448), (39, 451), (135, 93), (19, 447)]) = true := by decide +kernel
theorem tk_L_120 : tE_120.2.2.2.1.all (tk_L "GameText$Explorer" [(160, 1162), (107, 1142), (166, 1164)]) = true := by decide +kernel
theorem tk_K_120 : tE_120.2.2.2.2.2.1.all (tk_K "GameText$Explorer" [(164, 1163)]) = true := by decide +kernel
theorem tk_F_121 : tE_121.2.2.1.all (tk_G "GameText$Graph" none [(46, 410), (24, 395), (27, 397), (49, 411), (21, 393)]) = true := by decide +kernel
theorem tk_L_121 : tE_121.2.2.2.1.all (tk_L "GameText$Graph" [(82, 1130)]) = true := by decide +kernel
theorem tk_F_122 : tE_122.2.2.1.all (tk_G "GameText$Explorer" none [(9, 445), (85, 273), (26, 449), (29, 450), (56, 168), (39, 451), (127, 101), (106, 281), (151, 115), (132, 97), (154, 120), (135, 93), (171, 151), (174, 154), (144, 107), (15, 446), (19, 447), (23, 448)]) = true := by decide +kernel
theorem tk_L_122 : tE_122.2.2.2.1.all (tk_L "GameText$Explorer" [(88, 1136), (103, 1141), (107, 1142), (68, 1113), (177, 1173)]) = true := by decide +kernel
theorem tk_F_123 : tE_123.2.2.1.all (tk_G "GameText$Graph" none [(46, 410), (27, 397), (49, 411), (30, 399), (33, 401), (36, 403)]) = true := by decide +kernel
theorem tk_L_123 : tE_123.2.2.2.1.all (tk_L "GameText$Graph" [(92, 1177), (82, 1130)]) = true := by decide +kernel
theorem tk_F_124 : tE_124.2.2.1.all (tk_G "GameText$Graph" none [(33, 401), (36, 403)]) = true := by decide +kernel
theorem tk_L_124 : tE_124.2.2.2.1.all (tk_L "GameText$Graph" [(96, 1181)]) = true := by decide +kernel
theorem tk_L_125 : tE_125.2.2.2.1.all (tk_L "GameTextLaw" [(21, 1187)]) = true := by decide +kernel
theorem tk_F_126 : tE_126.2.2.1.all (tk_G "GameText" none [(56, 482), (148, 406), (154, 389)]) = true := by decide +kernel
theorem tk_L_126 : tE_126.2.2.2.1.all (tk_L "GameText" [(144, 972)]) = true := by decide +kernel
theorem tk_F_127 : tE_127.2.2.1.all (tk_G "GameTextModel" (some 10) [(10, 1361), (16, 1362), (19, 1363), (22, 1364), (25, 1365), (28, 1366), (34, 1369), (38, 1370), (41, 1372), (45, 1373), (48, 1374), (51, 1375), (54, 1378), (57, 1379), (60, 1380), (63, 1381), (67, 1382), (70, 1384), (73, 1385), (77, 1386), (81, 1387), (84, 1388), (87, 1390), (90, 1391), (93, 1392), (96, 1393), (99, 1394), (102, 1395), (105, 1396), (108, 1397), (111, 1399), (114, 1400), (117, 1401), (120, 1402), (123, 1403), (126, 1404)]) = true := by decide +kernel
theorem tk_L_127 : tE_127.2.2.2.1.all (tk_L "GameTextModel" [(1, 1212), (9, 1215), (33, 1231)]) = true := by decide +kernel
theorem tk_N_127 : tE_127.2.2.2.2.1.all (tk_N "GameTextModel" [(7, 1213, 1214, 12), (31, 1229, 1230, 13)]) = true := by decide +kernel
theorem tk_F_128 : tE_128.2.2.1.all (tk_G "GameTextModel$Numbers" (some 11) [(7, 1219)]) = true := by decide +kernel
theorem tk_L_128 : tE_128.2.2.2.1.all (tk_L "GameTextModel$Numbers" [(1, 1218)]) = true := by decide +kernel
theorem tk_F_129 : tE_129.2.2.1.all (tk_G "GameTextModel$Game" (some 12) [(12, 1237), (18, 1239), (21, 1241), (24, 1243), (27, 1245), (30, 1247), (33, 1251), (37, 1253), (40, 1255), (44, 1257), (48, 1259), (51, 1263), (54, 1265), (57, 1267), (60, 1269), (63, 1275), (66, 1277), (69, 1279), (72, 1281), (75, 1283), (78, 1285), (81, 1287), (84, 1289), (87, 1291), (90, 1293), (93, 1295)]) = true := by decide +kernel
theorem tk_L_129 : tE_129.2.2.2.1.all (tk_L "GameTextModel$Game" [(3, 1234), (11, 1236)]) = true := by decide +kernel
theorem tk_N_129 : tE_129.2.2.2.2.1.all (tk_N "GameTextModel$Game" [(9, 1235, 1214, 12)]) = true := by decide +kernel
theorem tk_F_130 : tE_130.2.2.1.all (tk_G "GameTextModel" none [(129, 1360)]) = true := by decide +kernel
theorem tk_F_131 : tE_131.2.2.1.all (tk_G "GameTextModel" none [(129, 1360), (10, 1361), (132, 1223)]) = true := by decide +kernel
theorem tk_L_131 : tE_131.2.2.2.1.all (tk_L "GameTextModel" [(135, 1504)]) = true := by decide +kernel
theorem tk_F_132 : tE_132.2.2.1.all (tk_G "GameTextModel" none [(10, 1361)]) = true := by decide +kernel
theorem tk_L_132 : tE_132.2.2.2.1.all (tk_L "GameTextModel" [(139, 1508)]) = true := by decide +kernel
theorem tk_F_133 : tE_133.2.2.1.all (tk_G "GameTextModel$Numbers" none [(13, 1221), (7, 1219)]) = true := by decide +kernel
theorem tk_F_134 : tE_134.2.2.1.all (tk_G "GameTextModel" none [(10, 1361), (132, 1223), (129, 1360)]) = true := by decide +kernel
theorem tk_F_135 : tE_135.2.2.1.all (tk_G "GameTextModel" none [(129, 1360), (16, 1362), (10, 1361), (132, 1223), (216, 1368), (41, 1372), (254, 1376), (257, 1377), (34, 1369), (38, 1370), (515, 1371), (519, 1389)]) = true := by decide +kernel
theorem tk_L_135 : tE_135.2.2.2.1.all (tk_L "GameTextModel" [(506, 1520), (509, 1576), (266, 1623), (512, 1627)]) = true := by decide +kernel
theorem tk_F_136 : tE_136.2.2.1.all (tk_G "GameTextModel" none [(19, 1363), (132, 1223), (22, 1364), (25, 1365), (16, 1362)]) = true := by decide +kernel
theorem tk_L_136 : tE_136.2.2.2.1.all (tk_L "GameTextModel" [(193, 1524), (146, 1528), (196, 1539), (199, 1542), (202, 1545), (206, 1568), (209, 1572)]) = true := by decide +kernel
theorem tk_F_137 : tE_137.2.2.1.all (tk_G "GameTextModel" none [(16, 1362), (132, 1223)]) = true := by decide +kernel
theorem tk_L_137 : tE_137.2.2.2.1.all (tk_L "GameTextModel" [(146, 1528), (149, 1536)]) = true := by decide +kernel
theorem tk_F_138 : tE_138.2.2.1.all (tk_G "GameTextModel" none [(16, 1362), (132, 1223)]) = true := by decide +kernel
theorem tk_L_138 : tE_138.2.2.2.1.all (tk_L "GameTextModel" [(142, 1532)]) = true := by decide +kernel
theorem tk_F_139 : tE_139.2.2.1.all (tk_G "GameTextModel$Numbers" none [(7, 1219)]) = true := by decide +kernel
theorem tk_L_143 : tE_143.2.2.2.1.all (tk_L "GameTextModel" [(146, 1528), (165, 1550)]) = true := by decide +kernel
theorem tk_K_143 : tE_143.2.2.2.2.2.1.all (tk_K "GameTextModel" [(163, 1549), (169, 1556), (171, 1557), (173, 1558), (175, 1559), (177, 1560), (179, 1561), (181, 1562), (183, 1563), (185, 1564), (187, 1565), (189, 1566), (191, 1567)]) = true := by decide +kernel
theorem tk_L_144 : tE_144.2.2.2.1.all (tk_L "GameTextModel" [(153, 1554), (146, 1528), (159, 1555)]) = true := by decide +kernel
theorem tk_L_145 : tE_145.2.2.2.1.all (tk_L "GameTextModel" [(146, 1528)]) = true := by decide +kernel
theorem tk_F_146 : tE_146.2.2.1.all (tk_G "GameTextModel" none [(19, 1363), (22, 1364), (25, 1365)]) = true := by decide +kernel
theorem tk_L_146 : tE_146.2.2.2.1.all (tk_L "GameTextModel" [(139, 1508)]) = true := by decide +kernel
theorem tk_F_147 : tE_147.2.2.1.all (tk_G "GameTextModel" none [(28, 1366), (132, 1223), (213, 1367), (216, 1368), (19, 1363)]) = true := by decide +kernel
theorem tk_L_147 : tE_147.2.2.2.1.all (tk_L "GameTextModel" [(139, 1508), (219, 1580), (142, 1532), (222, 1584), (225, 1608)]) = true := by decide +kernel
theorem tk_F_148 : tE_148.2.2.1.all (tk_G "GameTextModel$Numbers" none [(13, 1221), (7, 1219)]) = true := by decide +kernel
theorem tk_F_149 : tE_149.2.2.1.all (tk_G "GameTextModel" none [(28, 1366)]) = true := by decide +kernel
theorem tk_L_149 : tE_149.2.2.2.1.all (tk_L "GameTextModel" [(228, 1588), (231, 1592), (139, 1508), (234, 1596), (238, 1600)]) = true := by decide +kernel
theorem tk_F_150 : tE_150.2.2.1.all (tk_G "GameTextModel" none [(28, 1366)]) = true := by decide +kernel
theorem tk_L_150 : tE_150.2.2.2.1.all (tk_L "GameTextModel" [(139, 1508), (231, 1592)]) = true := by decide +kernel
theorem tk_F_151 : tE_151.2.2.1.all (tk_G "GameTextModel" none [(28, 1366)]) = true := by decide +kernel
theorem tk_L_151 : tE_151.2.2.2.1.all (tk_L "GameTextModel" [(139, 1508)]) = true := by decide +kernel
theorem tk_F_152 : tE_152.2.2.1.all (tk_G "GameTextModel" none [(28, 1366)]) = true := by decide +kernel
theorem tk_L_152 : tE_152.2.2.2.1.all (tk_L "GameTextModel" [(139, 1508)]) = true := by decide +kernel
theorem tk_F_153 : tE_153.2.2.1.all (tk_G "GameTextModel" none [(28, 1366)]) = true := by decide +kernel
theorem tk_L_153 : tE_153.2.2.2.1.all (tk_L "GameTextModel" [(241, 1604), (139, 1508), (231, 1592)]) = true := by decide +kernel
theorem tk_F_154 : tE_154.2.2.1.all (tk_G "GameTextModel" none [(213, 1367)]) = true := by decide +kernel
theorem tk_F_155 : tE_155.2.2.1.all (tk_G "GameTextModel" none [(28, 1366)]) = true := by decide +kernel
theorem tk_L_155 : tE_155.2.2.2.1.all (tk_L "GameTextModel" [(139, 1508), (245, 1612), (234, 1596), (241, 1604), (248, 1616), (251, 1619)]) = true := by decide +kernel
theorem tk_F_156 : tE_156.2.2.1.all (tk_G "GameTextModel" none [(28, 1366)]) = true := by decide +kernel
theorem tk_L_156 : tE_156.2.2.2.1.all (tk_L "GameTextModel" [(139, 1508), (231, 1592), (241, 1604)]) = true := by decide +kernel
theorem tk_F_158 : tE_158.2.2.1.all (tk_G "GameTextModel" none [(28, 1366)]) = true := by decide +kernel
theorem tk_L_158 : tE_158.2.2.2.1.all (tk_L "GameTextModel" [(139, 1508), (241, 1604)]) = true := by decide +kernel
theorem tk_F_159 : tE_159.2.2.1.all (tk_G "GameTextModel" none [(22, 1364)]) = true := by decide +kernel
theorem tk_L_159 : tE_159.2.2.2.1.all (tk_L "GameTextModel" [(142, 1532)]) = true := by decide +kernel
theorem tk_F_160 : tE_160.2.2.1.all (tk_G "GameTextModel" none [(38, 1370), (45, 1373), (132, 1223), (48, 1374), (51, 1375), (254, 1376), (426, 1272)]) = true := by decide +kernel
theorem tk_L_160 : tE_160.2.2.2.1.all (tk_L "GameTextModel" [(414, 1631), (289, 1635), (417, 1639), (420, 1643), (423, 1784), (266, 1623), (338, 1647), (428, 1792), (431, 1804)]) = true := by decide +kernel
theorem tk_F_161 : tE_161.2.2.1.all (tk_G "GameTextModel$Game" none [(12, 1237), (96, 1222), (18, 1239), (21, 1241), (24, 1243), (27, 1245), (30, 1247), (100, 1249), (103, 1261), (106, 1271), (109, 1273), (87, 1291), (90, 1293), (93, 1295)]) = true := by decide +kernel
theorem tk_F_162 : tE_162.2.2.1.all (tk_G "GameTextModel" none [(19, 1363)]) = true := by decide +kernel
theorem tk_L_162 : tE_162.2.2.2.1.all (tk_L "GameTextModel" [(142, 1532)]) = true := by decide +kernel
theorem tk_L_163 : tE_163.2.2.2.1.all (tk_L "GameTextModel" [(289, 1635)]) = true := by decide +kernel
theorem tk_F_164 : tE_164.2.2.1.all (tk_G "GameTextModel" none [(38, 1370), (434, 1250), (254, 1376), (394, 1252), (347, 1254), (399, 1256), (397, 1258), (63, 1381), (398, 1260), (67, 1382)]) = true := by decide +kernel
theorem tk_L_164 : tE_164.2.2.2.1.all (tk_L "GameTextModel" [(289, 1635), (266, 1623), (338, 1647), (341, 1651), (350, 1659), (353, 1703), (437, 1727), (440, 1780)]) = true := by decide +kernel
theorem tk_F_165 : tE_165.2.2.1.all (tk_G "GameTextModel" none [(254, 1376), (257, 1377)]) = true := by decide +kernel
theorem tk_F_166 : tE_166.2.2.1.all (tk_G "GameTextModel" none [(45, 1373), (132, 1223)]) = true := by decide +kernel
theorem tk_L_166 : tE_166.2.2.2.1.all (tk_L "GameTextModel" [(142, 1532), (317, 1655)]) = true := by decide +kernel
theorem tk_F_167 : tE_167.2.2.1.all (tk_G "GameTextModel" none [(25, 1365), (16, 1362)]) = true := by decide +kernel
theorem tk_L_167 : tE_167.2.2.2.1.all (tk_L "GameTextModel" [(142, 1532), (266, 1623)]) = true := by decide +kernel
theorem tk_F_168 : tE_168.2.2.1.all (tk_G "GameTextModel" none [(54, 1378), (132, 1223), (38, 1370), (260, 1238)]) = true := by decide +kernel
theorem tk_L_168 : tE_168.2.2.2.1.all (tk_L "GameTextModel" [(283, 1663), (219, 1580), (286, 1667)]) = true := by decide +kernel
theorem tk_F_169 : tE_169.2.2.1.all (tk_G "GameTextModel" none [(54, 1378)]) = true := by decide +kernel
theorem tk_L_169 : tE_169.2.2.2.1.all (tk_L "GameTextModel" [(139, 1508)]) = true := by decide +kernel
theorem tk_F_170 : tE_170.2.2.1.all (tk_G "GameTextModel" none [(38, 1370), (271, 1244), (280, 1220)]) = true := by decide +kernel
theorem tk_L_170 : tE_170.2.2.2.1.all (tk_L "GameTextModel" [(297, 1671), (289, 1635), (300, 1683), (304, 1687), (283, 1663), (308, 1691), (311, 1695), (314, 1699)]) = true := by decide +kernel
theorem tk_L_171 : tE_171.2.2.2.1.all (tk_L "GameTextModel" [(289, 1635), (294, 1675)]) = true := by decide +kernel
theorem tk_L_172 : tE_172.2.2.2.1.all (tk_L "GameTextModel" [(289, 1635), (248, 1616), (291, 1679)]) = true := by decide +kernel
theorem tk_L_173 : tE_173.2.2.2.1.all (tk_L "GameTextModel" [(289, 1635)]) = true := by decide +kernel
theorem tk_F_174 : tE_174.2.2.1.all (tk_G "GameTextModel" none [(38, 1370), (260, 1238), (263, 1240), (268, 1242), (271, 1244), (274, 1246), (277, 1248), (132, 1223)]) = true := by decide +kernel
theorem tk_L_174 : tE_174.2.2.2.1.all (tk_L "GameTextModel" [(139, 1508), (266, 1623)]) = true := by decide +kernel
theorem tk_F_175 : tE_175.2.2.1.all (tk_G "GameTextModel" none [(38, 1370), (274, 1246), (280, 1220), (277, 1248)]) = true := by decide +kernel
theorem tk_L_175 : tE_175.2.2.2.1.all (tk_L "GameTextModel" [(142, 1532)]) = true := by decide +kernel
theorem tk_L_176 : tE_176.2.2.2.1.all (tk_L "GameTextModel" [(289, 1635)]) = true := by decide +kernel
theorem tk_F_177 : tE_177.2.2.1.all (tk_G "GameTextModel" none [(25, 1365), (16, 1362)]) = true := by decide +kernel
theorem tk_L_177 : tE_177.2.2.2.1.all (tk_L "GameTextModel" [(266, 1623), (142, 1532)]) = true := by decide +kernel
theorem tk_L_178 : tE_178.2.2.2.1.all (tk_L "GameTextModel" [(289, 1635), (283, 1663)]) = true := by decide +kernel
theorem tk_F_179 : tE_179.2.2.1.all (tk_G "GameTextModel" none [(60, 1380), (132, 1223), (57, 1379), (254, 1376), (38, 1370), (274, 1246), (277, 1248)]) = true := by decide +kernel
theorem tk_L_179 : tE_179.2.2.2.1.all (tk_L "GameTextModel" [(139, 1508), (219, 1580), (142, 1532), (321, 1707), (325, 1723), (328, 1719)]) = true := by decide +kernel
theorem tk_F_180 : tE_180.2.2.1.all (tk_G "GameTextModel" none [(38, 1370), (260, 1238), (263, 1240), (57, 1379), (132, 1223)]) = true := by decide +kernel
theorem tk_L_180 : tE_180.2.2.2.1.all (tk_L "GameTextModel" [(142, 1532), (331, 1711), (334, 1715), (328, 1719), (248, 1616), (338, 1647), (139, 1508)]) = true := by decide +kernel
theorem tk_F_181 : tE_181.2.2.1.all (tk_G "GameTextModel" none [(38, 1370), (274, 1246), (277, 1248)]) = true := by decide +kernel
theorem tk_L_181 : tE_181.2.2.2.1.all (tk_L "GameTextModel" [(142, 1532)]) = true := by decide +kernel
theorem tk_F_182 : tE_182.2.2.1.all (tk_G "GameTextModel" none [(38, 1370), (271, 1244), (48, 1374), (263, 1240), (51, 1375), (280, 1220), (344, 1264), (347, 1254)]) = true := by decide +kernel
theorem tk_L_182 : tE_182.2.2.2.1.all (tk_L "GameTextModel" [(142, 1532), (341, 1651), (338, 1647)]) = true := by decide +kernel
theorem tk_F_183 : tE_183.2.2.1.all (tk_G "GameTextModel$Numbers" none [(7, 1219), (13, 1221)]) = true := by decide +kernel
theorem tk_F_184 : tE_184.2.2.1.all (tk_G "GameTextModel" none [(60, 1380), (132, 1223), (280, 1220)]) = true := by decide +kernel
theorem tk_L_184 : tE_184.2.2.2.1.all (tk_L "GameTextModel" [(142, 1532)]) = true := by decide +kernel
theorem tk_F_185 : tE_185.2.2.1.all (tk_G "GameTextModel" none [(357, 1383), (70, 1384), (132, 1223), (254, 1376), (77, 1386), (81, 1387), (63, 1381), (84, 1388), (67, 1382)]) = true := by decide +kernel
theorem tk_L_185 : tE_185.2.2.2.1.all (tk_L "GameTextModel" [(372, 1731), (219, 1580), (374, 1735), (378, 1755), (381, 1776)]) = true := by decide +kernel
theorem tk_F_186 : tE_186.2.2.1.all (tk_G "GameTextModel" none [(70, 1384)]) = true := by decide +kernel
theorem tk_L_186 : tE_186.2.2.2.1.all (tk_L "GameTextModel" [(139, 1508)]) = true := by decide +kernel
theorem tk_F_187 : tE_187.2.2.1.all (tk_G "GameTextModel" none [(260, 1238), (274, 1246), (271, 1244), (70, 1384), (132, 1223), (277, 1248)]) = true := by decide +kernel
theorem tk_L_187 : tE_187.2.2.2.1.all (tk_L "GameTextModel" [(142, 1532), (360, 1739), (384, 1743), (388, 1747), (372, 1731), (391, 1751)]) = true := by decide +kernel
theorem tk_F_188 : tE_188.2.2.1.all (tk_G "GameTextModel" none [(63, 1381), (357, 1383), (67, 1382)]) = true := by decide +kernel
theorem tk_L_189 : tE_189.2.2.2.1.all (tk_L "GameTextModel" [(360, 1739)]) = true := by decide +kernel
theorem tk_F_190 : tE_190.2.2.1.all (tk_G "GameTextModel" none [(73, 1385), (344, 1264), (394, 1252), (397, 1258), (398, 1260), (77, 1386), (81, 1387), (84, 1388), (399, 1256)]) = true := by decide +kernel
theorem tk_L_190 : tE_190.2.2.2.1.all (tk_L "GameTextModel" [(360, 1739), (372, 1731)]) = true := by decide +kernel
theorem tk_F_191 : tE_191.2.2.1.all (tk_G "GameTextModel" none [(70, 1384), (132, 1223), (280, 1220)]) = true := by decide +kernel
theorem tk_L_191 : tE_191.2.2.2.1.all (tk_L "GameTextModel" [(142, 1532)]) = true := by decide +kernel
theorem tk_F_192 : tE_192.2.2.1.all (tk_G "GameTextModel" none [(260, 1238), (263, 1240), (274, 1246), (277, 1248), (357, 1383), (63, 1381), (67, 1382)]) = true := by decide +kernel
theorem tk_L_192 : tE_192.2.2.2.1.all (tk_L "GameTextModel" [(142, 1532), (384, 1743), (360, 1739), (402, 1759), (248, 1616), (406, 1763)]) = true := by decide +kernel
theorem tk_F_193 : tE_193.2.2.1.all (tk_G "GameTextModel" none [(63, 1381), (67, 1382)]) = true := by decide +kernel
theorem tk_L_193 : tE_193.2.2.2.1.all (tk_L "GameTextModel" [(360, 1739)]) = true := by decide +kernel
theorem tk_L_194 : tE_194.2.2.2.1.all (tk_L "GameTextModel" [(410, 1767), (338, 1647), (360, 1739)]) = true := by decide +kernel
theorem tk_L_195 : tE_195.2.2.2.1.all (tk_L "GameTextModel" [(364, 1771), (338, 1647), (360, 1739)]) = true := by decide +kernel
theorem tk_K_195 : tE_195.2.2.2.2.2.1.all (tk_K "GameTextModel" [(368, 1774), (370, 1775)]) = true := by decide +kernel
theorem tk_F_197 : tE_197.2.2.1.all (tk_G "GameTextModel" none [(260, 1238), (63, 1381), (357, 1383), (277, 1248), (274, 1246)]) = true := by decide +kernel
theorem tk_L_197 : tE_197.2.2.2.1.all (tk_L "GameTextModel" [(142, 1532), (372, 1731)]) = true := by decide +kernel
theorem tk_F_198 : tE_198.2.2.1.all (tk_G "GameTextModel" none [(45, 1373), (48, 1374), (51, 1375)]) = true := by decide +kernel
theorem tk_L_198 : tE_198.2.2.2.1.all (tk_L "GameTextModel" [(139, 1508)]) = true := by decide +kernel
theorem tk_F_199 : tE_199.2.2.1.all (tk_G "GameTextModel" none [(38, 1370), (443, 1262), (344, 1264), (254, 1376), (448, 1266), (450, 1268), (456, 1270)]) = true := by decide +kernel
theorem tk_L_199 : tE_199.2.2.2.1.all (tk_L "GameTextModel" [(266, 1623), (338, 1647), (341, 1651), (289, 1635), (445, 1788), (417, 1639), (428, 1792), (453, 1796), (458, 1800), (440, 1780)]) = true := by decide +kernel
theorem tk_L_200 : tE_200.2.2.2.1.all (tk_L "GameTextModel" [(289, 1635)]) = true := by decide +kernel
theorem tk_F_201 : tE_201.2.2.1.all (tk_G "GameTextModel" none [(254, 1376)]) = true := by decide +kernel
theorem tk_L_201 : tE_201.2.2.2.1.all (tk_L "GameTextModel" [(350, 1659), (353, 1703), (266, 1623), (338, 1647)]) = true := by decide +kernel
theorem tk_F_202 : tE_202.2.2.1.all (tk_G "GameTextModel" none [(254, 1376), (38, 1370), (67, 1382), (63, 1381)]) = true := by decide +kernel
theorem tk_L_202 : tE_202.2.2.2.1.all (tk_L "GameTextModel" [(437, 1727), (266, 1623), (338, 1647)]) = true := by decide +kernel
theorem tk_F_203 : tE_203.2.2.1.all (tk_G "GameTextModel" none [(38, 1370), (344, 1264), (456, 1270), (63, 1381), (254, 1376), (448, 1266), (450, 1268)]) = true := by decide +kernel
theorem tk_L_203 : tE_203.2.2.2.1.all (tk_L "GameTextModel" [(437, 1727), (453, 1796), (266, 1623), (338, 1647)]) = true := by decide +kernel
theorem tk_F_204 : tE_204.2.2.1.all (tk_G "GameTextModel" none [(38, 1370), (461, 1274), (464, 1276), (467, 1278), (470, 1280), (473, 1282), (254, 1376)]) = true := by decide +kernel
theorem tk_L_204 : tE_204.2.2.2.1.all (tk_L "GameTextModel" [(266, 1623), (338, 1647), (417, 1639), (289, 1635), (428, 1792), (476, 1808)]) = true := by decide +kernel
theorem tk_F_205 : tE_205.2.2.1.all (tk_G "GameTextModel" none [(38, 1370), (473, 1282), (479, 1284), (482, 1286), (485, 1288), (488, 1292), (132, 1223), (254, 1376), (494, 1290)]) = true := by decide +kernel
theorem tk_L_205 : tE_205.2.2.2.1.all (tk_L "GameTextModel" [(266, 1623), (338, 1647), (417, 1639), (428, 1792), (289, 1635), (491, 1812)]) = true := by decide +kernel
theorem tk_F_206 : tE_206.2.2.1.all (tk_G "GameTextModel" none [(48, 1374), (51, 1375), (38, 1370), (488, 1292), (132, 1223), (344, 1264), (500, 1294), (503, 1296)]) = true := by decide +kernel
theorem tk_L_206 : tE_206.2.2.2.1.all (tk_L "GameTextModel" [(497, 1816), (341, 1651), (142, 1532), (266, 1623), (338, 1647), (428, 1792), (139, 1508)]) = true := by decide +kernel
theorem tk_L_207 : tE_207.2.2.2.1.all (tk_L "GameTextModel" [(289, 1635)]) = true := by decide +kernel
theorem tk_F_208 : tE_208.2.2.1.all (tk_G "GameTextModel" none [(129, 1360), (41, 1372)]) = true := by decide +kernel
theorem tk_F_209 : tE_209.2.2.1.all (tk_G "GameTextModel" none [(129, 1360), (515, 1371), (34, 1369), (443, 1262), (434, 1250), (461, 1274)]) = true := by decide +kernel
theorem tk_F_210 : tE_210.2.2.1.all (tk_G "GameTextModel" none [(515, 1371), (129, 1360), (519, 1389), (522, 1398), (102, 1395), (132, 1223), (105, 1396), (108, 1397), (254, 1376), (34, 1369), (443, 1262), (90, 1391), (456, 1270), (87, 1390), (257, 1377), (41, 1372)]) = true := by decide +kernel
theorem tk_L_210 : tE_210.2.2.2.1.all (tk_L "GameTextModel" [(525, 1832)]) = true := by decide +kernel
theorem tk_F_211 : tE_211.2.2.1.all (tk_G "GameTextModel" none [(93, 1392), (96, 1393), (102, 1395), (132, 1223), (99, 1394), (34, 1369), (426, 1272), (254, 1376), (63, 1381), (461, 1274), (470, 1280)]) = true := by decide +kernel
theorem tk_L_211 : tE_211.2.2.2.1.all (tk_L "GameTextModel" [(528, 1836), (531, 1840), (534, 1844)]) = true := by decide +kernel
theorem tk_F_212 : tE_212.2.2.1.all (tk_G "GameTextModel" none [(34, 1369), (443, 1262), (73, 1385), (90, 1391), (434, 1250), (77, 1386)]) = true := by decide +kernel
theorem tk_F_213 : tE_213.2.2.1.all (tk_G "GameTextModel" none [(34, 1369)]) = true := by decide +kernel
theorem tk_L_213 : tE_213.2.2.2.1.all (tk_L "GameTextModel" [(437, 1727)]) = true := by decide +kernel
theorem tk_F_214 : tE_214.2.2.1.all (tk_G "GameTextModel" none [(34, 1369), (464, 1276), (467, 1278), (93, 1392), (254, 1376), (473, 1282), (123, 1403), (126, 1404), (102, 1395), (105, 1396), (522, 1398), (108, 1397), (99, 1394)]) = true := by decide +kernel
theorem tk_L_214 : tE_214.2.2.2.1.all (tk_L "GameTextModel" [(338, 1647), (537, 1848), (139, 1508), (541, 1852)]) = true := by decide +kernel
theorem tk_F_215 : tE_215.2.2.1.all (tk_G "GameTextModel" none [(34, 1369), (473, 1282), (254, 1376), (479, 1284), (123, 1403), (63, 1381), (126, 1404), (67, 1382), (482, 1286)]) = true := by decide +kernel
theorem tk_L_215 : tE_215.2.2.2.1.all (tk_L "GameTextModel" [(531, 1840), (338, 1647), (364, 1771)]) = true := by decide +kernel
theorem tk_K_215 : tE_215.2.2.2.2.2.1.all (tk_K "GameTextModel" [(368, 1774)]) = true := by decide +kernel
theorem tk_F_216 : tE_216.2.2.1.all (tk_G "GameTextModel" none [(34, 1369), (443, 1262), (120, 1402), (73, 1385), (485, 1288), (494, 1290), (254, 1376), (488, 1292), (503, 1296), (500, 1294), (482, 1286), (105, 1396), (132, 1223), (522, 1398), (111, 1399), (123, 1403), (126, 1404), (114, 1400), (117, 1401), (108, 1397), (280, 1220)]) = true := by decide +kernel
theorem tk_L_216 : tE_216.2.2.2.1.all (tk_L "GameTextModel" [(142, 1532), (544, 1856), (546, 1860), (338, 1647), (549, 1864)]) = true := by decide +kernel
theorem tk_F_217 : tE_217.2.2.1.all (tk_G "GameTextModel" none [(254, 1376), (34, 1369), (344, 1264), (67, 1382), (63, 1381), (448, 1266), (450, 1268), (120, 1402)]) = true := by decide +kernel
theorem tk_L_217 : tE_217.2.2.2.1.all (tk_L "GameTextModel" [(531, 1840), (338, 1647)]) = true := by decide +kernel
theorem tk_F_218 : tE_218.2.2.1.all (tk_G "GameTextModel" none [(519, 1389), (34, 1369), (443, 1262), (90, 1391), (120, 1402)]) = true := by decide +kernel
theorem tk_F_219 : tE_219.2.2.1.all (tk_G "GameTextModel" none [(114, 1400), (117, 1401)]) = true := by decide +kernel
theorem tk_L_219 : tE_219.2.2.2.1.all (tk_L "GameTextModel" [(364, 1771)]) = true := by decide +kernel
theorem tk_F_220 : tE_220.2.2.1.all (tk_G "GameTextModel" none [(129, 1360), (87, 1390)]) = true := by decide +kernel
theorem tk_F_221 : tE_221.2.2.1.all (tk_G "GameTextModel" none [(129, 1360), (519, 1389)]) = true := by decide +kernel
theorem tk_F_222 : tE_222.2.2.1.all (tk_G "GameTextModel" none [(519, 1389), (34, 1369), (443, 1262), (129, 1360), (90, 1391)]) = true := by decide +kernel
theorem tk_F_223 : tE_223.2.2.1.all (tk_G "GameTextModel" none [(93, 1392)]) = true := by decide +kernel
theorem tk_L_223 : tE_223.2.2.2.1.all (tk_L "GameTextModel" [(552, 1884)]) = true := by decide +kernel
theorem tk_F_224 : tE_224.2.2.1.all (tk_G "GameTextModel" none [(129, 1360), (519, 1389)]) = true := by decide +kernel
theorem tk_F_225 : tE_225.2.2.1.all (tk_G "GameTextModel" none [(99, 1394)]) = true := by decide +kernel
theorem tk_L_225 : tE_225.2.2.2.1.all (tk_L "GameTextModel" [(552, 1884)]) = true := by decide +kernel
theorem tk_F_226 : tE_226.2.2.1.all (tk_G "GameTextModel" none [(102, 1395), (96, 1393)]) = true := by decide +kernel
theorem tk_L_226 : tE_226.2.2.2.1.all (tk_L "GameTextModel" [(555, 1896), (142, 1532)]) = true := by decide +kernel
theorem tk_F_227 : tE_227.2.2.1.all (tk_G "GameTextModel" none [(99, 1394)]) = true := by decide +kernel
theorem tk_L_227 : tE_227.2.2.2.1.all (tk_L "GameTextModel" [(552, 1884)]) = true := by decide +kernel
theorem tk_F_228 : tE_228.2.2.1.all (tk_G "GameTextModel" none [(108, 1397), (96, 1393)]) = true := by decide +kernel
theorem tk_L_228 : tE_228.2.2.2.1.all (tk_L "GameTextModel" [(555, 1896), (142, 1532)]) = true := by decide +kernel
theorem tk_F_229 : tE_229.2.2.1.all (tk_G "GameTextModel" none [(108, 1397), (96, 1393), (105, 1396), (111, 1399), (114, 1400), (117, 1401)]) = true := by decide +kernel
theorem tk_L_229 : tE_229.2.2.2.1.all (tk_L "GameTextModel" [(555, 1896), (142, 1532)]) = true := by decide +kernel
