set_option maxRecDepth 20000 in
theorem mw_10 : (Cond.methodLink RX11 1 objectInit) ∈ wsL_law := List.mem_of_getElem? (i := 10) (by decide +kernel)
set_option maxRecDepth 20000 in
theorem mw_11 : (Cond.instanceMethod objectInit) ∈ wsL_law := List.mem_of_getElem? (i := 11) (by decide +kernel)
set_option maxRecDepth 20000 in
theorem mw_12 : (Cond.code objectInit ⟨#[0xb1]⟩ 1 none) ∈ wsL_law := List.mem_of_getElem? (i := 12) (by decide +kernel)
set_option maxRecDepth 20000 in
theorem mw_13 : (Cond.classLink RX11 7 RX8) ∈ wsL_law := List.mem_of_getElem? (i := 13) (by decide +kernel)
set_option maxRecDepth 20000 in
theorem mw_14 : (Cond.instantiable RX8 2) ∈ wsL_law := List.mem_of_getElem? (i := 14) (by decide +kernel)
set_option maxRecDepth 20000 in
theorem mw_15 : (Cond.initialized RX8) ∈ wsL_law := List.mem_of_getElem? (i := 15) (by decide +kernel)
set_option maxRecDepth 20000 in
theorem mw_16 : (Cond.fieldLink RX11 10 "LayoutDesk" "text" "LLayoutDesk$Text;") ∈ wsL_law := List.mem_of_getElem? (i := 16) (by decide +kernel)
set_option maxRecDepth 20000 in
theorem mw_17 : (Cond.classLink RX11 16 RX3) ∈ wsL_law := List.mem_of_getElem? (i := 17) (by decide +kernel)
set_option maxRecDepth 20000 in
theorem mw_18 : (Cond.instantiable RX3 14) ∈ wsL_law := List.mem_of_getElem? (i := 18) (by decide +kernel)
set_option maxRecDepth 20000 in
theorem mw_19 : (Cond.initialized RX3) ∈ wsL_law := List.mem_of_getElem? (i := 19) (by decide +kernel)
set_option maxRecDepth 20000 in
theorem mw_20 : (Cond.fieldLink RX11 21 "LayoutDesk" "lexemes" "LLayoutDesk$Lexemes;") ∈ wsL_law := List.mem_of_getElem? (i := 20) (by decide +kernel)
set_option maxRecDepth 20000 in
theorem mw_21 : (Cond.classLink RX11 25 RX1) ∈ wsL_law := List.mem_of_getElem? (i := 21) (by decide +kernel)
set_option maxRecDepth 20000 in
theorem mw_22 : (Cond.instantiable RX1 9) ∈ wsL_law := List.mem_of_getElem? (i := 22) (by decide +kernel)
set_option maxRecDepth 20000 in
theorem mw_23 : (Cond.initialized RX1) ∈ wsL_law := List.mem_of_getElem? (i := 23) (by decide +kernel)
set_option maxRecDepth 20000 in
theorem mw_24 : (Cond.fieldLink RX11 30 "LayoutDesk" "feed" "LLayoutDesk$Feed;") ∈ wsL_law := List.mem_of_getElem? (i := 24) (by decide +kernel)
set_option maxRecDepth 20000 in
theorem mw_25 : (Cond.classLink RX11 34 RX9) ∈ wsL_law := List.mem_of_getElem? (i := 25) (by decide +kernel)
set_option maxRecDepth 20000 in
theorem mw_26 : (Cond.instantiable RX9 7) ∈ wsL_law := List.mem_of_getElem? (i := 26) (by decide +kernel)
set_option maxRecDepth 20000 in
theorem mw_27 : (Cond.initialized RX9) ∈ wsL_law := List.mem_of_getElem? (i := 27) (by decide +kernel)
set_option maxRecDepth 20000 in
theorem mw_28 : (Cond.fieldLink RX11 37 "LayoutDesk" "tree" "LLayoutDesk$Tree;") ∈ wsL_law := List.mem_of_getElem? (i := 28) (by decide +kernel)
set_option maxRecDepth 20000 in
theorem mw_29 : (Cond.fieldLink RX11 41 "LayoutDesk" "spare" "LLayoutDesk$Tree;") ∈ wsL_law := List.mem_of_getElem? (i := 29) (by decide +kernel)
set_option maxRecDepth 20000 in
theorem mw_30 : (Cond.classLink RX11 44 RX5) ∈ wsL_law := List.mem_of_getElem? (i := 30) (by decide +kernel)
set_option maxRecDepth 20000 in
theorem mw_31 : (Cond.instantiable RX5 7) ∈ wsL_law := List.mem_of_getElem? (i := 31) (by decide +kernel)
set_option maxRecDepth 20000 in
theorem mw_32 : (Cond.initialized RX5) ∈ wsL_law := List.mem_of_getElem? (i := 32) (by decide +kernel)
set_option maxRecDepth 20000 in
theorem mw_33 : (Cond.fieldLink RX11 49 "LayoutDesk" "parser" "LLayoutDesk$Parser;") ∈ wsL_law := List.mem_of_getElem? (i := 33) (by decide +kernel)
set_option maxRecDepth 20000 in
theorem mw_34 : (Cond.classLink RX11 53 RX10) ∈ wsL_law := List.mem_of_getElem? (i := 34) (by decide +kernel)
set_option maxRecDepth 20000 in
theorem mw_35 : (Cond.instantiable RX10 6) ∈ wsL_law := List.mem_of_getElem? (i := 35) (by decide +kernel)
set_option maxRecDepth 20000 in
theorem mw_36 : (Cond.initialized RX10) ∈ wsL_law := List.mem_of_getElem? (i := 36) (by decide +kernel)
set_option maxRecDepth 20000 in
theorem mw_37 : (Cond.fieldLink RX11 58 "LayoutDesk" "writer" "LLayoutDesk$Writer;") ∈ wsL_law := List.mem_of_getElem? (i := 37) (by decide +kernel)
set_option maxRecDepth 20000 in
theorem mw_38 : (Cond.methodLink RX11 9 yX8_init) ∈ wsL_law := List.mem_of_getElem? (i := 38) (by decide +kernel)
set_option maxRecDepth 20000 in
theorem mw_39 : (Cond.instanceMethod yX8_init) ∈ wsL_law := List.mem_of_getElem? (i := 39) (by decide +kernel)
set_option maxRecDepth 20000 in
theorem mw_40 : (Cond.code yX8_init cX8_init 1 none) ∈ wsL_law := List.mem_of_getElem? (i := 40) (by decide +kernel)
set_option maxRecDepth 20000 in
theorem mw_41 : (Cond.methodLink RX8 3 objectInit) ∈ wsL_law := List.mem_of_getElem? (i := 41) (by decide +kernel)
set_option maxRecDepth 20000 in
theorem mw_42 : (Cond.arrayClass .char) ∈ wsL_law := List.mem_of_getElem? (i := 42) (by decide +kernel)
set_option maxRecDepth 20000 in
theorem mw_43 : (Cond.fieldLink RX8 11 "LayoutDesk$Text" "bytes" "[C") ∈ wsL_law := List.mem_of_getElem? (i := 43) (by decide +kernel)
set_option maxRecDepth 20000 in
theorem mw_44 : (Cond.methodLink RX11 18 yX3_init) ∈ wsL_law := List.mem_of_getElem? (i := 44) (by decide +kernel)
set_option maxRecDepth 20000 in
theorem mw_45 : (Cond.instanceMethod yX3_init) ∈ wsL_law := List.mem_of_getElem? (i := 45) (by decide +kernel)
set_option maxRecDepth 20000 in
theorem mw_46 : (Cond.code yX3_init cX3_init 2 none) ∈ wsL_law := List.mem_of_getElem? (i := 46) (by decide +kernel)
set_option maxRecDepth 20000 in
theorem mw_47 : (Cond.methodLink RX3 3 objectInit) ∈ wsL_law := List.mem_of_getElem? (i := 47) (by decide +kernel)
set_option maxRecDepth 20000 in
theorem mw_48 : (Cond.fieldLink RX3 9 "LayoutDesk$Lexemes" "text" "LLayoutDesk$Text;") ∈ wsL_law := List.mem_of_getElem? (i := 48) (by decide +kernel)
set_option maxRecDepth 20000 in
theorem mw_49 : (Cond.arrayClass .int) ∈ wsL_law := List.mem_of_getElem? (i := 49) (by decide +kernel)
set_option maxRecDepth 20000 in
theorem mw_50 : (Cond.fieldLink RX3 15 "LayoutDesk$Lexemes" "places" "[I") ∈ wsL_law := List.mem_of_getElem? (i := 50) (by decide +kernel)
set_option maxRecDepth 20000 in
theorem mw_51 : (Cond.fieldLink RX3 19 "LayoutDesk$Lexemes" "columns" "[I") ∈ wsL_law := List.mem_of_getElem? (i := 51) (by decide +kernel)
set_option maxRecDepth 20000 in
theorem mw_52 : (Cond.fieldLink RX3 22 "LayoutDesk$Lexemes" "sorts" "[I") ∈ wsL_law := List.mem_of_getElem? (i := 52) (by decide +kernel)
set_option maxRecDepth 20000 in
theorem mw_53 : (Cond.fieldLink RX3 25 "LayoutDesk$Lexemes" "lengths" "[I") ∈ wsL_law := List.mem_of_getElem? (i := 53) (by decide +kernel)
set_option maxRecDepth 20000 in
theorem mw_54 : (Cond.fieldLink RX3 28 "LayoutDesk$Lexemes" "openings" "[I") ∈ wsL_law := List.mem_of_getElem? (i := 54) (by decide +kernel)
set_option maxRecDepth 20000 in
theorem mw_55 : (Cond.fieldLink RX3 31 "LayoutDesk$Lexemes" "indents" "[I") ∈ wsL_law := List.mem_of_getElem? (i := 55) (by decide +kernel)
set_option maxRecDepth 20000 in
theorem mw_56 : (Cond.methodLink RX11 27 yX1_init) ∈ wsL_law := List.mem_of_getElem? (i := 56) (by decide +kernel)
set_option maxRecDepth 20000 in
theorem mw_57 : (Cond.instanceMethod yX1_init) ∈ wsL_law := List.mem_of_getElem? (i := 57) (by decide +kernel)
set_option maxRecDepth 20000 in
theorem mw_58 : (Cond.code yX1_init cX1_init 2 none) ∈ wsL_law := List.mem_of_getElem? (i := 58) (by decide +kernel)
set_option maxRecDepth 20000 in
theorem mw_59 : (Cond.methodLink RX1 5 objectInit) ∈ wsL_law := List.mem_of_getElem? (i := 59) (by decide +kernel)
set_option maxRecDepth 20000 in
theorem mw_60 : (Cond.fieldLink RX1 11 "LayoutDesk$Feed" "lexemes" "LLayoutDesk$Lexemes;") ∈ wsL_law := List.mem_of_getElem? (i := 60) (by decide +kernel)
set_option maxRecDepth 20000 in
theorem mw_61 : (Cond.fieldLink RX1 17 "LayoutDesk$Feed" "tokens" "[I") ∈ wsL_law := List.mem_of_getElem? (i := 61) (by decide +kernel)
set_option maxRecDepth 20000 in
theorem mw_62 : (Cond.fieldLink RX1 21 "LayoutDesk$Feed" "contexts" "[I") ∈ wsL_law := List.mem_of_getElem? (i := 62) (by decide +kernel)
set_option maxRecDepth 20000 in
theorem mw_63 : (Cond.methodLink RX11 36 yX9_init) ∈ wsL_law := List.mem_of_getElem? (i := 63) (by decide +kernel)
set_option maxRecDepth 20000 in
theorem mw_64 : (Cond.instanceMethod yX9_init) ∈ wsL_law := List.mem_of_getElem? (i := 64) (by decide +kernel)
set_option maxRecDepth 20000 in
theorem mw_65 : (Cond.code yX9_init cX9_init 1 none) ∈ wsL_law := List.mem_of_getElem? (i := 65) (by decide +kernel)
set_option maxRecDepth 20000 in
theorem mw_66 : (Cond.methodLink RX9 5 objectInit) ∈ wsL_law := List.mem_of_getElem? (i := 66) (by decide +kernel)
set_option maxRecDepth 20000 in
theorem mw_67 : (Cond.fieldLink RX9 13 "LayoutDesk$Tree" "kinds" "[I") ∈ wsL_law := List.mem_of_getElem? (i := 67) (by decide +kernel)
set_option maxRecDepth 20000 in
theorem mw_68 : (Cond.fieldLink RX9 17 "LayoutDesk$Tree" "sizes" "[I") ∈ wsL_law := List.mem_of_getElem? (i := 68) (by decide +kernel)
set_option maxRecDepth 20000 in
theorem mw_69 : (Cond.fieldLink RX9 20 "LayoutDesk$Tree" "parents" "[I") ∈ wsL_law := List.mem_of_getElem? (i := 69) (by decide +kernel)
set_option maxRecDepth 20000 in
theorem mw_70 : (Cond.fieldLink RX9 23 "LayoutDesk$Tree" "places" "[I") ∈ wsL_law := List.mem_of_getElem? (i := 70) (by decide +kernel)
set_option maxRecDepth 20000 in
theorem mw_71 : (Cond.fieldLink RX9 26 "LayoutDesk$Tree" "lengths" "[I") ∈ wsL_law := List.mem_of_getElem? (i := 71) (by decide +kernel)
set_option maxRecDepth 20000 in
theorem mw_72 : (Cond.fieldLink RX9 31 "LayoutDesk$Tree" "letters" "[C") ∈ wsL_law := List.mem_of_getElem? (i := 72) (by decide +kernel)
set_option maxRecDepth 20000 in
theorem mw_73 : (Cond.methodLink RX11 46 yX5_init) ∈ wsL_law := List.mem_of_getElem? (i := 73) (by decide +kernel)
set_option maxRecDepth 20000 in
theorem mw_74 : (Cond.instanceMethod yX5_init) ∈ wsL_law := List.mem_of_getElem? (i := 74) (by decide +kernel)
set_option maxRecDepth 20000 in
theorem mw_75 : (Cond.code yX5_init cX5_init 4 none) ∈ wsL_law := List.mem_of_getElem? (i := 75) (by decide +kernel)
set_option maxRecDepth 20000 in
theorem mw_76 : (Cond.methodLink RX5 3 objectInit) ∈ wsL_law := List.mem_of_getElem? (i := 76) (by decide +kernel)
set_option maxRecDepth 20000 in
theorem mw_77 : (Cond.fieldLink RX5 9 "LayoutDesk$Parser" "lexemes" "LLayoutDesk$Lexemes;") ∈ wsL_law := List.mem_of_getElem? (i := 77) (by decide +kernel)
set_option maxRecDepth 20000 in
theorem mw_78 : (Cond.fieldLink RX5 15 "LayoutDesk$Parser" "feed" "LLayoutDesk$Feed;") ∈ wsL_law := List.mem_of_getElem? (i := 78) (by decide +kernel)
set_option maxRecDepth 20000 in
theorem mw_79 : (Cond.classLink RX5 19 RX4) ∈ wsL_law := List.mem_of_getElem? (i := 79) (by decide +kernel)
set_option maxRecDepth 20000 in
theorem mw_80 : (Cond.instantiable RX4 7) ∈ wsL_law := List.mem_of_getElem? (i := 80) (by decide +kernel)
set_option maxRecDepth 20000 in
theorem mw_81 : (Cond.initialized RX4) ∈ wsL_law := List.mem_of_getElem? (i := 81) (by decide +kernel)
set_option maxRecDepth 20000 in
theorem mw_82 : (Cond.fieldLink RX5 22 "LayoutDesk$Parser" "openings" "LLayoutDesk$Openings;") ∈ wsL_law := List.mem_of_getElem? (i := 82) (by decide +kernel)
set_option maxRecDepth 20000 in
theorem mw_83 : (Cond.classLink RX5 26 RX6) ∈ wsL_law := List.mem_of_getElem? (i := 83) (by decide +kernel)
set_option maxRecDepth 20000 in
theorem mw_84 : (Cond.instantiable RX6 3) ∈ wsL_law := List.mem_of_getElem? (i := 84) (by decide +kernel)
set_option maxRecDepth 20000 in
theorem mw_85 : (Cond.initialized RX6) ∈ wsL_law := List.mem_of_getElem? (i := 85) (by decide +kernel)
set_option maxRecDepth 20000 in
theorem mw_86 : (Cond.fieldLink RX5 29 "LayoutDesk$Parser" "pile" "LLayoutDesk$Pile;") ∈ wsL_law := List.mem_of_getElem? (i := 86) (by decide +kernel)
set_option maxRecDepth 20000 in
theorem mw_87 : (Cond.fieldLink RX5 33 "LayoutDesk$Parser" "tree" "LLayoutDesk$Tree;") ∈ wsL_law := List.mem_of_getElem? (i := 87) (by decide +kernel)
set_option maxRecDepth 20000 in
theorem mw_88 : (Cond.methodLink RX5 21 yX4_init) ∈ wsL_law := List.mem_of_getElem? (i := 88) (by decide +kernel)
set_option maxRecDepth 20000 in
theorem mw_89 : (Cond.instanceMethod yX4_init) ∈ wsL_law := List.mem_of_getElem? (i := 89) (by decide +kernel)
set_option maxRecDepth 20000 in
theorem mw_90 : (Cond.code yX4_init cX4_init 1 none) ∈ wsL_law := List.mem_of_getElem? (i := 90) (by decide +kernel)
set_option maxRecDepth 20000 in
theorem mw_91 : (Cond.methodLink RX4 5 objectInit) ∈ wsL_law := List.mem_of_getElem? (i := 91) (by decide +kernel)
set_option maxRecDepth 20000 in
theorem mw_92 : (Cond.fieldLink RX4 13 "LayoutDesk$Openings" "depths" "[I") ∈ wsL_law := List.mem_of_getElem? (i := 92) (by decide +kernel)
set_option maxRecDepth 20000 in
theorem mw_93 : (Cond.fieldLink RX4 17 "LayoutDesk$Openings" "tokens" "[I") ∈ wsL_law := List.mem_of_getElem? (i := 93) (by decide +kernel)
set_option maxRecDepth 20000 in
theorem mw_94 : (Cond.fieldLink RX4 20 "LayoutDesk$Openings" "positions" "[I") ∈ wsL_law := List.mem_of_getElem? (i := 94) (by decide +kernel)
set_option maxRecDepth 20000 in
theorem mw_95 : (Cond.fieldLink RX4 23 "LayoutDesk$Openings" "lets" "[I") ∈ wsL_law := List.mem_of_getElem? (i := 95) (by decide +kernel)
set_option maxRecDepth 20000 in
theorem mw_96 : (Cond.methodLink RX5 28 yX6_init) ∈ wsL_law := List.mem_of_getElem? (i := 96) (by decide +kernel)
set_option maxRecDepth 20000 in
theorem mw_97 : (Cond.instanceMethod yX6_init) ∈ wsL_law := List.mem_of_getElem? (i := 97) (by decide +kernel)
set_option maxRecDepth 20000 in
theorem mw_98 : (Cond.code yX6_init cX6_init 1 none) ∈ wsL_law := List.mem_of_getElem? (i := 98) (by decide +kernel)
set_option maxRecDepth 20000 in
theorem mw_99 : (Cond.methodLink RX6 5 objectInit) ∈ wsL_law := List.mem_of_getElem? (i := 99) (by decide +kernel)
set_option maxRecDepth 20000 in
theorem mw_100 : (Cond.fieldLink RX6 13 "LayoutDesk$Pile" "dues" "[I") ∈ wsL_law := List.mem_of_getElem? (i := 100) (by decide +kernel)
set_option maxRecDepth 20000 in
theorem mw_101 : (Cond.fieldLink RX6 17 "LayoutDesk$Pile" "nodes" "[I") ∈ wsL_law := List.mem_of_getElem? (i := 101) (by decide +kernel)
set_option maxRecDepth 20000 in
theorem mw_102 : (Cond.methodLink RX11 55 yX10_init) ∈ wsL_law := List.mem_of_getElem? (i := 102) (by decide +kernel)
set_option maxRecDepth 20000 in
theorem mw_103 : (Cond.instanceMethod yX10_init) ∈ wsL_law := List.mem_of_getElem? (i := 103) (by decide +kernel)
set_option maxRecDepth 20000 in
theorem mw_104 : (Cond.code yX10_init cX10_init 2 none) ∈ wsL_law := List.mem_of_getElem? (i := 104) (by decide +kernel)
set_option maxRecDepth 20000 in
theorem mw_105 : (Cond.methodLink RX10 1 objectInit) ∈ wsL_law := List.mem_of_getElem? (i := 105) (by decide +kernel)
set_option maxRecDepth 20000 in
theorem mw_106 : (Cond.fieldLink RX10 9 "LayoutDesk$Writer" "bytes" "[C") ∈ wsL_law := List.mem_of_getElem? (i := 106) (by decide +kernel)
set_option maxRecDepth 20000 in
theorem mw_107 : (Cond.fieldLink RX10 15 "LayoutDesk$Writer" "tree" "LLayoutDesk$Tree;") ∈ wsL_law := List.mem_of_getElem? (i := 107) (by decide +kernel)
set_option maxRecDepth 20000 in
theorem mw_111 : (Cond.methodLink RX12 1 objectInit) ∈ wsL_law := List.mem_of_getElem? (i := 111) (by decide +kernel)
set_option maxRecDepth 20000 in
theorem mw_112 : (Cond.fieldLink RX12 7 "LayoutDeskModel" "text" "[I") ∈ wsL_law := List.mem_of_getElem? (i := 112) (by decide +kernel)
set_option maxRecDepth 20000 in
theorem mw_113 : (Cond.fieldLink RX12 13 "LayoutDeskModel" "places" "[I") ∈ wsL_law := List.mem_of_getElem? (i := 113) (by decide +kernel)
set_option maxRecDepth 20000 in
theorem mw_114 : (Cond.fieldLink RX12 16 "LayoutDeskModel" "columns" "[I") ∈ wsL_law := List.mem_of_getElem? (i := 114) (by decide +kernel)
set_option maxRecDepth 20000 in
theorem mw_115 : (Cond.fieldLink RX12 19 "LayoutDeskModel" "kinds" "[I") ∈ wsL_law := List.mem_of_getElem? (i := 115) (by decide +kernel)
set_option maxRecDepth 20000 in
theorem mw_116 : (Cond.fieldLink RX12 22 "LayoutDeskModel" "codes" "[I") ∈ wsL_law := List.mem_of_getElem? (i := 116) (by decide +kernel)
set_option maxRecDepth 20000 in
theorem mw_117 : (Cond.fieldLink RX12 25 "LayoutDeskModel" "sizes" "[I") ∈ wsL_law := List.mem_of_getElem? (i := 117) (by decide +kernel)
set_option maxRecDepth 20000 in
theorem mw_118 : (Cond.fieldLink RX12 28 "LayoutDeskModel" "openings" "[I") ∈ wsL_law := List.mem_of_getElem? (i := 118) (by decide +kernel)
set_option maxRecDepth 20000 in
theorem mw_119 : (Cond.fieldLink RX12 31 "LayoutDeskModel" "indents" "[I") ∈ wsL_law := List.mem_of_getElem? (i := 119) (by decide +kernel)
set_option maxRecDepth 20000 in
theorem mw_120 : (Cond.fieldLink RX12 34 "LayoutDeskModel" "numbers" "[I") ∈ wsL_law := List.mem_of_getElem? (i := 120) (by decide +kernel)
set_option maxRecDepth 20000 in
theorem mw_121 : (Cond.fieldLink RX12 37 "LayoutDeskModel" "letters" "[I") ∈ wsL_law := List.mem_of_getElem? (i := 121) (by decide +kernel)
set_option maxRecDepth 20000 in
theorem mw_122 : (Cond.fieldLink RX12 40 "LayoutDeskModel" "nodeKind" "[I") ∈ wsL_law := List.mem_of_getElem? (i := 122) (by decide +kernel)
set_option maxRecDepth 20000 in
theorem mw_123 : (Cond.fieldLink RX12 43 "LayoutDeskModel" "nodeLexeme" "[I") ∈ wsL_law := List.mem_of_getElem? (i := 123) (by decide +kernel)
set_option maxRecDepth 20000 in
theorem mw_124 : (Cond.fieldLink RX12 46 "LayoutDeskModel" "nodeEnd" "[I") ∈ wsL_law := List.mem_of_getElem? (i := 124) (by decide +kernel)
set_option maxRecDepth 20000 in
theorem mw_125 : (Cond.fieldLink RX12 49 "LayoutDeskModel" "level" "[I") ∈ wsL_law := List.mem_of_getElem? (i := 125) (by decide +kernel)
set_option maxRecDepth 20000 in
theorem mw_126 : (Cond.fieldLink RX12 52 "LayoutDeskModel" "phase" "[I") ∈ wsL_law := List.mem_of_getElem? (i := 126) (by decide +kernel)
set_option maxRecDepth 20000 in
theorem mw_127 : (Cond.fieldLink RX12 55 "LayoutDeskModel" "start" "[I") ∈ wsL_law := List.mem_of_getElem? (i := 127) (by decide +kernel)
set_option maxRecDepth 20000 in
theorem mw_128 : (Cond.fieldLink RX12 58 "LayoutDeskModel" "what" "[I") ∈ wsL_law := List.mem_of_getElem? (i := 128) (by decide +kernel)
set_option maxRecDepth 20000 in
theorem mw_129 : (Cond.fieldLink RX12 61 "LayoutDeskModel" "token" "[I") ∈ wsL_law := List.mem_of_getElem? (i := 129) (by decide +kernel)
set_option maxRecDepth 20000 in
theorem mw_130 : (Cond.fieldLink RX12 64 "LayoutDeskModel" "context" "[I") ∈ wsL_law := List.mem_of_getElem? (i := 130) (by decide +kernel)
set_option maxRecDepth 20000 in
theorem mw_131 : (Cond.fieldLink RX12 67 "LayoutDeskModel" "treeKind" "[I") ∈ wsL_law := List.mem_of_getElem? (i := 131) (by decide +kernel)
set_option maxRecDepth 20000 in
theorem mw_132 : (Cond.fieldLink RX12 70 "LayoutDeskModel" "treeEnd" "[I") ∈ wsL_law := List.mem_of_getElem? (i := 132) (by decide +kernel)
set_option maxRecDepth 20000 in
theorem mw_133 : (Cond.fieldLink RX12 73 "LayoutDeskModel" "treeIn" "[I") ∈ wsL_law := List.mem_of_getElem? (i := 133) (by decide +kernel)
set_option maxRecDepth 20000 in
theorem mw_134 : (Cond.fieldLink RX12 76 "LayoutDeskModel" "treeNumber" "[I") ∈ wsL_law := List.mem_of_getElem? (i := 134) (by decide +kernel)
set_option maxRecDepth 20000 in
theorem mw_135 : (Cond.fieldLink RX12 79 "LayoutDeskModel" "treeSize" "[I") ∈ wsL_law := List.mem_of_getElem? (i := 135) (by decide +kernel)
set_option maxRecDepth 20000 in
theorem mw_136 : (Cond.constant RX12 82 (36000)) ∈ wsL_law := List.mem_of_getElem? (i := 136) (by decide +kernel)
set_option maxRecDepth 20000 in
theorem mw_137 : (Cond.fieldLink RX12 83 "LayoutDeskModel" "treeLetters" "[I") ∈ wsL_law := List.mem_of_getElem? (i := 137) (by decide +kernel)
set_option maxRecDepth 20000 in
theorem mw_138 : (Cond.fieldLink RX12 86 "LayoutDeskModel" "out" "[I") ∈ wsL_law := List.mem_of_getElem? (i := 138) (by decide +kernel)
set_option maxRecDepth 20000 in
theorem mw_139 : (Cond.fieldLink RX12 89 "LayoutDeskModel" "waiting" "[I") ∈ wsL_law := List.mem_of_getElem? (i := 139) (by decide +kernel)
theorem zdf_1 : ∀ j, j < 9 → defaultValue (tyX1 j) = vp_V [.null, .null, .null, .int 0, .int 0, .int 0, .int 0, .int 0, .int 0] j := by decide +kernel
theorem zdf_3 : ∀ j, j < 14 → defaultValue (tyX3 j) = vp_V [.null, .null, .null, .null, .null, .null, .null, .int 0, .int 0, .int 0, .int 0, .int 0, .int 0, .int 0] j := by decide +kernel
theorem zdf_4 : ∀ j, j < 7 → defaultValue (tyX4 j) = vp_V [.null, .null, .null, .null, .int 0, .int 0, .int 0] j := by decide +kernel
theorem zdf_5 : ∀ j, j < 7 → defaultValue (tyX5 j) = vp_V [.null, .null, .null, .null, .null, .int 0, .int 0] j := by decide +kernel
theorem zdf_6 : ∀ j, j < 3 → defaultValue (tyX6 j) = vp_V [.null, .null, .int 0] j := by decide +kernel
theorem zdf_8 : ∀ j, j < 2 → defaultValue (tyX8 j) = vp_V [.null, .int 0] j := by decide +kernel
theorem zdf_9 : ∀ j, j < 7 → defaultValue (tyX9 j) = vp_V [.null, .null, .null, .null, .null, .null, .int 0] j := by decide +kernel
theorem zdf_10 : ∀ j, j < 6 → defaultValue (tyX10 j) = vp_V [.null, .int 0, .null, .int 0, .int 0, .int 0] j := by decide +kernel
theorem zo_X10_init : zOK yX10_init cX10_init 2 none 1 := ⟨mw_104, mw_36, by decide +kernel⟩
theorem zo_X1_init : zOK yX1_init cX1_init 2 none 1 := ⟨mw_58, mw_23, by decide +kernel⟩
theorem zo_X3_init : zOK yX3_init cX3_init 2 none 1 := ⟨mw_46, mw_19, by decide +kernel⟩
theorem zo_X4_init : zOK yX4_init cX4_init 1 none 0 := ⟨mw_90, mw_81, by decide +kernel⟩
theorem zo_X5_init : zOK yX5_init cX5_init 4 none 3 := ⟨mw_75, mw_32, by decide +kernel⟩
theorem zo_X6_init : zOK yX6_init cX6_init 1 none 0 := ⟨mw_98, mw_85, by decide +kernel⟩
theorem zo_X8_init : zOK yX8_init cX8_init 1 none 0 := ⟨mw_40, mw_15, by decide +kernel⟩
theorem zo_X9_init : zOK yX9_init cX9_init 1 none 0 := ⟨mw_65, mw_27, by decide +kernel⟩