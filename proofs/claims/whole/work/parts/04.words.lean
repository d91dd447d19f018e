def tb : List Cond := lw_tbl.filter goodWord
theorem tb_in {w : Cond} (i : Nat) (h : lw_tbl[i]? = some w) (g : goodWord w = true) : w ∈ tb := List.mem_filter.mpr ⟨List.mem_of_getElem? h, g⟩
theorem wd_48 : (Jvm.Cond.initialized "RopeShelfLaw") ∈ tb := tb_in 48 (by decide +kernel) rfl
theorem wd_49 : (Jvm.Cond.initialized "RopeShelf") ∈ tb := tb_in 49 (by decide +kernel) rfl
theorem wd_50 : (Jvm.Cond.initialized "RopeShelf$Text") ∈ tb := tb_in 50 (by decide +kernel) rfl
theorem wd_51 : (Jvm.Cond.initialized "RopeShelf$Table") ∈ tb := tb_in 51 (by decide +kernel) rfl
theorem wd_52 : (Jvm.Cond.initialized "RopeShelf$Pieces") ∈ tb := tb_in 52 (by decide +kernel) rfl
theorem wd_53 : (Jvm.Cond.initialized "RopeShelf$Weaver") ∈ tb := tb_in 53 (by decide +kernel) rfl
theorem wd_54 : (Jvm.Cond.initialized "RopeShelf$Walk") ∈ tb := tb_in 54 (by decide +kernel) rfl
theorem wd_55 : (Jvm.Cond.initialized "RopeShelf$Cell") ∈ tb := tb_in 55 (by decide +kernel) rfl
theorem wd_56 : (Jvm.Cond.initialized "RopeShelfModel") ∈ tb := tb_in 56 (by decide +kernel) rfl
theorem wd_57 : (Jvm.Cond.initialized "java/lang/Math") ∈ tb := tb_in 57 (by decide +kernel) rfl
theorem wd_58 : (Jvm.Cond.classLink "RopeShelfLaw" (7 : Nat) "RopeShelf") ∈ tb := tb_in 58 (by decide +kernel) rfl
theorem wd_59 : (Jvm.Cond.instantiable "RopeShelf" (11 : Nat)) ∈ tb := tb_in 59 (by decide +kernel) rfl
theorem wd_60 : (Jvm.Cond.methodLink "RopeShelfLaw" (9 : Nat) ({ cls := "RopeShelf", name := "<init>", desc := "()V" } : Jvm.MethodName)) ∈ tb := tb_in 60 (by decide +kernel) rfl
theorem wd_61 : (Jvm.Cond.instanceMethod ({ cls := "RopeShelf", name := "<init>", desc := "()V" } : Jvm.MethodName)) ∈ tb := tb_in 61 (by decide +kernel) rfl
theorem wd_62 : (Jvm.Cond.code ({ cls := "RopeShelf", name := "<init>", desc := "()V" } : Jvm.MethodName) prog_1_method_1_code (2 : Nat) (Option.none : Option Jvm.ClassFile.FieldType)) ∈ tb := tb_in 62 (by decide +kernel) rfl
theorem wd_63 : (Jvm.Cond.methodLink "RopeShelf" (1 : Nat) ({ cls := "java/lang/Object", name := "<init>", desc := "()V" } : Jvm.MethodName)) ∈ tb := tb_in 63 (by decide +kernel) rfl
theorem wd_64 : (Jvm.Cond.instanceMethod ({ cls := "java/lang/Object", name := "<init>", desc := "()V" } : Jvm.MethodName)) ∈ tb := tb_in 64 (by decide +kernel) rfl
theorem wd_65 : (Jvm.Cond.code ({ cls := "java/lang/Object", name := "<init>", desc := "()V" } : Jvm.MethodName) object_method_1_code (1 : Nat) (Option.none : Option Jvm.ClassFile.FieldType)) ∈ tb := tb_in 65 (by decide +kernel) rfl
theorem wd_66 : (Jvm.Cond.classLink "RopeShelf" (9 : Nat) "RopeShelf$Cell") ∈ tb := tb_in 66 (by decide +kernel) rfl
theorem wn_67 : (Jvm.Cond.arrayOver (Jvm.ClassFile.FieldType.object "RopeShelf$Cell")) ∈ lw_tbl := List.mem_of_getElem? (i := 67) (by decide +kernel)
theorem wd_68 : (Jvm.Cond.classLink "RopeShelf" (25 : Nat) "RopeShelf$Text") ∈ tb := tb_in 68 (by decide +kernel) rfl
theorem wd_69 : (Jvm.Cond.instantiable "RopeShelf$Text" (2 : Nat)) ∈ tb := tb_in 69 (by decide +kernel) rfl
theorem wn_70 : (Jvm.Cond.methodLinkNest "RopeShelf" (27 : Nat) ({ cls := "RopeShelf$Text", name := "<init>", desc := "()V" } : Jvm.MethodName) "RopeShelf") ∈ lw_tbl := List.mem_of_getElem? (i := 70) (by decide +kernel)
theorem wd_71 : (Jvm.Cond.instanceMethod ({ cls := "RopeShelf$Text", name := "<init>", desc := "()V" } : Jvm.MethodName)) ∈ tb := tb_in 71 (by decide +kernel) rfl
theorem wd_72 : (Jvm.Cond.code ({ cls := "RopeShelf$Text", name := "<init>", desc := "()V" } : Jvm.MethodName) prog_5_method_1_code (1 : Nat) (Option.none : Option Jvm.ClassFile.FieldType)) ∈ tb := tb_in 72 (by decide +kernel) rfl
theorem wd_73 : (Jvm.Cond.methodLink "RopeShelf$Text" (3 : Nat) ({ cls := "java/lang/Object", name := "<init>", desc := "()V" } : Jvm.MethodName)) ∈ tb := tb_in 73 (by decide +kernel) rfl
theorem wd_74 : (Jvm.Cond.fieldLink "RopeShelf$Text" (9 : Nat) "RopeShelf$Text" "row" "[I") ∈ tb := tb_in 74 (by decide +kernel) rfl
theorem wd_75 : (Jvm.Cond.fieldLink "RopeShelf$Text" (15 : Nat) "RopeShelf$Text" "many" "I") ∈ tb := tb_in 75 (by decide +kernel) rfl
theorem wd_76 : (Jvm.Cond.fieldLink "RopeShelf$Cell" (20 : Nat) "RopeShelf$Text" "many" "I") ∈ tb := tb_in 76 (by decide +kernel) rfl
theorem wd_77 : (Jvm.Cond.fieldLink "RopeShelf" (84 : Nat) "RopeShelf$Text" "many" "I") ∈ tb := tb_in 77 (by decide +kernel) rfl
theorem wd_78 : (Jvm.Cond.laysFinal "RopeShelf$Text" "RopeShelf$Text" "row" "[I") ∈ tb := tb_in 78 (by decide +kernel) rfl
theorem wd_79 : (Jvm.Cond.soleField "RopeShelf$Text" "row") ∈ tb := tb_in 79 (by decide +kernel) rfl
theorem wd_80 : (Jvm.Cond.lays "RopeShelf$Text" "RopeShelf$Text" "many" "I") ∈ tb := tb_in 80 (by decide +kernel) rfl
theorem wd_81 : (Jvm.Cond.soleField "RopeShelf$Text" "many") ∈ tb := tb_in 81 (by decide +kernel) rfl
theorem wd_83 : (Jvm.Cond.arrayClass Jvm.ClassFile.FieldType.int) ∈ tb := tb_in 83 (by decide +kernel) rfl
theorem wd_84 : (Jvm.Cond.classLink "RopeShelf" (32 : Nat) "RopeShelf$Table") ∈ tb := tb_in 84 (by decide +kernel) rfl
theorem wd_85 : (Jvm.Cond.instantiable "RopeShelf$Table" (4 : Nat)) ∈ tb := tb_in 85 (by decide +kernel) rfl
theorem wn_86 : (Jvm.Cond.methodLinkNest "RopeShelf" (34 : Nat) ({ cls := "RopeShelf$Table", name := "<init>", desc := "()V" } : Jvm.MethodName) "RopeShelf") ∈ lw_tbl := List.mem_of_getElem? (i := 86) (by decide +kernel)
theorem wd_87 : (Jvm.Cond.instanceMethod ({ cls := "RopeShelf$Table", name := "<init>", desc := "()V" } : Jvm.MethodName)) ∈ tb := tb_in 87 (by decide +kernel) rfl
theorem wd_88 : (Jvm.Cond.code ({ cls := "RopeShelf$Table", name := "<init>", desc := "()V" } : Jvm.MethodName) prog_4_method_1_code (1 : Nat) (Option.none : Option Jvm.ClassFile.FieldType)) ∈ tb := tb_in 88 (by decide +kernel) rfl
theorem wd_89 : (Jvm.Cond.methodLink "RopeShelf$Table" (3 : Nat) ({ cls := "java/lang/Object", name := "<init>", desc := "()V" } : Jvm.MethodName)) ∈ tb := tb_in 89 (by decide +kernel) rfl
theorem wd_90 : (Jvm.Cond.classLink "RopeShelf$Table" (9 : Nat) "RopeShelf$Cell") ∈ tb := tb_in 90 (by decide +kernel) rfl
theorem wd_91 : (Jvm.Cond.fieldLink "RopeShelf$Table" (11 : Nat) "RopeShelf$Table" "row" "[LRopeShelf$Cell;") ∈ tb := tb_in 91 (by decide +kernel) rfl
theorem wd_92 : (Jvm.Cond.fieldLink "RopeShelf$Table" (17 : Nat) "RopeShelf$Table" "numbers" "[I") ∈ tb := tb_in 92 (by decide +kernel) rfl
theorem wd_93 : (Jvm.Cond.fieldLink "RopeShelf$Table" (21 : Nat) "RopeShelf$Table" "size" "I") ∈ tb := tb_in 93 (by decide +kernel) rfl
theorem wd_94 : (Jvm.Cond.fieldLink "RopeShelf" (205 : Nat) "RopeShelf$Table" "size" "I") ∈ tb := tb_in 94 (by decide +kernel) rfl
theorem wd_95 : (Jvm.Cond.fieldLink "RopeShelf$Table" (25 : Nat) "RopeShelf$Table" "ever" "I") ∈ tb := tb_in 95 (by decide +kernel) rfl
theorem wd_96 : (Jvm.Cond.fieldLink "RopeShelf" (208 : Nat) "RopeShelf$Table" "ever" "I") ∈ tb := tb_in 96 (by decide +kernel) rfl
theorem wd_97 : (Jvm.Cond.laysFinal "RopeShelf$Table" "RopeShelf$Table" "row" "[LRopeShelf$Cell;") ∈ tb := tb_in 97 (by decide +kernel) rfl
theorem wd_98 : (Jvm.Cond.soleField "RopeShelf$Table" "row") ∈ tb := tb_in 98 (by decide +kernel) rfl
theorem wd_99 : (Jvm.Cond.laysFinal "RopeShelf$Table" "RopeShelf$Table" "numbers" "[I") ∈ tb := tb_in 99 (by decide +kernel) rfl
theorem wd_100 : (Jvm.Cond.soleField "RopeShelf$Table" "numbers") ∈ tb := tb_in 100 (by decide +kernel) rfl
theorem wd_101 : (Jvm.Cond.lays "RopeShelf$Table" "RopeShelf$Table" "size" "I") ∈ tb := tb_in 101 (by decide +kernel) rfl
theorem wd_102 : (Jvm.Cond.soleField "RopeShelf$Table" "size") ∈ tb := tb_in 102 (by decide +kernel) rfl
theorem wd_103 : (Jvm.Cond.lays "RopeShelf$Table" "RopeShelf$Table" "ever" "I") ∈ tb := tb_in 103 (by decide +kernel) rfl
theorem wd_104 : (Jvm.Cond.soleField "RopeShelf$Table" "ever") ∈ tb := tb_in 104 (by decide +kernel) rfl
theorem wd_106 : (Jvm.Cond.classLink "RopeShelf" (39 : Nat) "RopeShelf$Pieces") ∈ tb := tb_in 106 (by decide +kernel) rfl
theorem wd_107 : (Jvm.Cond.instantiable "RopeShelf$Pieces" (2 : Nat)) ∈ tb := tb_in 107 (by decide +kernel) rfl
theorem wn_108 : (Jvm.Cond.methodLinkNest "RopeShelf" (41 : Nat) ({ cls := "RopeShelf$Pieces", name := "<init>", desc := "()V" } : Jvm.MethodName) "RopeShelf") ∈ lw_tbl := List.mem_of_getElem? (i := 108) (by decide +kernel)
theorem wd_109 : (Jvm.Cond.instanceMethod ({ cls := "RopeShelf$Pieces", name := "<init>", desc := "()V" } : Jvm.MethodName)) ∈ tb := tb_in 109 (by decide +kernel) rfl
theorem wd_110 : (Jvm.Cond.code ({ cls := "RopeShelf$Pieces", name := "<init>", desc := "()V" } : Jvm.MethodName) prog_3_method_1_code (1 : Nat) (Option.none : Option Jvm.ClassFile.FieldType)) ∈ tb := tb_in 110 (by decide +kernel) rfl
theorem wd_111 : (Jvm.Cond.methodLink "RopeShelf$Pieces" (3 : Nat) ({ cls := "java/lang/Object", name := "<init>", desc := "()V" } : Jvm.MethodName)) ∈ tb := tb_in 111 (by decide +kernel) rfl
theorem wd_112 : (Jvm.Cond.classLink "RopeShelf$Pieces" (9 : Nat) "RopeShelf$Cell") ∈ tb := tb_in 112 (by decide +kernel) rfl
theorem wd_113 : (Jvm.Cond.fieldLink "RopeShelf$Pieces" (11 : Nat) "RopeShelf$Pieces" "row" "[LRopeShelf$Cell;") ∈ tb := tb_in 113 (by decide +kernel) rfl
theorem wd_114 : (Jvm.Cond.fieldLink "RopeShelf$Pieces" (17 : Nat) "RopeShelf$Pieces" "many" "I") ∈ tb := tb_in 114 (by decide +kernel) rfl
theorem wd_115 : (Jvm.Cond.fieldLink "RopeShelf$Weaver" (69 : Nat) "RopeShelf$Pieces" "many" "I") ∈ tb := tb_in 115 (by decide +kernel) rfl
theorem wd_116 : (Jvm.Cond.fieldLink "RopeShelf" (133 : Nat) "RopeShelf$Pieces" "many" "I") ∈ tb := tb_in 116 (by decide +kernel) rfl
theorem wd_117 : (Jvm.Cond.laysFinal "RopeShelf$Pieces" "RopeShelf$Pieces" "row" "[LRopeShelf$Cell;") ∈ tb := tb_in 117 (by decide +kernel) rfl
theorem wd_118 : (Jvm.Cond.soleField "RopeShelf$Pieces" "row") ∈ tb := tb_in 118 (by decide +kernel) rfl
theorem wd_119 : (Jvm.Cond.lays "RopeShelf$Pieces" "RopeShelf$Pieces" "many" "I") ∈ tb := tb_in 119 (by decide +kernel) rfl
theorem wd_120 : (Jvm.Cond.soleField "RopeShelf$Pieces" "many") ∈ tb := tb_in 120 (by decide +kernel) rfl
theorem wd_122 : (Jvm.Cond.classLink "RopeShelf" (46 : Nat) "RopeShelf$Weaver") ∈ tb := tb_in 122 (by decide +kernel) rfl
theorem wd_123 : (Jvm.Cond.instantiable "RopeShelf$Weaver" (5 : Nat)) ∈ tb := tb_in 123 (by decide +kernel) rfl
theorem wn_124 : (Jvm.Cond.methodLinkNest "RopeShelf" (48 : Nat) ({ cls := "RopeShelf$Weaver", name := "<init>", desc := "()V" } : Jvm.MethodName) "RopeShelf") ∈ lw_tbl := List.mem_of_getElem? (i := 124) (by decide +kernel)
theorem wd_125 : (Jvm.Cond.instanceMethod ({ cls := "RopeShelf$Weaver", name := "<init>", desc := "()V" } : Jvm.MethodName)) ∈ tb := tb_in 125 (by decide +kernel) rfl
theorem wd_126 : (Jvm.Cond.code ({ cls := "RopeShelf$Weaver", name := "<init>", desc := "()V" } : Jvm.MethodName) prog_7_method_1_code (1 : Nat) (Option.none : Option Jvm.ClassFile.FieldType)) ∈ tb := tb_in 126 (by decide +kernel) rfl
theorem wd_127 : (Jvm.Cond.methodLink "RopeShelf$Weaver" (3 : Nat) ({ cls := "java/lang/Object", name := "<init>", desc := "()V" } : Jvm.MethodName)) ∈ tb := tb_in 127 (by decide +kernel) rfl
theorem wd_128 : (Jvm.Cond.classLink "RopeShelf$Weaver" (15 : Nat) "RopeShelf$Pieces") ∈ tb := tb_in 128 (by decide +kernel) rfl
theorem wn_129 : (Jvm.Cond.methodLinkNest "RopeShelf$Weaver" (17 : Nat) ({ cls := "RopeShelf$Pieces", name := "<init>", desc := "()V" } : Jvm.MethodName) "RopeShelf") ∈ lw_tbl := List.mem_of_getElem? (i := 129) (by decide +kernel)
theorem wd_130 : (Jvm.Cond.classLink "RopeShelf$Weaver" (22 : Nat) "RopeShelf$Text") ∈ tb := tb_in 130 (by decide +kernel) rfl
theorem wn_131 : (Jvm.Cond.methodLinkNest "RopeShelf$Weaver" (24 : Nat) ({ cls := "RopeShelf$Text", name := "<init>", desc := "()V" } : Jvm.MethodName) "RopeShelf") ∈ lw_tbl := List.mem_of_getElem? (i := 131) (by decide +kernel)
theorem wd_132 : (Jvm.Cond.fieldLink "RopeShelf$Weaver" (9 : Nat) "RopeShelf$Weaver" "rules" "[I") ∈ tb := tb_in 132 (by decide +kernel) rfl
theorem wd_133 : (Jvm.Cond.fieldLink "RopeShelf" (81 : Nat) "RopeShelf$Weaver" "rules" "[I") ∈ tb := tb_in 133 (by decide +kernel) rfl
theorem wd_134 : (Jvm.Cond.fieldLink "RopeShelf$Weaver" (18 : Nat) "RopeShelf$Weaver" "pieces" "LRopeShelf$Pieces;") ∈ tb := tb_in 134 (by decide +kernel) rfl
theorem wd_135 : (Jvm.Cond.fieldLink "RopeShelf$Weaver" (25 : Nat) "RopeShelf$Weaver" "text" "LRopeShelf$Text;") ∈ tb := tb_in 135 (by decide +kernel) rfl
theorem wd_136 : (Jvm.Cond.fieldLink "RopeShelf$Weaver" (29 : Nat) "RopeShelf$Weaver" "turn" "I") ∈ tb := tb_in 136 (by decide +kernel) rfl
theorem wd_137 : (Jvm.Cond.fieldLink "RopeShelf$Weaver" (33 : Nat) "RopeShelf$Weaver" "spare" "LRopeShelf$Cell;") ∈ tb := tb_in 137 (by decide +kernel) rfl
theorem wd_138 : (Jvm.Cond.laysFinal "RopeShelf$Weaver" "RopeShelf$Weaver" "rules" "[I") ∈ tb := tb_in 138 (by decide +kernel) rfl
theorem wd_139 : (Jvm.Cond.soleField "RopeShelf$Weaver" "rules") ∈ tb := tb_in 139 (by decide +kernel) rfl
theorem wd_140 : (Jvm.Cond.laysFinal "RopeShelf$Weaver" "RopeShelf$Weaver" "pieces" "LRopeShelf$Pieces;") ∈ tb := tb_in 140 (by decide +kernel) rfl
theorem wd_141 : (Jvm.Cond.soleField "RopeShelf$Weaver" "pieces") ∈ tb := tb_in 141 (by decide +kernel) rfl
theorem wd_142 : (Jvm.Cond.laysFinal "RopeShelf$Weaver" "RopeShelf$Weaver" "text" "LRopeShelf$Text;") ∈ tb := tb_in 142 (by decide +kernel) rfl
theorem wd_143 : (Jvm.Cond.soleField "RopeShelf$Weaver" "text") ∈ tb := tb_in 143 (by decide +kernel) rfl
theorem wd_144 : (Jvm.Cond.lays "RopeShelf$Weaver" "RopeShelf$Weaver" "turn" "I") ∈ tb := tb_in 144 (by decide +kernel) rfl
theorem wd_145 : (Jvm.Cond.soleField "RopeShelf$Weaver" "turn") ∈ tb := tb_in 145 (by decide +kernel) rfl
theorem wd_146 : (Jvm.Cond.lays "RopeShelf$Weaver" "RopeShelf$Weaver" "spare" "LRopeShelf$Cell;") ∈ tb := tb_in 146 (by decide +kernel) rfl
theorem wd_147 : (Jvm.Cond.soleField "RopeShelf$Weaver" "spare") ∈ tb := tb_in 147 (by decide +kernel) rfl
theorem wd_149 : (Jvm.Cond.classLink "RopeShelf" (53 : Nat) "RopeShelf$Walk") ∈ tb := tb_in 149 (by decide +kernel) rfl
theorem wd_150 : (Jvm.Cond.instantiable "RopeShelf$Walk" (3 : Nat)) ∈ tb := tb_in 150 (by decide +kernel) rfl
theorem wn_151 : (Jvm.Cond.methodLinkNest "RopeShelf" (55 : Nat) ({ cls := "RopeShelf$Walk", name := "<init>", desc := "()V" } : Jvm.MethodName) "RopeShelf") ∈ lw_tbl := List.mem_of_getElem? (i := 151) (by decide +kernel)
theorem wd_152 : (Jvm.Cond.instanceMethod ({ cls := "RopeShelf$Walk", name := "<init>", desc := "()V" } : Jvm.MethodName)) ∈ tb := tb_in 152 (by decide +kernel) rfl
theorem wd_153 : (Jvm.Cond.code ({ cls := "RopeShelf$Walk", name := "<init>", desc := "()V" } : Jvm.MethodName) prog_6_method_1_code (1 : Nat) (Option.none : Option Jvm.ClassFile.FieldType)) ∈ tb := tb_in 153 (by decide +kernel) rfl
theorem wd_154 : (Jvm.Cond.methodLink "RopeShelf$Walk" (3 : Nat) ({ cls := "java/lang/Object", name := "<init>", desc := "()V" } : Jvm.MethodName)) ∈ tb := tb_in 154 (by decide +kernel) rfl
theorem wd_155 : (Jvm.Cond.fieldLink "RopeShelf$Walk" (9 : Nat) "RopeShelf$Walk" "stamp" "I") ∈ tb := tb_in 155 (by decide +kernel) rfl
theorem wd_156 : (Jvm.Cond.fieldLink "RopeShelf$Walk" (27 : Nat) "RopeShelf$Walk" "cells" "I") ∈ tb := tb_in 156 (by decide +kernel) rfl
theorem wd_157 : (Jvm.Cond.fieldLink "RopeShelf" (148 : Nat) "RopeShelf$Walk" "cells" "I") ∈ tb := tb_in 157 (by decide +kernel) rfl
theorem wd_158 : (Jvm.Cond.fieldLink "RopeShelf$Walk" (30 : Nat) "RopeShelf$Walk" "room" "I") ∈ tb := tb_in 158 (by decide +kernel) rfl
theorem wd_159 : (Jvm.Cond.fieldLink "RopeShelf" (151 : Nat) "RopeShelf$Walk" "room" "I") ∈ tb := tb_in 159 (by decide +kernel) rfl
theorem wd_160 : (Jvm.Cond.lays "RopeShelf$Walk" "RopeShelf$Walk" "stamp" "I") ∈ tb := tb_in 160 (by decide +kernel) rfl
theorem wd_161 : (Jvm.Cond.soleField "RopeShelf$Walk" "stamp") ∈ tb := tb_in 161 (by decide +kernel) rfl
theorem wd_162 : (Jvm.Cond.lays "RopeShelf$Walk" "RopeShelf$Walk" "cells" "I") ∈ tb := tb_in 162 (by decide +kernel) rfl
theorem wd_163 : (Jvm.Cond.soleField "RopeShelf$Walk" "cells") ∈ tb := tb_in 163 (by decide +kernel) rfl
theorem wd_164 : (Jvm.Cond.lays "RopeShelf$Walk" "RopeShelf$Walk" "room" "I") ∈ tb := tb_in 164 (by decide +kernel) rfl
theorem wd_165 : (Jvm.Cond.soleField "RopeShelf$Walk" "room") ∈ tb := tb_in 165 (by decide +kernel) rfl
theorem wd_167 : (Jvm.Cond.methodLink "RopeShelf" (66 : Nat) ({ cls := "RopeShelf$Cell", name := "emptyLeaf", desc := "()LRopeShelf$Cell;" } : Jvm.MethodName)) ∈ tb := tb_in 167 (by decide +kernel) rfl
theorem wd_168 : (Jvm.Cond.static ({ cls := "RopeShelf$Cell", name := "emptyLeaf", desc := "()LRopeShelf$Cell;" } : Jvm.MethodName)) ∈ tb := tb_in 168 (by decide +kernel) rfl
theorem wd_169 : (Jvm.Cond.code ({ cls := "RopeShelf$Cell", name := "emptyLeaf", desc := "()LRopeShelf$Cell;" } : Jvm.MethodName) prog_2_method_2_code (1 : Nat) (Option.some (Jvm.ClassFile.FieldType.object "RopeShelf$Cell"))) ∈ tb := tb_in 169 (by decide +kernel) rfl
theorem wd_170 : (Jvm.Cond.classLink "RopeShelf$Cell" (9 : Nat) "RopeShelf$Cell") ∈ tb := tb_in 170 (by decide +kernel) rfl
theorem wd_171 : (Jvm.Cond.instantiable "RopeShelf$Cell" (9 : Nat)) ∈ tb := tb_in 171 (by decide +kernel) rfl
theorem wd_172 : (Jvm.Cond.methodLink "RopeShelf$Cell" (11 : Nat) ({ cls := "RopeShelf$Cell", name := "<init>", desc := "()V" } : Jvm.MethodName)) ∈ tb := tb_in 172 (by decide +kernel) rfl
theorem wd_173 : (Jvm.Cond.instanceMethod ({ cls := "RopeShelf$Cell", name := "<init>", desc := "()V" } : Jvm.MethodName)) ∈ tb := tb_in 173 (by decide +kernel) rfl
theorem wd_174 : (Jvm.Cond.code ({ cls := "RopeShelf$Cell", name := "<init>", desc := "()V" } : Jvm.MethodName) prog_2_method_1_code (1 : Nat) (Option.none : Option Jvm.ClassFile.FieldType)) ∈ tb := tb_in 174 (by decide +kernel) rfl
theorem wd_175 : (Jvm.Cond.methodLink "RopeShelf$Cell" (3 : Nat) ({ cls := "java/lang/Object", name := "<init>", desc := "()V" } : Jvm.MethodName)) ∈ tb := tb_in 175 (by decide +kernel) rfl
theorem wd_176 : (Jvm.Cond.fieldLink "RopeShelf$Cell" (12 : Nat) "RopeShelf$Cell" "kind" "I") ∈ tb := tb_in 176 (by decide +kernel) rfl
theorem wd_177 : (Jvm.Cond.fieldLink "RopeShelf$Pieces" (29 : Nat) "RopeShelf$Cell" "kind" "I") ∈ tb := tb_in 177 (by decide +kernel) rfl
theorem wd_178 : (Jvm.Cond.fieldLink "RopeShelf$Weaver" (82 : Nat) "RopeShelf$Cell" "kind" "I") ∈ tb := tb_in 178 (by decide +kernel) rfl
theorem wd_179 : (Jvm.Cond.fieldLink "RopeShelf$Text" (27 : Nat) "RopeShelf$Cell" "kind" "I") ∈ tb := tb_in 179 (by decide +kernel) rfl
theorem wd_180 : (Jvm.Cond.fieldLink "RopeShelf" (125 : Nat) "RopeShelf$Cell" "kind" "I") ∈ tb := tb_in 180 (by decide +kernel) rfl
theorem wd_181 : (Jvm.Cond.fieldLink "RopeShelf$Weaver" (37 : Nat) "RopeShelf$Cell" "many" "I") ∈ tb := tb_in 181 (by decide +kernel) rfl
theorem wd_182 : (Jvm.Cond.fieldLink "RopeShelf$Cell" (25 : Nat) "RopeShelf$Cell" "many" "I") ∈ tb := tb_in 182 (by decide +kernel) rfl
theorem wd_183 : (Jvm.Cond.fieldLink "RopeShelf" (109 : Nat) "RopeShelf$Cell" "many" "I") ∈ tb := tb_in 183 (by decide +kernel) rfl
theorem wd_184 : (Jvm.Cond.fieldLink "RopeShelf$Text" (45 : Nat) "RopeShelf$Cell" "many" "I") ∈ tb := tb_in 184 (by decide +kernel) rfl
theorem wd_185 : (Jvm.Cond.fieldLink "RopeShelf$Cell" (16 : Nat) "RopeShelf$Cell" "signs" "[I") ∈ tb := tb_in 185 (by decide +kernel) rfl
theorem wd_186 : (Jvm.Cond.fieldLink "RopeShelf$Pieces" (32 : Nat) "RopeShelf$Cell" "left" "LRopeShelf$Cell;") ∈ tb := tb_in 186 (by decide +kernel) rfl
theorem wd_187 : (Jvm.Cond.fieldLink "RopeShelf$Cell" (41 : Nat) "RopeShelf$Cell" "left" "LRopeShelf$Cell;") ∈ tb := tb_in 187 (by decide +kernel) rfl
theorem wd_188 : (Jvm.Cond.fieldLink "RopeShelf$Weaver" (79 : Nat) "RopeShelf$Cell" "left" "LRopeShelf$Cell;") ∈ tb := tb_in 188 (by decide +kernel) rfl
theorem wd_189 : (Jvm.Cond.fieldLink "RopeShelf$Walk" (40 : Nat) "RopeShelf$Cell" "left" "LRopeShelf$Cell;") ∈ tb := tb_in 189 (by decide +kernel) rfl
theorem wd_190 : (Jvm.Cond.fieldLink "RopeShelf$Text" (32 : Nat) "RopeShelf$Cell" "left" "LRopeShelf$Cell;") ∈ tb := tb_in 190 (by decide +kernel) rfl
theorem wd_191 : (Jvm.Cond.fieldLink "RopeShelf$Pieces" (36 : Nat) "RopeShelf$Cell" "right" "LRopeShelf$Cell;") ∈ tb := tb_in 191 (by decide +kernel) rfl
theorem wd_192 : (Jvm.Cond.fieldLink "RopeShelf$Cell" (44 : Nat) "RopeShelf$Cell" "right" "LRopeShelf$Cell;") ∈ tb := tb_in 192 (by decide +kernel) rfl
theorem wd_193 : (Jvm.Cond.fieldLink "RopeShelf$Weaver" (85 : Nat) "RopeShelf$Cell" "right" "LRopeShelf$Cell;") ∈ tb := tb_in 193 (by decide +kernel) rfl
theorem wd_194 : (Jvm.Cond.fieldLink "RopeShelf$Walk" (44 : Nat) "RopeShelf$Cell" "right" "LRopeShelf$Cell;") ∈ tb := tb_in 194 (by decide +kernel) rfl
theorem wd_195 : (Jvm.Cond.fieldLink "RopeShelf$Text" (36 : Nat) "RopeShelf$Cell" "right" "LRopeShelf$Cell;") ∈ tb := tb_in 195 (by decide +kernel) rfl
theorem wd_196 : (Jvm.Cond.fieldLink "RopeShelf$Cell" (30 : Nat) "RopeShelf$Cell" "base" "LRopeShelf$Cell;") ∈ tb := tb_in 196 (by decide +kernel) rfl
theorem wd_197 : (Jvm.Cond.fieldLink "RopeShelf$Walk" (47 : Nat) "RopeShelf$Cell" "base" "LRopeShelf$Cell;") ∈ tb := tb_in 197 (by decide +kernel) rfl
theorem wd_198 : (Jvm.Cond.fieldLink "RopeShelf$Text" (39 : Nat) "RopeShelf$Cell" "base" "LRopeShelf$Cell;") ∈ tb := tb_in 198 (by decide +kernel) rfl
theorem wd_199 : (Jvm.Cond.fieldLink "RopeShelf$Weaver" (99 : Nat) "RopeShelf$Cell" "base" "LRopeShelf$Cell;") ∈ tb := tb_in 199 (by decide +kernel) rfl
theorem wd_200 : (Jvm.Cond.fieldLink "RopeShelf" (168 : Nat) "RopeShelf$Cell" "base" "LRopeShelf$Cell;") ∈ tb := tb_in 200 (by decide +kernel) rfl
theorem wd_201 : (Jvm.Cond.fieldLink "RopeShelf$Cell" (34 : Nat) "RopeShelf$Cell" "from" "I") ∈ tb := tb_in 201 (by decide +kernel) rfl
theorem wd_202 : (Jvm.Cond.fieldLink "RopeShelf$Text" (42 : Nat) "RopeShelf$Cell" "from" "I") ∈ tb := tb_in 202 (by decide +kernel) rfl
theorem wd_203 : (Jvm.Cond.fieldLink "RopeShelf$Weaver" (102 : Nat) "RopeShelf$Cell" "from" "I") ∈ tb := tb_in 203 (by decide +kernel) rfl
theorem wd_204 : (Jvm.Cond.fieldLink "RopeShelf" (165 : Nat) "RopeShelf$Cell" "from" "I") ∈ tb := tb_in 204 (by decide +kernel) rfl
theorem wd_205 : (Jvm.Cond.fieldLink "RopeShelf$Weaver" (88 : Nat) "RopeShelf$Cell" "madeIn" "I") ∈ tb := tb_in 205 (by decide +kernel) rfl
theorem wd_206 : (Jvm.Cond.fieldLink "RopeShelf$Walk" (22 : Nat) "RopeShelf$Cell" "mark" "I") ∈ tb := tb_in 206 (by decide +kernel) rfl
theorem wd_207 : (Jvm.Cond.lays "RopeShelf$Cell" "RopeShelf$Cell" "kind" "I") ∈ tb := tb_in 207 (by decide +kernel) rfl
theorem wd_208 : (Jvm.Cond.soleField "RopeShelf$Cell" "kind") ∈ tb := tb_in 208 (by decide +kernel) rfl
theorem wd_209 : (Jvm.Cond.lays "RopeShelf$Cell" "RopeShelf$Cell" "many" "I") ∈ tb := tb_in 209 (by decide +kernel) rfl
theorem wd_210 : (Jvm.Cond.soleField "RopeShelf$Cell" "many") ∈ tb := tb_in 210 (by decide +kernel) rfl
theorem wd_211 : (Jvm.Cond.lays "RopeShelf$Cell" "RopeShelf$Cell" "signs" "[I") ∈ tb := tb_in 211 (by decide +kernel) rfl
theorem wd_212 : (Jvm.Cond.soleField "RopeShelf$Cell" "signs") ∈ tb := tb_in 212 (by decide +kernel) rfl
theorem wd_213 : (Jvm.Cond.lays "RopeShelf$Cell" "RopeShelf$Cell" "left" "LRopeShelf$Cell;") ∈ tb := tb_in 213 (by decide +kernel) rfl
theorem wd_214 : (Jvm.Cond.soleField "RopeShelf$Cell" "left") ∈ tb := tb_in 214 (by decide +kernel) rfl
theorem wd_215 : (Jvm.Cond.lays "RopeShelf$Cell" "RopeShelf$Cell" "right" "LRopeShelf$Cell;") ∈ tb := tb_in 215 (by decide +kernel) rfl
theorem wd_216 : (Jvm.Cond.soleField "RopeShelf$Cell" "right") ∈ tb := tb_in 216 (by decide +kernel) rfl
theorem wd_217 : (Jvm.Cond.lays "RopeShelf$Cell" "RopeShelf$Cell" "base" "LRopeShelf$Cell;") ∈ tb := tb_in 217 (by decide +kernel) rfl
theorem wd_218 : (Jvm.Cond.soleField "RopeShelf$Cell" "base") ∈ tb := tb_in 218 (by decide +kernel) rfl
theorem wd_219 : (Jvm.Cond.lays "RopeShelf$Cell" "RopeShelf$Cell" "from" "I") ∈ tb := tb_in 219 (by decide +kernel) rfl
theorem wd_220 : (Jvm.Cond.soleField "RopeShelf$Cell" "from") ∈ tb := tb_in 220 (by decide +kernel) rfl
theorem wd_221 : (Jvm.Cond.lays "RopeShelf$Cell" "RopeShelf$Cell" "madeIn" "I") ∈ tb := tb_in 221 (by decide +kernel) rfl
theorem wd_222 : (Jvm.Cond.soleField "RopeShelf$Cell" "madeIn") ∈ tb := tb_in 222 (by decide +kernel) rfl
theorem wd_223 : (Jvm.Cond.lays "RopeShelf$Cell" "RopeShelf$Cell" "mark" "I") ∈ tb := tb_in 223 (by decide +kernel) rfl
theorem wd_224 : (Jvm.Cond.soleField "RopeShelf$Cell" "mark") ∈ tb := tb_in 224 (by decide +kernel) rfl
theorem wd_226 : (Jvm.Cond.fieldLink "RopeShelf" (11 : Nat) "RopeShelf" "slots" "[LRopeShelf$Cell;") ∈ tb := tb_in 226 (by decide +kernel) rfl
theorem wd_227 : (Jvm.Cond.fieldLink "RopeShelf" (15 : Nat) "RopeShelf" "firstImage" "[LRopeShelf$Cell;") ∈ tb := tb_in 227 (by decide +kernel) rfl
theorem wd_228 : (Jvm.Cond.fieldLink "RopeShelf" (18 : Nat) "RopeShelf" "secondImage" "[LRopeShelf$Cell;") ∈ tb := tb_in 228 (by decide +kernel) rfl
theorem wd_229 : (Jvm.Cond.fieldLink "RopeShelf" (21 : Nat) "RopeShelf" "imagesKept" "I") ∈ tb := tb_in 229 (by decide +kernel) rfl
theorem wd_230 : (Jvm.Cond.fieldLink "RopeShelf" (28 : Nat) "RopeShelf" "draft" "LRopeShelf$Text;") ∈ tb := tb_in 230 (by decide +kernel) rfl
theorem wd_231 : (Jvm.Cond.fieldLink "RopeShelf" (35 : Nat) "RopeShelf" "table" "LRopeShelf$Table;") ∈ tb := tb_in 231 (by decide +kernel) rfl
theorem wd_232 : (Jvm.Cond.fieldLink "RopeShelf" (42 : Nat) "RopeShelf" "pieces" "LRopeShelf$Pieces;") ∈ tb := tb_in 232 (by decide +kernel) rfl
theorem wd_233 : (Jvm.Cond.fieldLink "RopeShelf" (49 : Nat) "RopeShelf" "weaver" "LRopeShelf$Weaver;") ∈ tb := tb_in 233 (by decide +kernel) rfl
theorem wd_234 : (Jvm.Cond.fieldLink "RopeShelf" (56 : Nat) "RopeShelf" "walk" "LRopeShelf$Walk;") ∈ tb := tb_in 234 (by decide +kernel) rfl
theorem wd_235 : (Jvm.Cond.fieldLink "RopeShelf" (60 : Nat) "RopeShelf" "firstText" "LRopeShelf$Text;") ∈ tb := tb_in 235 (by decide +kernel) rfl
theorem wd_236 : (Jvm.Cond.fieldLink "RopeShelf" (63 : Nat) "RopeShelf" "secondText" "LRopeShelf$Text;") ∈ tb := tb_in 236 (by decide +kernel) rfl
theorem wd_237 : (Jvm.Cond.laysFinal "RopeShelf" "RopeShelf" "slots" "[LRopeShelf$Cell;") ∈ tb := tb_in 237 (by decide +kernel) rfl
theorem wd_238 : (Jvm.Cond.soleField "RopeShelf" "slots") ∈ tb := tb_in 238 (by decide +kernel) rfl
theorem wd_239 : (Jvm.Cond.laysFinal "RopeShelf" "RopeShelf" "firstImage" "[LRopeShelf$Cell;") ∈ tb := tb_in 239 (by decide +kernel) rfl
theorem wd_240 : (Jvm.Cond.soleField "RopeShelf" "firstImage") ∈ tb := tb_in 240 (by decide +kernel) rfl
theorem wd_241 : (Jvm.Cond.laysFinal "RopeShelf" "RopeShelf" "secondImage" "[LRopeShelf$Cell;") ∈ tb := tb_in 241 (by decide +kernel) rfl
theorem wd_242 : (Jvm.Cond.soleField "RopeShelf" "secondImage") ∈ tb := tb_in 242 (by decide +kernel) rfl
theorem wd_243 : (Jvm.Cond.lays "RopeShelf" "RopeShelf" "imagesKept" "I") ∈ tb := tb_in 243 (by decide +kernel) rfl
theorem wd_244 : (Jvm.Cond.soleField "RopeShelf" "imagesKept") ∈ tb := tb_in 244 (by decide +kernel) rfl
theorem wd_245 : (Jvm.Cond.laysFinal "RopeShelf" "RopeShelf" "draft" "LRopeShelf$Text;") ∈ tb := tb_in 245 (by decide +kernel) rfl
theorem wd_246 : (Jvm.Cond.soleField "RopeShelf" "draft") ∈ tb := tb_in 246 (by decide +kernel) rfl
theorem wd_247 : (Jvm.Cond.laysFinal "RopeShelf" "RopeShelf" "table" "LRopeShelf$Table;") ∈ tb := tb_in 247 (by decide +kernel) rfl
theorem wd_248 : (Jvm.Cond.soleField "RopeShelf" "table") ∈ tb := tb_in 248 (by decide +kernel) rfl
theorem wd_249 : (Jvm.Cond.laysFinal "RopeShelf" "RopeShelf" "pieces" "LRopeShelf$Pieces;") ∈ tb := tb_in 249 (by decide +kernel) rfl
theorem wd_250 : (Jvm.Cond.soleField "RopeShelf" "pieces") ∈ tb := tb_in 250 (by decide +kernel) rfl
theorem wd_251 : (Jvm.Cond.laysFinal "RopeShelf" "RopeShelf" "weaver" "LRopeShelf$Weaver;") ∈ tb := tb_in 251 (by decide +kernel) rfl
theorem wd_252 : (Jvm.Cond.soleField "RopeShelf" "weaver") ∈ tb := tb_in 252 (by decide +kernel) rfl
theorem wd_253 : (Jvm.Cond.laysFinal "RopeShelf" "RopeShelf" "walk" "LRopeShelf$Walk;") ∈ tb := tb_in 253 (by decide +kernel) rfl
theorem wd_254 : (Jvm.Cond.soleField "RopeShelf" "walk") ∈ tb := tb_in 254 (by decide +kernel) rfl
theorem wd_255 : (Jvm.Cond.laysFinal "RopeShelf" "RopeShelf" "firstText" "LRopeShelf$Text;") ∈ tb := tb_in 255 (by decide +kernel) rfl
theorem wd_256 : (Jvm.Cond.soleField "RopeShelf" "firstText") ∈ tb := tb_in 256 (by decide +kernel) rfl
theorem wd_257 : (Jvm.Cond.laysFinal "RopeShelf" "RopeShelf" "secondText" "LRopeShelf$Text;") ∈ tb := tb_in 257 (by decide +kernel) rfl
theorem wd_258 : (Jvm.Cond.soleField "RopeShelf" "secondText") ∈ tb := tb_in 258 (by decide +kernel) rfl
theorem wd_260 : (Jvm.Cond.methodLink "RopeShelfLaw" (13 : Nat) ({ cls := "RopeShelf", name := "rule", desc := "(II)I" } : Jvm.MethodName)) ∈ tb := tb_in 260 (by decide +kernel) rfl
theorem wd_261 : (Jvm.Cond.instanceMethod ({ cls := "RopeShelf", name := "rule", desc := "(II)I" } : Jvm.MethodName)) ∈ tb := tb_in 261 (by decide +kernel) rfl
theorem wd_262 : (Jvm.Cond.selects "RopeShelf" ({ cls := "RopeShelf", name := "rule", desc := "(II)I" } : Jvm.MethodName) ({ cls := "RopeShelf", name := "rule", desc := "(II)I" } : Jvm.MethodName)) ∈ tb := tb_in 262 (by decide +kernel) rfl
theorem wd_263 : (Jvm.Cond.code ({ cls := "RopeShelf", name := "rule", desc := "(II)I" } : Jvm.MethodName) prog_1_method_2_code (4 : Nat) (Option.some Jvm.ClassFile.FieldType.int)) ∈ tb := tb_in 263 (by decide +kernel) rfl
theorem wd_264 : (Jvm.Cond.methodLink "RopeShelf" (70 : Nat) ({ cls := "RopeShelf", name := "isRule", desc := "(I)Z" } : Jvm.MethodName)) ∈ tb := tb_in 264 (by decide +kernel) rfl
theorem wd_265 : (Jvm.Cond.static ({ cls := "RopeShelf", name := "isRule", desc := "(I)Z" } : Jvm.MethodName)) ∈ tb := tb_in 265 (by decide +kernel) rfl
theorem wd_266 : (Jvm.Cond.code ({ cls := "RopeShelf", name := "isRule", desc := "(I)Z" } : Jvm.MethodName) prog_1_method_21_code (1 : Nat) (Option.some Jvm.ClassFile.FieldType.boolean)) ∈ tb := tb_in 266 (by decide +kernel) rfl
theorem wd_267 : (Jvm.Cond.fieldLink "RopeShelf" (74 : Nat) "RopeShelf" "LEAST_RULES" "[I") ∈ tb := tb_in 267 (by decide +kernel) rfl
theorem wn_268 : (Jvm.Cond.laysStatic "RopeShelf" "LEAST_RULES" "[I") ∈ lw_tbl := List.mem_of_getElem? (i := 268) (by decide +kernel)
theorem wd_269 : (Jvm.Cond.fieldLink "RopeShelf" (78 : Nat) "RopeShelf" "GREATEST_RULES" "[I") ∈ tb := tb_in 269 (by decide +kernel) rfl
theorem wn_270 : (Jvm.Cond.laysStatic "RopeShelf" "GREATEST_RULES" "[I") ∈ lw_tbl := List.mem_of_getElem? (i := 270) (by decide +kernel)
theorem wd_271 : (Jvm.Cond.methodLink "RopeShelfLaw" (18 : Nat) ({ cls := "RopeShelf", name := "say", desc := "(I)I" } : Jvm.MethodName)) ∈ tb := tb_in 271 (by decide +kernel) rfl
theorem wd_272 : (Jvm.Cond.instanceMethod ({ cls := "RopeShelf", name := "say", desc := "(I)I" } : Jvm.MethodName)) ∈ tb := tb_in 272 (by decide +kernel) rfl
theorem wd_273 : (Jvm.Cond.selects "RopeShelf" ({ cls := "RopeShelf", name := "say", desc := "(I)I" } : Jvm.MethodName) ({ cls := "RopeShelf", name := "say", desc := "(I)I" } : Jvm.MethodName)) ∈ tb := tb_in 273 (by decide +kernel) rfl
theorem wd_274 : (Jvm.Cond.code ({ cls := "RopeShelf", name := "say", desc := "(I)I" } : Jvm.MethodName) prog_1_method_3_code (2 : Nat) (Option.some Jvm.ClassFile.FieldType.int)) ∈ tb := tb_in 274 (by decide +kernel) rfl
theorem wd_275 : (Jvm.Cond.methodLink "RopeShelf" (87 : Nat) ({ cls := "RopeShelf$Text", name := "addSign", desc := "(I)V" } : Jvm.MethodName)) ∈ tb := tb_in 275 (by decide +kernel) rfl
theorem wd_276 : (Jvm.Cond.instanceMethod ({ cls := "RopeShelf$Text", name := "addSign", desc := "(I)V" } : Jvm.MethodName)) ∈ tb := tb_in 276 (by decide +kernel) rfl
theorem wd_277 : (Jvm.Cond.selects "RopeShelf$Text" ({ cls := "RopeShelf$Text", name := "addSign", desc := "(I)V" } : Jvm.MethodName) ({ cls := "RopeShelf$Text", name := "addSign", desc := "(I)V" } : Jvm.MethodName)) ∈ tb := tb_in 277 (by decide +kernel) rfl
theorem wd_278 : (Jvm.Cond.code ({ cls := "RopeShelf$Text", name := "addSign", desc := "(I)V" } : Jvm.MethodName) prog_5_method_3_code (2 : Nat) (Option.none : Option Jvm.ClassFile.FieldType)) ∈ tb := tb_in 278 (by decide +kernel) rfl
theorem wd_279 : (Jvm.Cond.methodLink "RopeShelfLaw" (23 : Nat) ({ cls := "RopeShelf", name := "put", desc := "(I)I" } : Jvm.MethodName)) ∈ tb := tb_in 279 (by decide +kernel) rfl
theorem wd_280 : (Jvm.Cond.instanceMethod ({ cls := "RopeShelf", name := "put", desc := "(I)I" } : Jvm.MethodName)) ∈ tb := tb_in 280 (by decide +kernel) rfl
theorem wd_281 : (Jvm.Cond.selects "RopeShelf" ({ cls := "RopeShelf", name := "put", desc := "(I)I" } : Jvm.MethodName) ({ cls := "RopeShelf", name := "put", desc := "(I)I" } : Jvm.MethodName)) ∈ tb := tb_in 281 (by decide +kernel) rfl
theorem wd_282 : (Jvm.Cond.code ({ cls := "RopeShelf", name := "put", desc := "(I)I" } : Jvm.MethodName) prog_1_method_4_code (3 : Nat) (Option.some Jvm.ClassFile.FieldType.int)) ∈ tb := tb_in 282 (by decide +kernel) rfl
theorem wd_283 : (Jvm.Cond.methodLink "RopeShelf" (91 : Nat) ({ cls := "RopeShelf", name := "isSlot", desc := "(I)Z" } : Jvm.MethodName)) ∈ tb := tb_in 283 (by decide +kernel) rfl
theorem wd_284 : (Jvm.Cond.static ({ cls := "RopeShelf", name := "isSlot", desc := "(I)Z" } : Jvm.MethodName)) ∈ tb := tb_in 284 (by decide +kernel) rfl
theorem wd_285 : (Jvm.Cond.code ({ cls := "RopeShelf", name := "isSlot", desc := "(I)Z" } : Jvm.MethodName) prog_1_method_20_code (1 : Nat) (Option.some Jvm.ClassFile.FieldType.boolean)) ∈ tb := tb_in 285 (by decide +kernel) rfl
theorem wd_286 : (Jvm.Cond.methodLink "RopeShelf" (94 : Nat) ({ cls := "RopeShelf$Cell", name := "leaf", desc := "(LRopeShelf$Text;)LRopeShelf$Cell;" } : Jvm.MethodName)) ∈ tb := tb_in 286 (by decide +kernel) rfl
theorem wd_287 : (Jvm.Cond.static ({ cls := "RopeShelf$Cell", name := "leaf", desc := "(LRopeShelf$Text;)LRopeShelf$Cell;" } : Jvm.MethodName)) ∈ tb := tb_in 287 (by decide +kernel) rfl
theorem wd_288 : (Jvm.Cond.code ({ cls := "RopeShelf$Cell", name := "leaf", desc := "(LRopeShelf$Text;)LRopeShelf$Cell;" } : Jvm.MethodName) prog_2_method_3_code (2 : Nat) (Option.some (Jvm.ClassFile.FieldType.object "RopeShelf$Cell"))) ∈ tb := tb_in 288 (by decide +kernel) rfl
theorem wd_289 : (Jvm.Cond.methodLink "RopeShelf$Cell" (26 : Nat) ({ cls := "RopeShelf$Cell", name := "becomeLeaf", desc := "(LRopeShelf$Text;)V" } : Jvm.MethodName)) ∈ tb := tb_in 289 (by decide +kernel) rfl
theorem wd_290 : (Jvm.Cond.instanceMethod ({ cls := "RopeShelf$Cell", name := "becomeLeaf", desc := "(LRopeShelf$Text;)V" } : Jvm.MethodName)) ∈ tb := tb_in 290 (by decide +kernel) rfl
theorem wd_291 : (Jvm.Cond.selects "RopeShelf$Cell" ({ cls := "RopeShelf$Cell", name := "becomeLeaf", desc := "(LRopeShelf$Text;)V" } : Jvm.MethodName) ({ cls := "RopeShelf$Cell", name := "becomeLeaf", desc := "(LRopeShelf$Text;)V" } : Jvm.MethodName)) ∈ tb := tb_in 291 (by decide +kernel) rfl
theorem wd_292 : (Jvm.Cond.code ({ cls := "RopeShelf$Cell", name := "becomeLeaf", desc := "(LRopeShelf$Text;)V" } : Jvm.MethodName) prog_2_method_5_code (2 : Nat) (Option.none : Option Jvm.ClassFile.FieldType)) ∈ tb := tb_in 292 (by decide +kernel) rfl
theorem wd_293 : (Jvm.Cond.methodLink "RopeShelf$Cell" (37 : Nat) ({ cls := "RopeShelf$Text", name := "toRow", desc := "()[I" } : Jvm.MethodName)) ∈ tb := tb_in 293 (by decide +kernel) rfl
theorem wd_294 : (Jvm.Cond.instanceMethod ({ cls := "RopeShelf$Text", name := "toRow", desc := "()[I" } : Jvm.MethodName)) ∈ tb := tb_in 294 (by decide +kernel) rfl
theorem wd_295 : (Jvm.Cond.selects "RopeShelf$Text" ({ cls := "RopeShelf$Text", name := "toRow", desc := "()[I" } : Jvm.MethodName) ({ cls := "RopeShelf$Text", name := "toRow", desc := "()[I" } : Jvm.MethodName)) ∈ tb := tb_in 295 (by decide +kernel) rfl
theorem wd_296 : (Jvm.Cond.code ({ cls := "RopeShelf$Text", name := "toRow", desc := "()[I" } : Jvm.MethodName) prog_5_method_9_code (3 : Nat) (Option.some (Jvm.ClassFile.FieldType.array Jvm.ClassFile.FieldType.int))) ∈ tb := tb_in 296 (by decide +kernel) rfl
theorem wd_297 : (Jvm.Cond.methodLink "RopeShelf$Text" (54 : Nat) ({ cls := "RopeShelf$Text", name := "signAt", desc := "(I)I" } : Jvm.MethodName)) ∈ tb := tb_in 297 (by decide +kernel) rfl
theorem wd_298 : (Jvm.Cond.instanceMethod ({ cls := "RopeShelf$Text", name := "signAt", desc := "(I)I" } : Jvm.MethodName)) ∈ tb := tb_in 298 (by decide +kernel) rfl
theorem wd_299 : (Jvm.Cond.selects "RopeShelf$Text" ({ cls := "RopeShelf$Text", name := "signAt", desc := "(I)I" } : Jvm.MethodName) ({ cls := "RopeShelf$Text", name := "signAt", desc := "(I)I" } : Jvm.MethodName)) ∈ tb := tb_in 299 (by decide +kernel) rfl
theorem wd_300 : (Jvm.Cond.code ({ cls := "RopeShelf$Text", name := "signAt", desc := "(I)I" } : Jvm.MethodName) prog_5_method_10_code (2 : Nat) (Option.some Jvm.ClassFile.FieldType.int)) ∈ tb := tb_in 300 (by decide +kernel) rfl
theorem wd_301 : (Jvm.Cond.methodLink "RopeShelf" (98 : Nat) ({ cls := "RopeShelf$Text", name := "clear", desc := "()V" } : Jvm.MethodName)) ∈ tb := tb_in 301 (by decide +kernel) rfl
theorem wd_302 : (Jvm.Cond.instanceMethod ({ cls := "RopeShelf$Text", name := "clear", desc := "()V" } : Jvm.MethodName)) ∈ tb := tb_in 302 (by decide +kernel) rfl
theorem wd_303 : (Jvm.Cond.selects "RopeShelf$Text" ({ cls := "RopeShelf$Text", name := "clear", desc := "()V" } : Jvm.MethodName) ({ cls := "RopeShelf$Text", name := "clear", desc := "()V" } : Jvm.MethodName)) ∈ tb := tb_in 303 (by decide +kernel) rfl
theorem wd_304 : (Jvm.Cond.code ({ cls := "RopeShelf$Text", name := "clear", desc := "()V" } : Jvm.MethodName) prog_5_method_2_code (1 : Nat) (Option.none : Option Jvm.ClassFile.FieldType)) ∈ tb := tb_in 304 (by decide +kernel) rfl
theorem wd_305 : (Jvm.Cond.methodLink "RopeShelf" (101 : Nat) ({ cls := "RopeShelf", name := "hold", desc := "(ILRopeShelf$Cell;)I" } : Jvm.MethodName)) ∈ tb := tb_in 305 (by decide +kernel) rfl
theorem wd_307 : (Jvm.Cond.instanceMethod ({ cls := "RopeShelf", name := "hold", desc := "(ILRopeShelf$Cell;)I" } : Jvm.MethodName)) ∈ tb := tb_in 307 (by decide +kernel) rfl
theorem wd_308 : (Jvm.Cond.code ({ cls := "RopeShelf", name := "hold", desc := "(ILRopeShelf$Cell;)I" } : Jvm.MethodName) prog_1_method_25_code (3 : Nat) (Option.some Jvm.ClassFile.FieldType.int)) ∈ tb := tb_in 308 (by decide +kernel) rfl
theorem wd_309 : (Jvm.Cond.methodLink "RopeShelfLaw" (27 : Nat) ({ cls := "RopeShelf", name := "copy", desc := "(II)I" } : Jvm.MethodName)) ∈ tb := tb_in 309 (by decide +kernel) rfl
theorem wd_310 : (Jvm.Cond.instanceMethod ({ cls := "RopeShelf", name := "copy", desc := "(II)I" } : Jvm.MethodName)) ∈ tb := tb_in 310 (by decide +kernel) rfl
theorem wd_311 : (Jvm.Cond.selects "RopeShelf" ({ cls := "RopeShelf", name := "copy", desc := "(II)I" } : Jvm.MethodName) ({ cls := "RopeShelf", name := "copy", desc := "(II)I" } : Jvm.MethodName)) ∈ tb := tb_in 311 (by decide +kernel) rfl
theorem wd_312 : (Jvm.Cond.code ({ cls := "RopeShelf", name := "copy", desc := "(II)I" } : Jvm.MethodName) prog_1_method_5_code (4 : Nat) (Option.some Jvm.ClassFile.FieldType.int)) ∈ tb := tb_in 312 (by decide +kernel) rfl
theorem wd_313 : (Jvm.Cond.methodLink "RopeShelf" (105 : Nat) ({ cls := "RopeShelf", name := "cellOf", desc := "(I)LRopeShelf$Cell;" } : Jvm.MethodName)) ∈ tb := tb_in 313 (by decide +kernel) rfl
theorem wd_315 : (Jvm.Cond.instanceMethod ({ cls := "RopeShelf", name := "cellOf", desc := "(I)LRopeShelf$Cell;" } : Jvm.MethodName)) ∈ tb := tb_in 315 (by decide +kernel) rfl
theorem wd_316 : (Jvm.Cond.code ({ cls := "RopeShelf", name := "cellOf", desc := "(I)LRopeShelf$Cell;" } : Jvm.MethodName) prog_1_method_24_code (2 : Nat) (Option.some (Jvm.ClassFile.FieldType.object "RopeShelf$Cell"))) ∈ tb := tb_in 316 (by decide +kernel) rfl
theorem wd_317 : (Jvm.Cond.methodLink "RopeShelfLaw" (31 : Nat) ({ cls := "RopeShelf", name := "join", desc := "(III)I" } : Jvm.MethodName)) ∈ tb := tb_in 317 (by decide +kernel) rfl
theorem wd_318 : (Jvm.Cond.instanceMethod ({ cls := "RopeShelf", name := "join", desc := "(III)I" } : Jvm.MethodName)) ∈ tb := tb_in 318 (by decide +kernel) rfl
theorem wd_319 : (Jvm.Cond.selects "RopeShelf" ({ cls := "RopeShelf", name := "join", desc := "(III)I" } : Jvm.MethodName) ({ cls := "RopeShelf", name := "join", desc := "(III)I" } : Jvm.MethodName)) ∈ tb := tb_in 319 (by decide +kernel) rfl
theorem wd_320 : (Jvm.Cond.code ({ cls := "RopeShelf", name := "join", desc := "(III)I" } : Jvm.MethodName) prog_1_method_6_code (6 : Nat) (Option.some Jvm.ClassFile.FieldType.int)) ∈ tb := tb_in 320 (by decide +kernel) rfl
theorem wd_321 : (Jvm.Cond.methodLink "RopeShelf" (110 : Nat) ({ cls := "RopeShelf$Weaver", name := "beginTurn", desc := "()V" } : Jvm.MethodName)) ∈ tb := tb_in 321 (by decide +kernel) rfl
theorem wd_322 : (Jvm.Cond.instanceMethod ({ cls := "RopeShelf$Weaver", name := "beginTurn", desc := "()V" } : Jvm.MethodName)) ∈ tb := tb_in 322 (by decide +kernel) rfl
theorem wd_323 : (Jvm.Cond.selects "RopeShelf$Weaver" ({ cls := "RopeShelf$Weaver", name := "beginTurn", desc := "()V" } : Jvm.MethodName) ({ cls := "RopeShelf$Weaver", name := "beginTurn", desc := "()V" } : Jvm.MethodName)) ∈ tb := tb_in 323 (by decide +kernel) rfl
theorem wd_324 : (Jvm.Cond.code ({ cls := "RopeShelf$Weaver", name := "beginTurn", desc := "()V" } : Jvm.MethodName) prog_7_method_2_code (1 : Nat) (Option.none : Option Jvm.ClassFile.FieldType)) ∈ tb := tb_in 324 (by decide +kernel) rfl
theorem wn_325 : (Jvm.Cond.methodLinkNest "RopeShelf" (113 : Nat) ({ cls := "RopeShelf$Weaver", name := "joined", desc := "(LRopeShelf$Cell;LRopeShelf$Cell;)LRopeShelf$Cell;" } : Jvm.MethodName) "RopeShelf") ∈ lw_tbl := List.mem_of_getElem? (i := 325) (by decide +kernel)
theorem wd_327 : (Jvm.Cond.instanceMethod ({ cls := "RopeShelf$Weaver", name := "joined", desc := "(LRopeShelf$Cell;LRopeShelf$Cell;)LRopeShelf$Cell;" } : Jvm.MethodName)) ∈ tb := tb_in 327 (by decide +kernel) rfl
theorem wd_328 : (Jvm.Cond.code ({ cls := "RopeShelf$Weaver", name := "joined", desc := "(LRopeShelf$Cell;LRopeShelf$Cell;)LRopeShelf$Cell;" } : Jvm.MethodName) prog_7_method_3_code (3 : Nat) (Option.some (Jvm.ClassFile.FieldType.object "RopeShelf$Cell"))) ∈ tb := tb_in 328 (by decide +kernel) rfl
theorem wd_329 : (Jvm.Cond.methodLink "RopeShelf$Weaver" (42 : Nat) ({ cls := "RopeShelf$Text", name := "readBoth", desc := "(LRopeShelf$Cell;LRopeShelf$Cell;)V" } : Jvm.MethodName)) ∈ tb := tb_in 329 (by decide +kernel) rfl
theorem wd_330 : (Jvm.Cond.instanceMethod ({ cls := "RopeShelf$Text", name := "readBoth", desc := "(LRopeShelf$Cell;LRopeShelf$Cell;)V" } : Jvm.MethodName)) ∈ tb := tb_in 330 (by decide +kernel) rfl
theorem wd_331 : (Jvm.Cond.selects "RopeShelf$Text" ({ cls := "RopeShelf$Text", name := "readBoth", desc := "(LRopeShelf$Cell;LRopeShelf$Cell;)V" } : Jvm.MethodName) ({ cls := "RopeShelf$Text", name := "readBoth", desc := "(LRopeShelf$Cell;LRopeShelf$Cell;)V" } : Jvm.MethodName)) ∈ tb := tb_in 331 (by decide +kernel) rfl
theorem wd_332 : (Jvm.Cond.code ({ cls := "RopeShelf$Text", name := "readBoth", desc := "(LRopeShelf$Cell;LRopeShelf$Cell;)V" } : Jvm.MethodName) prog_5_method_5_code (3 : Nat) (Option.none : Option Jvm.ClassFile.FieldType)) ∈ tb := tb_in 332 (by decide +kernel) rfl
theorem wd_333 : (Jvm.Cond.methodLink "RopeShelf$Text" (19 : Nat) ({ cls := "RopeShelf$Text", name := "addCell", desc := "(LRopeShelf$Cell;I)V" } : Jvm.MethodName)) ∈ tb := tb_in 333 (by decide +kernel) rfl
theorem wd_335 : (Jvm.Cond.instanceMethod ({ cls := "RopeShelf$Text", name := "addCell", desc := "(LRopeShelf$Cell;I)V" } : Jvm.MethodName)) ∈ tb := tb_in 335 (by decide +kernel) rfl
theorem wd_336 : (Jvm.Cond.code ({ cls := "RopeShelf$Text", name := "addCell", desc := "(LRopeShelf$Cell;I)V" } : Jvm.MethodName) prog_5_method_7_code (3 : Nat) (Option.none : Option Jvm.ClassFile.FieldType)) ∈ tb := tb_in 336 (by decide +kernel) rfl
theorem wd_337 : (Jvm.Cond.methodLink "RopeShelf$Text" (23 : Nat) ({ cls := "RopeShelf$Text", name := "addSigns", desc := "(LRopeShelf$Cell;II)V" } : Jvm.MethodName)) ∈ tb := tb_in 337 (by decide +kernel) rfl
theorem wd_339 : (Jvm.Cond.instanceMethod ({ cls := "RopeShelf$Text", name := "addSigns", desc := "(LRopeShelf$Cell;II)V" } : Jvm.MethodName)) ∈ tb := tb_in 339 (by decide +kernel) rfl
theorem wd_340 : (Jvm.Cond.code ({ cls := "RopeShelf$Text", name := "addSigns", desc := "(LRopeShelf$Cell;II)V" } : Jvm.MethodName) prog_5_method_8_code (5 : Nat) (Option.none : Option Jvm.ClassFile.FieldType)) ∈ tb := tb_in 340 (by decide +kernel) rfl
theorem wd_341 : (Jvm.Cond.methodLink "RopeShelf$Text" (46 : Nat) ({ cls := "RopeShelf$Cell", name := "signAt", desc := "(I)I" } : Jvm.MethodName)) ∈ tb := tb_in 341 (by decide +kernel) rfl
theorem wd_342 : (Jvm.Cond.instanceMethod ({ cls := "RopeShelf$Cell", name := "signAt", desc := "(I)I" } : Jvm.MethodName)) ∈ tb := tb_in 342 (by decide +kernel) rfl
theorem wd_343 : (Jvm.Cond.selects "RopeShelf$Cell" ({ cls := "RopeShelf$Cell", name := "signAt", desc := "(I)I" } : Jvm.MethodName) ({ cls := "RopeShelf$Cell", name := "signAt", desc := "(I)I" } : Jvm.MethodName)) ∈ tb := tb_in 343 (by decide +kernel) rfl
theorem wd_344 : (Jvm.Cond.code ({ cls := "RopeShelf$Cell", name := "signAt", desc := "(I)I" } : Jvm.MethodName) prog_2_method_6_code (2 : Nat) (Option.some Jvm.ClassFile.FieldType.int)) ∈ tb := tb_in 344 (by decide +kernel) rfl
theorem wd_345 : (Jvm.Cond.methodLink "RopeShelf$Text" (50 : Nat) ({ cls := "RopeShelf$Text", name := "addSign", desc := "(I)V" } : Jvm.MethodName)) ∈ tb := tb_in 345 (by decide +kernel) rfl
theorem wd_346 : (Jvm.Cond.methodLink "RopeShelf$Weaver" (46 : Nat) ({ cls := "RopeShelf$Cell", name := "leaf", desc := "(LRopeShelf$Text;)LRopeShelf$Cell;" } : Jvm.MethodName)) ∈ tb := tb_in 346 (by decide +kernel) rfl
theorem wd_347 : (Jvm.Cond.methodLink "RopeShelf$Weaver" (50 : Nat) ({ cls := "RopeShelf$Cell", name := "depth", desc := "()I" } : Jvm.MethodName)) ∈ tb := tb_in 347 (by decide +kernel) rfl
theorem wd_348 : (Jvm.Cond.instanceMethod ({ cls := "RopeShelf$Cell", name := "depth", desc := "()I" } : Jvm.MethodName)) ∈ tb := tb_in 348 (by decide +kernel) rfl
theorem wd_349 : (Jvm.Cond.selects "RopeShelf$Cell" ({ cls := "RopeShelf$Cell", name := "depth", desc := "()I" } : Jvm.MethodName) ({ cls := "RopeShelf$Cell", name := "depth", desc := "()I" } : Jvm.MethodName)) ∈ tb := tb_in 349 (by decide +kernel) rfl
theorem wd_350 : (Jvm.Cond.code ({ cls := "RopeShelf$Cell", name := "depth", desc := "()I" } : Jvm.MethodName) prog_2_method_7_code (1 : Nat) (Option.some Jvm.ClassFile.FieldType.int)) ∈ tb := tb_in 350 (by decide +kernel) rfl
theorem wd_351 : (Jvm.Cond.methodLink "RopeShelf$Cell" (47 : Nat) ({ cls := "RopeShelf$Cell", name := "depthOf", desc := "(LRopeShelf$Cell;I)I" } : Jvm.MethodName)) ∈ tb := tb_in 351 (by decide +kernel) rfl
theorem wd_352 : (Jvm.Cond.static ({ cls := "RopeShelf$Cell", name := "depthOf", desc := "(LRopeShelf$Cell;I)I" } : Jvm.MethodName)) ∈ tb := tb_in 352 (by decide +kernel) rfl
theorem wd_353 : (Jvm.Cond.code ({ cls := "RopeShelf$Cell", name := "depthOf", desc := "(LRopeShelf$Cell;I)I" } : Jvm.MethodName) prog_2_method_8_code (2 : Nat) (Option.some Jvm.ClassFile.FieldType.int)) ∈ tb := tb_in 353 (by decide +kernel) rfl
theorem wd_354 : (Jvm.Cond.methodLink "RopeShelf$Cell" (51 : Nat) ({ cls := "java/lang/Math", name := "max", desc := "(II)I" } : Jvm.MethodName)) ∈ tb := tb_in 354 (by decide +kernel) rfl
theorem wd_355 : (Jvm.Cond.static ({ cls := "java/lang/Math", name := "max", desc := "(II)I" } : Jvm.MethodName)) ∈ tb := tb_in 355 (by decide +kernel) rfl
theorem wd_356 : (Jvm.Cond.code ({ cls := "java/lang/Math", name := "max", desc := "(II)I" } : Jvm.MethodName) prog_10_method_65_code (2 : Nat) (Option.some Jvm.ClassFile.FieldType.int)) ∈ tb := tb_in 356 (by decide +kernel) rfl
theorem wd_357 : (Jvm.Cond.methodLink "RopeShelf$Weaver" (54 : Nat) ({ cls := "java/lang/Math", name := "max", desc := "(II)I" } : Jvm.MethodName)) ∈ tb := tb_in 357 (by decide +kernel) rfl
theorem wd_358 : (Jvm.Cond.methodLink "RopeShelf$Weaver" (60 : Nat) ({ cls := "RopeShelf$Weaver", name := "newJoin", desc := "(LRopeShelf$Cell;LRopeShelf$Cell;)LRopeShelf$Cell;" } : Jvm.MethodName)) ∈ tb := tb_in 358 (by decide +kernel) rfl
theorem wd_360 : (Jvm.Cond.instanceMethod ({ cls := "RopeShelf$Weaver", name := "newJoin", desc := "(LRopeShelf$Cell;LRopeShelf$Cell;)LRopeShelf$Cell;" } : Jvm.MethodName)) ∈ tb := tb_in 360 (by decide +kernel) rfl
theorem wd_361 : (Jvm.Cond.code ({ cls := "RopeShelf$Weaver", name := "newJoin", desc := "(LRopeShelf$Cell;LRopeShelf$Cell;)LRopeShelf$Cell;" } : Jvm.MethodName) prog_7_method_5_code (4 : Nat) (Option.some (Jvm.ClassFile.FieldType.object "RopeShelf$Cell"))) ∈ tb := tb_in 361 (by decide +kernel) rfl
theorem wd_362 : (Jvm.Cond.classLink "RopeShelf$Weaver" (38 : Nat) "RopeShelf$Cell") ∈ tb := tb_in 362 (by decide +kernel) rfl
theorem wn_363 : (Jvm.Cond.methodLinkNest "RopeShelf$Weaver" (78 : Nat) ({ cls := "RopeShelf$Cell", name := "<init>", desc := "()V" } : Jvm.MethodName) "RopeShelf") ∈ lw_tbl := List.mem_of_getElem? (i := 363) (by decide +kernel)
theorem wd_364 : (Jvm.Cond.methodLink "RopeShelf$Weaver" (64 : Nat) ({ cls := "RopeShelf$Pieces", name := "readBoth", desc := "(LRopeShelf$Cell;LRopeShelf$Cell;)V" } : Jvm.MethodName)) ∈ tb := tb_in 364 (by decide +kernel) rfl
theorem wd_365 : (Jvm.Cond.instanceMethod ({ cls := "RopeShelf$Pieces", name := "readBoth", desc := "(LRopeShelf$Cell;LRopeShelf$Cell;)V" } : Jvm.MethodName)) ∈ tb := tb_in 365 (by decide +kernel) rfl
theorem wd_366 : (Jvm.Cond.selects "RopeShelf$Pieces" ({ cls := "RopeShelf$Pieces", name := "readBoth", desc := "(LRopeShelf$Cell;LRopeShelf$Cell;)V" } : Jvm.MethodName) ({ cls := "RopeShelf$Pieces", name := "readBoth", desc := "(LRopeShelf$Cell;LRopeShelf$Cell;)V" } : Jvm.MethodName)) ∈ tb := tb_in 366 (by decide +kernel) rfl
theorem wd_367 : (Jvm.Cond.code ({ cls := "RopeShelf$Pieces", name := "readBoth", desc := "(LRopeShelf$Cell;LRopeShelf$Cell;)V" } : Jvm.MethodName) prog_3_method_3_code (3 : Nat) (Option.none : Option Jvm.ClassFile.FieldType)) ∈ tb := tb_in 367 (by decide +kernel) rfl
theorem wd_368 : (Jvm.Cond.methodLink "RopeShelf$Pieces" (25 : Nat) ({ cls := "RopeShelf$Pieces", name := "read", desc := "(LRopeShelf$Cell;)V" } : Jvm.MethodName)) ∈ tb := tb_in 368 (by decide +kernel) rfl
theorem wd_369 : (Jvm.Cond.instanceMethod ({ cls := "RopeShelf$Pieces", name := "read", desc := "(LRopeShelf$Cell;)V" } : Jvm.MethodName)) ∈ tb := tb_in 369 (by decide +kernel) rfl
theorem wd_370 : (Jvm.Cond.selects "RopeShelf$Pieces" ({ cls := "RopeShelf$Pieces", name := "read", desc := "(LRopeShelf$Cell;)V" } : Jvm.MethodName) ({ cls := "RopeShelf$Pieces", name := "read", desc := "(LRopeShelf$Cell;)V" } : Jvm.MethodName)) ∈ tb := tb_in 370 (by decide +kernel) rfl
theorem wd_371 : (Jvm.Cond.code ({ cls := "RopeShelf$Pieces", name := "read", desc := "(LRopeShelf$Cell;)V" } : Jvm.MethodName) prog_3_method_2_code (2 : Nat) (Option.none : Option Jvm.ClassFile.FieldType)) ∈ tb := tb_in 371 (by decide +kernel) rfl
theorem wd_372 : (Jvm.Cond.methodLink "RopeShelf$Pieces" (21 : Nat) ({ cls := "RopeShelf$Pieces", name := "addPieces", desc := "(LRopeShelf$Cell;I)V" } : Jvm.MethodName)) ∈ tb := tb_in 372 (by decide +kernel) rfl
theorem wd_374 : (Jvm.Cond.instanceMethod ({ cls := "RopeShelf$Pieces", name := "addPieces", desc := "(LRopeShelf$Cell;I)V" } : Jvm.MethodName)) ∈ tb := tb_in 374 (by decide +kernel) rfl
theorem wd_375 : (Jvm.Cond.code ({ cls := "RopeShelf$Pieces", name := "addPieces", desc := "(LRopeShelf$Cell;I)V" } : Jvm.MethodName) prog_3_method_4_code (3 : Nat) (Option.none : Option Jvm.ClassFile.FieldType)) ∈ tb := tb_in 375 (by decide +kernel) rfl
theorem wd_376 : (Jvm.Cond.methodLink "RopeShelf$Weaver" (65 : Nat) ({ cls := "RopeShelf$Weaver", name := "release", desc := "(LRopeShelf$Cell;I)V" } : Jvm.MethodName)) ∈ tb := tb_in 376 (by decide +kernel) rfl
theorem wd_378 : (Jvm.Cond.instanceMethod ({ cls := "RopeShelf$Weaver", name := "release", desc := "(LRopeShelf$Cell;I)V" } : Jvm.MethodName)) ∈ tb := tb_in 378 (by decide +kernel) rfl
theorem wd_379 : (Jvm.Cond.code ({ cls := "RopeShelf$Weaver", name := "release", desc := "(LRopeShelf$Cell;I)V" } : Jvm.MethodName) prog_7_method_6_code (3 : Nat) (Option.none : Option Jvm.ClassFile.FieldType)) ∈ tb := tb_in 379 (by decide +kernel) rfl
theorem wd_380 : (Jvm.Cond.methodLink "RopeShelf$Weaver" (70 : Nat) ({ cls := "RopeShelf$Weaver", name := "balanced", desc := "(III)LRopeShelf$Cell;" } : Jvm.MethodName)) ∈ tb := tb_in 380 (by decide +kernel) rfl
theorem wd_382 : (Jvm.Cond.instanceMethod ({ cls := "RopeShelf$Weaver", name := "balanced", desc := "(III)LRopeShelf$Cell;" } : Jvm.MethodName)) ∈ tb := tb_in 382 (by decide +kernel) rfl
theorem wd_383 : (Jvm.Cond.code ({ cls := "RopeShelf$Weaver", name := "balanced", desc := "(III)LRopeShelf$Cell;" } : Jvm.MethodName) prog_7_method_4_code (5 : Nat) (Option.some (Jvm.ClassFile.FieldType.object "RopeShelf$Cell"))) ∈ tb := tb_in 383 (by decide +kernel) rfl
theorem wd_384 : (Jvm.Cond.methodLink "RopeShelf$Weaver" (74 : Nat) ({ cls := "RopeShelf$Pieces", name := "at", desc := "(I)LRopeShelf$Cell;" } : Jvm.MethodName)) ∈ tb := tb_in 384 (by decide +kernel) rfl
theorem wd_385 : (Jvm.Cond.instanceMethod ({ cls := "RopeShelf$Pieces", name := "at", desc := "(I)LRopeShelf$Cell;" } : Jvm.MethodName)) ∈ tb := tb_in 385 (by decide +kernel) rfl
theorem wd_386 : (Jvm.Cond.selects "RopeShelf$Pieces" ({ cls := "RopeShelf$Pieces", name := "at", desc := "(I)LRopeShelf$Cell;" } : Jvm.MethodName) ({ cls := "RopeShelf$Pieces", name := "at", desc := "(I)LRopeShelf$Cell;" } : Jvm.MethodName)) ∈ tb := tb_in 386 (by decide +kernel) rfl
theorem wd_387 : (Jvm.Cond.code ({ cls := "RopeShelf$Pieces", name := "at", desc := "(I)LRopeShelf$Cell;" } : Jvm.MethodName) prog_3_method_5_code (2 : Nat) (Option.some (Jvm.ClassFile.FieldType.object "RopeShelf$Cell"))) ∈ tb := tb_in 387 (by decide +kernel) rfl
theorem wd_388 : (Jvm.Cond.methodLink "RopeShelfLaw" (36 : Nat) ({ cls := "RopeShelf", name := "cut", desc := "(IIII)I" } : Jvm.MethodName)) ∈ tb := tb_in 388 (by decide +kernel) rfl
theorem wd_389 : (Jvm.Cond.instanceMethod ({ cls := "RopeShelf", name := "cut", desc := "(IIII)I" } : Jvm.MethodName)) ∈ tb := tb_in 389 (by decide +kernel) rfl
theorem wd_390 : (Jvm.Cond.selects "RopeShelf" ({ cls := "RopeShelf", name := "cut", desc := "(IIII)I" } : Jvm.MethodName) ({ cls := "RopeShelf", name := "cut", desc := "(IIII)I" } : Jvm.MethodName)) ∈ tb := tb_in 390 (by decide +kernel) rfl
theorem wd_391 : (Jvm.Cond.code ({ cls := "RopeShelf", name := "cut", desc := "(IIII)I" } : Jvm.MethodName) prog_1_method_7_code (6 : Nat) (Option.some Jvm.ClassFile.FieldType.int)) ∈ tb := tb_in 391 (by decide +kernel) rfl
theorem wn_392 : (Jvm.Cond.methodLinkNest "RopeShelf" (117 : Nat) ({ cls := "RopeShelf$Weaver", name := "cutOut", desc := "(LRopeShelf$Cell;III)LRopeShelf$Cell;" } : Jvm.MethodName) "RopeShelf") ∈ lw_tbl := List.mem_of_getElem? (i := 392) (by decide +kernel)
theorem wd_394 : (Jvm.Cond.instanceMethod ({ cls := "RopeShelf$Weaver", name := "cutOut", desc := "(LRopeShelf$Cell;III)LRopeShelf$Cell;" } : Jvm.MethodName)) ∈ tb := tb_in 394 (by decide +kernel) rfl
theorem wd_395 : (Jvm.Cond.code ({ cls := "RopeShelf$Weaver", name := "cutOut", desc := "(LRopeShelf$Cell;III)LRopeShelf$Cell;" } : Jvm.MethodName) prog_7_method_7_code (5 : Nat) (Option.some (Jvm.ClassFile.FieldType.object "RopeShelf$Cell"))) ∈ tb := tb_in 395 (by decide +kernel) rfl
theorem wd_396 : (Jvm.Cond.methodLink "RopeShelf$Weaver" (91 : Nat) ({ cls := "RopeShelf$Cell", name := "emptyLeaf", desc := "()LRopeShelf$Cell;" } : Jvm.MethodName)) ∈ tb := tb_in 396 (by decide +kernel) rfl
theorem wd_397 : (Jvm.Cond.methodLink "RopeShelf$Weaver" (95 : Nat) ({ cls := "RopeShelf$Weaver", name := "cutOutOfJoin", desc := "(LRopeShelf$Cell;III)LRopeShelf$Cell;" } : Jvm.MethodName)) ∈ tb := tb_in 397 (by decide +kernel) rfl
theorem wd_399 : (Jvm.Cond.instanceMethod ({ cls := "RopeShelf$Weaver", name := "cutOutOfJoin", desc := "(LRopeShelf$Cell;III)LRopeShelf$Cell;" } : Jvm.MethodName)) ∈ tb := tb_in 399 (by decide +kernel) rfl
theorem wd_400 : (Jvm.Cond.code ({ cls := "RopeShelf$Weaver", name := "cutOutOfJoin", desc := "(LRopeShelf$Cell;III)LRopeShelf$Cell;" } : Jvm.MethodName) prog_7_method_9_code (8 : Nat) (Option.some (Jvm.ClassFile.FieldType.object "RopeShelf$Cell"))) ∈ tb := tb_in 400 (by decide +kernel) rfl
theorem wd_401 : (Jvm.Cond.methodLink "RopeShelf$Weaver" (116 : Nat) ({ cls := "RopeShelf$Weaver", name := "cutOut", desc := "(LRopeShelf$Cell;III)LRopeShelf$Cell;" } : Jvm.MethodName)) ∈ tb := tb_in 401 (by decide +kernel) rfl
theorem wd_402 : (Jvm.Cond.methodLink "RopeShelf$Weaver" (119 : Nat) ({ cls := "RopeShelf$Weaver", name := "joined", desc := "(LRopeShelf$Cell;LRopeShelf$Cell;)LRopeShelf$Cell;" } : Jvm.MethodName)) ∈ tb := tb_in 402 (by decide +kernel) rfl
theorem wd_403 : (Jvm.Cond.methodLink "RopeShelf$Weaver" (105 : Nat) ({ cls := "RopeShelf$Weaver", name := "cutOutOfLeaf", desc := "(LRopeShelf$Cell;II)LRopeShelf$Cell;" } : Jvm.MethodName)) ∈ tb := tb_in 403 (by decide +kernel) rfl
theorem wd_405 : (Jvm.Cond.instanceMethod ({ cls := "RopeShelf$Weaver", name := "cutOutOfLeaf", desc := "(LRopeShelf$Cell;II)LRopeShelf$Cell;" } : Jvm.MethodName)) ∈ tb := tb_in 405 (by decide +kernel) rfl
theorem wd_406 : (Jvm.Cond.code ({ cls := "RopeShelf$Weaver", name := "cutOutOfLeaf", desc := "(LRopeShelf$Cell;II)LRopeShelf$Cell;" } : Jvm.MethodName) prog_7_method_8_code (4 : Nat) (Option.some (Jvm.ClassFile.FieldType.object "RopeShelf$Cell"))) ∈ tb := tb_in 406 (by decide +kernel) rfl
theorem wd_407 : (Jvm.Cond.methodLink "RopeShelf$Weaver" (109 : Nat) ({ cls := "RopeShelf$Cell", name := "slice", desc := "(LRopeShelf$Cell;II)LRopeShelf$Cell;" } : Jvm.MethodName)) ∈ tb := tb_in 407 (by decide +kernel) rfl
theorem wd_408 : (Jvm.Cond.static ({ cls := "RopeShelf$Cell", name := "slice", desc := "(LRopeShelf$Cell;II)LRopeShelf$Cell;" } : Jvm.MethodName)) ∈ tb := tb_in 408 (by decide +kernel) rfl
theorem wd_409 : (Jvm.Cond.code ({ cls := "RopeShelf$Cell", name := "slice", desc := "(LRopeShelf$Cell;II)LRopeShelf$Cell;" } : Jvm.MethodName) prog_2_method_4_code (4 : Nat) (Option.some (Jvm.ClassFile.FieldType.object "RopeShelf$Cell"))) ∈ tb := tb_in 409 (by decide +kernel) rfl
theorem wd_410 : (Jvm.Cond.methodLink "RopeShelf$Weaver" (112 : Nat) ({ cls := "RopeShelf$Text", name := "readPart", desc := "(LRopeShelf$Cell;II)V" } : Jvm.MethodName)) ∈ tb := tb_in 410 (by decide +kernel) rfl
theorem wd_411 : (Jvm.Cond.instanceMethod ({ cls := "RopeShelf$Text", name := "readPart", desc := "(LRopeShelf$Cell;II)V" } : Jvm.MethodName)) ∈ tb := tb_in 411 (by decide +kernel) rfl
theorem wd_412 : (Jvm.Cond.selects "RopeShelf$Text" ({ cls := "RopeShelf$Text", name := "readPart", desc := "(LRopeShelf$Cell;II)V" } : Jvm.MethodName) ({ cls := "RopeShelf$Text", name := "readPart", desc := "(LRopeShelf$Cell;II)V" } : Jvm.MethodName)) ∈ tb := tb_in 412 (by decide +kernel) rfl
theorem wd_413 : (Jvm.Cond.code ({ cls := "RopeShelf$Text", name := "readPart", desc := "(LRopeShelf$Cell;II)V" } : Jvm.MethodName) prog_5_method_6_code (4 : Nat) (Option.none : Option Jvm.ClassFile.FieldType)) ∈ tb := tb_in 413 (by decide +kernel) rfl
theorem wd_414 : (Jvm.Cond.methodLink "RopeShelfLaw" (41 : Nat) ({ cls := "RopeShelf", name := "flat", desc := "(I)I" } : Jvm.MethodName)) ∈ tb := tb_in 414 (by decide +kernel) rfl
theorem wd_415 : (Jvm.Cond.instanceMethod ({ cls := "RopeShelf", name := "flat", desc := "(I)I" } : Jvm.MethodName)) ∈ tb := tb_in 415 (by decide +kernel) rfl
theorem wd_416 : (Jvm.Cond.selects "RopeShelf" ({ cls := "RopeShelf", name := "flat", desc := "(I)I" } : Jvm.MethodName) ({ cls := "RopeShelf", name := "flat", desc := "(I)I" } : Jvm.MethodName)) ∈ tb := tb_in 416 (by decide +kernel) rfl
theorem wd_417 : (Jvm.Cond.code ({ cls := "RopeShelf", name := "flat", desc := "(I)I" } : Jvm.MethodName) prog_1_method_8_code (3 : Nat) (Option.some Jvm.ClassFile.FieldType.int)) ∈ tb := tb_in 417 (by decide +kernel) rfl
theorem wd_418 : (Jvm.Cond.methodLink "RopeShelf" (121 : Nat) ({ cls := "RopeShelf$Pieces", name := "read", desc := "(LRopeShelf$Cell;)V" } : Jvm.MethodName)) ∈ tb := tb_in 418 (by decide +kernel) rfl
theorem wd_419 : (Jvm.Cond.methodLink "RopeShelf" (128 : Nat) ({ cls := "RopeShelf$Text", name := "read", desc := "(LRopeShelf$Cell;)V" } : Jvm.MethodName)) ∈ tb := tb_in 419 (by decide +kernel) rfl
theorem wd_420 : (Jvm.Cond.instanceMethod ({ cls := "RopeShelf$Text", name := "read", desc := "(LRopeShelf$Cell;)V" } : Jvm.MethodName)) ∈ tb := tb_in 420 (by decide +kernel) rfl
theorem wd_421 : (Jvm.Cond.selects "RopeShelf$Text" ({ cls := "RopeShelf$Text", name := "read", desc := "(LRopeShelf$Cell;)V" } : Jvm.MethodName) ({ cls := "RopeShelf$Text", name := "read", desc := "(LRopeShelf$Cell;)V" } : Jvm.MethodName)) ∈ tb := tb_in 421 (by decide +kernel) rfl
theorem wd_422 : (Jvm.Cond.code ({ cls := "RopeShelf$Text", name := "read", desc := "(LRopeShelf$Cell;)V" } : Jvm.MethodName) prog_5_method_4_code (2 : Nat) (Option.none : Option Jvm.ClassFile.FieldType)) ∈ tb := tb_in 422 (by decide +kernel) rfl
theorem wd_423 : (Jvm.Cond.methodLink "RopeShelf" (129 : Nat) ({ cls := "RopeShelf$Cell", name := "becomeLeaf", desc := "(LRopeShelf$Text;)V" } : Jvm.MethodName)) ∈ tb := tb_in 423 (by decide +kernel) rfl
theorem wd_424 : (Jvm.Cond.methodLink "RopeShelfLaw" (45 : Nat) ({ cls := "RopeShelf", name := "sign", desc := "(II)I" } : Jvm.MethodName)) ∈ tb := tb_in 424 (by decide +kernel) rfl
theorem wd_425 : (Jvm.Cond.instanceMethod ({ cls := "RopeShelf", name := "sign", desc := "(II)I" } : Jvm.MethodName)) ∈ tb := tb_in 425 (by decide +kernel) rfl
theorem wd_426 : (Jvm.Cond.selects "RopeShelf" ({ cls := "RopeShelf", name := "sign", desc := "(II)I" } : Jvm.MethodName) ({ cls := "RopeShelf", name := "sign", desc := "(II)I" } : Jvm.MethodName)) ∈ tb := tb_in 426 (by decide +kernel) rfl
theorem wd_427 : (Jvm.Cond.code ({ cls := "RopeShelf", name := "sign", desc := "(II)I" } : Jvm.MethodName) prog_1_method_9_code (4 : Nat) (Option.some Jvm.ClassFile.FieldType.int)) ∈ tb := tb_in 427 (by decide +kernel) rfl
theorem wd_428 : (Jvm.Cond.methodLink "RopeShelf" (134 : Nat) ({ cls := "RopeShelf$Text", name := "signAt", desc := "(I)I" } : Jvm.MethodName)) ∈ tb := tb_in 428 (by decide +kernel) rfl
theorem wd_429 : (Jvm.Cond.methodLink "RopeShelfLaw" (49 : Nat) ({ cls := "RopeShelf", name := "hash", desc := "(I)I" } : Jvm.MethodName)) ∈ tb := tb_in 429 (by decide +kernel) rfl
theorem wd_430 : (Jvm.Cond.instanceMethod ({ cls := "RopeShelf", name := "hash", desc := "(I)I" } : Jvm.MethodName)) ∈ tb := tb_in 430 (by decide +kernel) rfl
theorem wd_431 : (Jvm.Cond.selects "RopeShelf" ({ cls := "RopeShelf", name := "hash", desc := "(I)I" } : Jvm.MethodName) ({ cls := "RopeShelf", name := "hash", desc := "(I)I" } : Jvm.MethodName)) ∈ tb := tb_in 431 (by decide +kernel) rfl
theorem wd_432 : (Jvm.Cond.code ({ cls := "RopeShelf", name := "hash", desc := "(I)I" } : Jvm.MethodName) prog_1_method_10_code (3 : Nat) (Option.some Jvm.ClassFile.FieldType.int)) ∈ tb := tb_in 432 (by decide +kernel) rfl
theorem wd_433 : (Jvm.Cond.methodLink "RopeShelf" (138 : Nat) ({ cls := "RopeShelf$Text", name := "hashed", desc := "()I" } : Jvm.MethodName)) ∈ tb := tb_in 433 (by decide +kernel) rfl
theorem wd_434 : (Jvm.Cond.instanceMethod ({ cls := "RopeShelf$Text", name := "hashed", desc := "()I" } : Jvm.MethodName)) ∈ tb := tb_in 434 (by decide +kernel) rfl
theorem wd_435 : (Jvm.Cond.selects "RopeShelf$Text" ({ cls := "RopeShelf$Text", name := "hashed", desc := "()I" } : Jvm.MethodName) ({ cls := "RopeShelf$Text", name := "hashed", desc := "()I" } : Jvm.MethodName)) ∈ tb := tb_in 435 (by decide +kernel) rfl
theorem wd_436 : (Jvm.Cond.code ({ cls := "RopeShelf$Text", name := "hashed", desc := "()I" } : Jvm.MethodName) prog_5_method_11_code (3 : Nat) (Option.some Jvm.ClassFile.FieldType.int)) ∈ tb := tb_in 436 (by decide +kernel) rfl
theorem wd_437 : (Jvm.Cond.methodLink "RopeShelfLaw" (53 : Nat) ({ cls := "RopeShelf", name := "told", desc := "(II)I" } : Jvm.MethodName)) ∈ tb := tb_in 437 (by decide +kernel) rfl
theorem wd_438 : (Jvm.Cond.instanceMethod ({ cls := "RopeShelf", name := "told", desc := "(II)I" } : Jvm.MethodName)) ∈ tb := tb_in 438 (by decide +kernel) rfl
theorem wd_439 : (Jvm.Cond.selects "RopeShelf" ({ cls := "RopeShelf", name := "told", desc := "(II)I" } : Jvm.MethodName) ({ cls := "RopeShelf", name := "told", desc := "(II)I" } : Jvm.MethodName)) ∈ tb := tb_in 439 (by decide +kernel) rfl
theorem wd_440 : (Jvm.Cond.code ({ cls := "RopeShelf", name := "told", desc := "(II)I" } : Jvm.MethodName) prog_1_method_11_code (4 : Nat) (Option.some Jvm.ClassFile.FieldType.int)) ∈ tb := tb_in 440 (by decide +kernel) rfl
theorem wd_441 : (Jvm.Cond.methodLink "RopeShelf" (142 : Nat) ({ cls := "RopeShelf$Cell", name := "depth", desc := "()I" } : Jvm.MethodName)) ∈ tb := tb_in 441 (by decide +kernel) rfl
theorem wd_442 : (Jvm.Cond.methodLink "RopeShelf" (145 : Nat) ({ cls := "RopeShelf$Walk", name := "overCell", desc := "(LRopeShelf$Cell;)V" } : Jvm.MethodName)) ∈ tb := tb_in 442 (by decide +kernel) rfl
theorem wd_443 : (Jvm.Cond.instanceMethod ({ cls := "RopeShelf$Walk", name := "overCell", desc := "(LRopeShelf$Cell;)V" } : Jvm.MethodName)) ∈ tb := tb_in 443 (by decide +kernel) rfl
theorem wd_444 : (Jvm.Cond.selects "RopeShelf$Walk" ({ cls := "RopeShelf$Walk", name := "overCell", desc := "(LRopeShelf$Cell;)V" } : Jvm.MethodName) ({ cls := "RopeShelf$Walk", name := "overCell", desc := "(LRopeShelf$Cell;)V" } : Jvm.MethodName)) ∈ tb := tb_in 444 (by decide +kernel) rfl
theorem wd_445 : (Jvm.Cond.code ({ cls := "RopeShelf$Walk", name := "overCell", desc := "(LRopeShelf$Cell;)V" } : Jvm.MethodName) prog_6_method_2_code (2 : Nat) (Option.none : Option Jvm.ClassFile.FieldType)) ∈ tb := tb_in 445 (by decide +kernel) rfl
theorem wd_446 : (Jvm.Cond.methodLink "RopeShelf$Walk" (15 : Nat) ({ cls := "RopeShelf$Walk", name := "begin", desc := "()V" } : Jvm.MethodName)) ∈ tb := tb_in 446 (by decide +kernel) rfl
theorem wd_448 : (Jvm.Cond.instanceMethod ({ cls := "RopeShelf$Walk", name := "begin", desc := "()V" } : Jvm.MethodName)) ∈ tb := tb_in 448 (by decide +kernel) rfl
theorem wd_449 : (Jvm.Cond.code ({ cls := "RopeShelf$Walk", name := "begin", desc := "()V" } : Jvm.MethodName) prog_6_method_5_code (1 : Nat) (Option.none : Option Jvm.ClassFile.FieldType)) ∈ tb := tb_in 449 (by decide +kernel) rfl
theorem wd_450 : (Jvm.Cond.methodLink "RopeShelf$Walk" (18 : Nat) ({ cls := "RopeShelf$Walk", name := "visit", desc := "(LRopeShelf$Cell;I)V" } : Jvm.MethodName)) ∈ tb := tb_in 450 (by decide +kernel) rfl
theorem wd_452 : (Jvm.Cond.instanceMethod ({ cls := "RopeShelf$Walk", name := "visit", desc := "(LRopeShelf$Cell;I)V" } : Jvm.MethodName)) ∈ tb := tb_in 452 (by decide +kernel) rfl
theorem wd_453 : (Jvm.Cond.code ({ cls := "RopeShelf$Walk", name := "visit", desc := "(LRopeShelf$Cell;I)V" } : Jvm.MethodName) prog_6_method_6_code (3 : Nat) (Option.none : Option Jvm.ClassFile.FieldType)) ∈ tb := tb_in 453 (by decide +kernel) rfl
theorem wd_454 : (Jvm.Cond.methodLink "RopeShelf$Walk" (33 : Nat) ({ cls := "RopeShelf$Walk", name := "cameBy", desc := "(LRopeShelf$Cell;)Z" } : Jvm.MethodName)) ∈ tb := tb_in 454 (by decide +kernel) rfl
theorem wd_455 : (Jvm.Cond.instanceMethod ({ cls := "RopeShelf$Walk", name := "cameBy", desc := "(LRopeShelf$Cell;)Z" } : Jvm.MethodName)) ∈ tb := tb_in 455 (by decide +kernel) rfl
theorem wd_456 : (Jvm.Cond.selects "RopeShelf$Walk" ({ cls := "RopeShelf$Walk", name := "cameBy", desc := "(LRopeShelf$Cell;)Z" } : Jvm.MethodName) ({ cls := "RopeShelf$Walk", name := "cameBy", desc := "(LRopeShelf$Cell;)Z" } : Jvm.MethodName)) ∈ tb := tb_in 456 (by decide +kernel) rfl
theorem wd_457 : (Jvm.Cond.code ({ cls := "RopeShelf$Walk", name := "cameBy", desc := "(LRopeShelf$Cell;)Z" } : Jvm.MethodName) prog_6_method_4_code (2 : Nat) (Option.some Jvm.ClassFile.FieldType.boolean)) ∈ tb := tb_in 457 (by decide +kernel) rfl
theorem wd_458 : (Jvm.Cond.methodLink "RopeShelf$Walk" (37 : Nat) ({ cls := "RopeShelf$Cell", name := "room", desc := "()I" } : Jvm.MethodName)) ∈ tb := tb_in 458 (by decide +kernel) rfl
theorem wd_459 : (Jvm.Cond.instanceMethod ({ cls := "RopeShelf$Cell", name := "room", desc := "()I" } : Jvm.MethodName)) ∈ tb := tb_in 459 (by decide +kernel) rfl
theorem wd_460 : (Jvm.Cond.selects "RopeShelf$Cell" ({ cls := "RopeShelf$Cell", name := "room", desc := "()I" } : Jvm.MethodName) ({ cls := "RopeShelf$Cell", name := "room", desc := "()I" } : Jvm.MethodName)) ∈ tb := tb_in 460 (by decide +kernel) rfl
theorem wd_461 : (Jvm.Cond.code ({ cls := "RopeShelf$Cell", name := "room", desc := "()I" } : Jvm.MethodName) prog_2_method_9_code (1 : Nat) (Option.some Jvm.ClassFile.FieldType.int)) ∈ tb := tb_in 461 (by decide +kernel) rfl
theorem wd_462 : (Jvm.Cond.methodLink "RopeShelf$Cell" (57 : Nat) ({ cls := "RopeShelf$Cell", name := "hasWideSign", desc := "()Z" } : Jvm.MethodName)) ∈ tb := tb_in 462 (by decide +kernel) rfl
theorem wd_464 : (Jvm.Cond.instanceMethod ({ cls := "RopeShelf$Cell", name := "hasWideSign", desc := "()Z" } : Jvm.MethodName)) ∈ tb := tb_in 464 (by decide +kernel) rfl
theorem wd_465 : (Jvm.Cond.code ({ cls := "RopeShelf$Cell", name := "hasWideSign", desc := "()Z" } : Jvm.MethodName) prog_2_method_10_code (2 : Nat) (Option.some Jvm.ClassFile.FieldType.boolean)) ∈ tb := tb_in 465 (by decide +kernel) rfl
theorem wd_466 : (Jvm.Cond.methodLink "RopeShelf$Cell" (61 : Nat) ({ cls := "RopeShelf$Cell", name := "signAt", desc := "(I)I" } : Jvm.MethodName)) ∈ tb := tb_in 466 (by decide +kernel) rfl
theorem wd_467 : (Jvm.Cond.methodLink "RopeShelf" (154 : Nat) ({ cls := "RopeShelf$Text", name := "isWide", desc := "()Z" } : Jvm.MethodName)) ∈ tb := tb_in 467 (by decide +kernel) rfl
theorem wd_468 : (Jvm.Cond.instanceMethod ({ cls := "RopeShelf$Text", name := "isWide", desc := "()Z" } : Jvm.MethodName)) ∈ tb := tb_in 468 (by decide +kernel) rfl
theorem wd_469 : (Jvm.Cond.selects "RopeShelf$Text" ({ cls := "RopeShelf$Text", name := "isWide", desc := "()Z" } : Jvm.MethodName) ({ cls := "RopeShelf$Text", name := "isWide", desc := "()Z" } : Jvm.MethodName)) ∈ tb := tb_in 469 (by decide +kernel) rfl
theorem wd_470 : (Jvm.Cond.code ({ cls := "RopeShelf$Text", name := "isWide", desc := "()Z" } : Jvm.MethodName) prog_5_method_12_code (2 : Nat) (Option.some Jvm.ClassFile.FieldType.boolean)) ∈ tb := tb_in 470 (by decide +kernel) rfl
theorem wd_471 : (Jvm.Cond.methodLink "RopeShelf" (158 : Nat) ({ cls := "RopeShelf", name := "asNumber", desc := "(Z)I" } : Jvm.MethodName)) ∈ tb := tb_in 471 (by decide +kernel) rfl
theorem wd_472 : (Jvm.Cond.static ({ cls := "RopeShelf", name := "asNumber", desc := "(Z)I" } : Jvm.MethodName)) ∈ tb := tb_in 472 (by decide +kernel) rfl
theorem wd_473 : (Jvm.Cond.code ({ cls := "RopeShelf", name := "asNumber", desc := "(Z)I" } : Jvm.MethodName) prog_1_method_23_code (1 : Nat) (Option.some Jvm.ClassFile.FieldType.int)) ∈ tb := tb_in 473 (by decide +kernel) rfl
theorem wd_474 : (Jvm.Cond.methodLink "RopeShelfLaw" (57 : Nat) ({ cls := "RopeShelf", name := "piece", desc := "(III)I" } : Jvm.MethodName)) ∈ tb := tb_in 474 (by decide +kernel) rfl
theorem wd_475 : (Jvm.Cond.instanceMethod ({ cls := "RopeShelf", name := "piece", desc := "(III)I" } : Jvm.MethodName)) ∈ tb := tb_in 475 (by decide +kernel) rfl
theorem wd_476 : (Jvm.Cond.selects "RopeShelf" ({ cls := "RopeShelf", name := "piece", desc := "(III)I" } : Jvm.MethodName) ({ cls := "RopeShelf", name := "piece", desc := "(III)I" } : Jvm.MethodName)) ∈ tb := tb_in 476 (by decide +kernel) rfl
theorem wd_477 : (Jvm.Cond.code ({ cls := "RopeShelf", name := "piece", desc := "(III)I" } : Jvm.MethodName) prog_1_method_12_code (6 : Nat) (Option.some Jvm.ClassFile.FieldType.int)) ∈ tb := tb_in 477 (by decide +kernel) rfl
theorem wd_478 : (Jvm.Cond.methodLink "RopeShelf" (162 : Nat) ({ cls := "RopeShelf$Pieces", name := "at", desc := "(I)LRopeShelf$Cell;" } : Jvm.MethodName)) ∈ tb := tb_in 478 (by decide +kernel) rfl
theorem wd_479 : (Jvm.Cond.methodLink "RopeShelf" (172 : Nat) ({ cls := "RopeShelf$Pieces", name := "firstPlaceOf", desc := "(LRopeShelf$Cell;)I" } : Jvm.MethodName)) ∈ tb := tb_in 479 (by decide +kernel) rfl
theorem wd_480 : (Jvm.Cond.instanceMethod ({ cls := "RopeShelf$Pieces", name := "firstPlaceOf", desc := "(LRopeShelf$Cell;)I" } : Jvm.MethodName)) ∈ tb := tb_in 480 (by decide +kernel) rfl
theorem wd_481 : (Jvm.Cond.selects "RopeShelf$Pieces" ({ cls := "RopeShelf$Pieces", name := "firstPlaceOf", desc := "(LRopeShelf$Cell;)I" } : Jvm.MethodName) ({ cls := "RopeShelf$Pieces", name := "firstPlaceOf", desc := "(LRopeShelf$Cell;)I" } : Jvm.MethodName)) ∈ tb := tb_in 481 (by decide +kernel) rfl
theorem wd_482 : (Jvm.Cond.code ({ cls := "RopeShelf$Pieces", name := "firstPlaceOf", desc := "(LRopeShelf$Cell;)I" } : Jvm.MethodName) prog_3_method_6_code (3 : Nat) (Option.some Jvm.ClassFile.FieldType.int)) ∈ tb := tb_in 482 (by decide +kernel) rfl
theorem wd_483 : (Jvm.Cond.methodLink "RopeShelf$Pieces" (39 : Nat) ({ cls := "RopeShelf$Pieces", name := "at", desc := "(I)LRopeShelf$Cell;" } : Jvm.MethodName)) ∈ tb := tb_in 483 (by decide +kernel) rfl
theorem wd_484 : (Jvm.Cond.methodLink "RopeShelfLaw" (61 : Nat) ({ cls := "RopeShelf", name := "alike", desc := "(III)I" } : Jvm.MethodName)) ∈ tb := tb_in 484 (by decide +kernel) rfl
theorem wd_485 : (Jvm.Cond.instanceMethod ({ cls := "RopeShelf", name := "alike", desc := "(III)I" } : Jvm.MethodName)) ∈ tb := tb_in 485 (by decide +kernel) rfl
theorem wd_486 : (Jvm.Cond.selects "RopeShelf" ({ cls := "RopeShelf", name := "alike", desc := "(III)I" } : Jvm.MethodName) ({ cls := "RopeShelf", name := "alike", desc := "(III)I" } : Jvm.MethodName)) ∈ tb := tb_in 486 (by decide +kernel) rfl
theorem wd_487 : (Jvm.Cond.code ({ cls := "RopeShelf", name := "alike", desc := "(III)I" } : Jvm.MethodName) prog_1_method_13_code (6 : Nat) (Option.some Jvm.ClassFile.FieldType.int)) ∈ tb := tb_in 487 (by decide +kernel) rfl
theorem wd_488 : (Jvm.Cond.methodLink "RopeShelf" (176 : Nat) ({ cls := "RopeShelf", name := "compareTexts", desc := "(I)I" } : Jvm.MethodName)) ∈ tb := tb_in 488 (by decide +kernel) rfl
theorem wd_490 : (Jvm.Cond.instanceMethod ({ cls := "RopeShelf", name := "compareTexts", desc := "(I)I" } : Jvm.MethodName)) ∈ tb := tb_in 490 (by decide +kernel) rfl
theorem wd_491 : (Jvm.Cond.code ({ cls := "RopeShelf", name := "compareTexts", desc := "(I)I" } : Jvm.MethodName) prog_1_method_26_code (2 : Nat) (Option.some Jvm.ClassFile.FieldType.int)) ∈ tb := tb_in 491 (by decide +kernel) rfl
theorem wd_492 : (Jvm.Cond.methodLink "RopeShelf" (222 : Nat) ({ cls := "RopeShelf$Text", name := "isSameAs", desc := "(LRopeShelf$Text;)Z" } : Jvm.MethodName)) ∈ tb := tb_in 492 (by decide +kernel) rfl
theorem wd_493 : (Jvm.Cond.instanceMethod ({ cls := "RopeShelf$Text", name := "isSameAs", desc := "(LRopeShelf$Text;)Z" } : Jvm.MethodName)) ∈ tb := tb_in 493 (by decide +kernel) rfl
theorem wd_494 : (Jvm.Cond.selects "RopeShelf$Text" ({ cls := "RopeShelf$Text", name := "isSameAs", desc := "(LRopeShelf$Text;)Z" } : Jvm.MethodName) ({ cls := "RopeShelf$Text", name := "isSameAs", desc := "(LRopeShelf$Text;)Z" } : Jvm.MethodName)) ∈ tb := tb_in 494 (by decide +kernel) rfl
theorem wd_495 : (Jvm.Cond.code ({ cls := "RopeShelf$Text", name := "isSameAs", desc := "(LRopeShelf$Text;)Z" } : Jvm.MethodName) prog_5_method_13_code (2 : Nat) (Option.some Jvm.ClassFile.FieldType.boolean)) ∈ tb := tb_in 495 (by decide +kernel) rfl
theorem wd_496 : (Jvm.Cond.methodLink "RopeShelf$Text" (55 : Nat) ({ cls := "RopeShelf$Text", name := "samePlaces", desc := "(LRopeShelf$Text;)I" } : Jvm.MethodName)) ∈ tb := tb_in 496 (by decide +kernel) rfl
theorem wd_497 : (Jvm.Cond.instanceMethod ({ cls := "RopeShelf$Text", name := "samePlaces", desc := "(LRopeShelf$Text;)I" } : Jvm.MethodName)) ∈ tb := tb_in 497 (by decide +kernel) rfl
theorem wd_498 : (Jvm.Cond.selects "RopeShelf$Text" ({ cls := "RopeShelf$Text", name := "samePlaces", desc := "(LRopeShelf$Text;)I" } : Jvm.MethodName) ({ cls := "RopeShelf$Text", name := "samePlaces", desc := "(LRopeShelf$Text;)I" } : Jvm.MethodName)) ∈ tb := tb_in 498 (by decide +kernel) rfl
theorem wd_499 : (Jvm.Cond.code ({ cls := "RopeShelf$Text", name := "samePlaces", desc := "(LRopeShelf$Text;)I" } : Jvm.MethodName) prog_5_method_14_code (4 : Nat) (Option.some Jvm.ClassFile.FieldType.int)) ∈ tb := tb_in 499 (by decide +kernel) rfl
theorem wd_500 : (Jvm.Cond.methodLink "RopeShelf$Text" (59 : Nat) ({ cls := "java/lang/Math", name := "min", desc := "(II)I" } : Jvm.MethodName)) ∈ tb := tb_in 500 (by decide +kernel) rfl
theorem wd_501 : (Jvm.Cond.static ({ cls := "java/lang/Math", name := "min", desc := "(II)I" } : Jvm.MethodName)) ∈ tb := tb_in 501 (by decide +kernel) rfl
theorem wd_502 : (Jvm.Cond.code ({ cls := "java/lang/Math", name := "min", desc := "(II)I" } : Jvm.MethodName) prog_10_method_69_code (2 : Nat) (Option.some Jvm.ClassFile.FieldType.int)) ∈ tb := tb_in 502 (by decide +kernel) rfl
theorem wd_503 : (Jvm.Cond.methodLink "RopeShelf" (226 : Nat) ({ cls := "RopeShelf$Text", name := "samePlaces", desc := "(LRopeShelf$Text;)I" } : Jvm.MethodName)) ∈ tb := tb_in 503 (by decide +kernel) rfl
theorem wd_504 : (Jvm.Cond.methodLink "RopeShelf" (230 : Nat) ({ cls := "RopeShelf$Text", name := "placeOf", desc := "(LRopeShelf$Text;)I" } : Jvm.MethodName)) ∈ tb := tb_in 504 (by decide +kernel) rfl
theorem wd_505 : (Jvm.Cond.instanceMethod ({ cls := "RopeShelf$Text", name := "placeOf", desc := "(LRopeShelf$Text;)I" } : Jvm.MethodName)) ∈ tb := tb_in 505 (by decide +kernel) rfl
theorem wd_506 : (Jvm.Cond.selects "RopeShelf$Text" ({ cls := "RopeShelf$Text", name := "placeOf", desc := "(LRopeShelf$Text;)I" } : Jvm.MethodName) ({ cls := "RopeShelf$Text", name := "placeOf", desc := "(LRopeShelf$Text;)I" } : Jvm.MethodName)) ∈ tb := tb_in 506 (by decide +kernel) rfl
theorem wd_507 : (Jvm.Cond.code ({ cls := "RopeShelf$Text", name := "placeOf", desc := "(LRopeShelf$Text;)I" } : Jvm.MethodName) prog_5_method_16_code (3 : Nat) (Option.some Jvm.ClassFile.FieldType.int)) ∈ tb := tb_in 507 (by decide +kernel) rfl
theorem wd_508 : (Jvm.Cond.methodLink "RopeShelf$Text" (65 : Nat) ({ cls := "RopeShelf$Text", name := "hasAt", desc := "(ILRopeShelf$Text;)Z" } : Jvm.MethodName)) ∈ tb := tb_in 508 (by decide +kernel) rfl
theorem wd_510 : (Jvm.Cond.instanceMethod ({ cls := "RopeShelf$Text", name := "hasAt", desc := "(ILRopeShelf$Text;)Z" } : Jvm.MethodName)) ∈ tb := tb_in 510 (by decide +kernel) rfl
theorem wd_511 : (Jvm.Cond.code ({ cls := "RopeShelf$Text", name := "hasAt", desc := "(ILRopeShelf$Text;)Z" } : Jvm.MethodName) prog_5_method_17_code (4 : Nat) (Option.some Jvm.ClassFile.FieldType.boolean)) ∈ tb := tb_in 511 (by decide +kernel) rfl
theorem wd_512 : (Jvm.Cond.methodLink "RopeShelf" (233 : Nat) ({ cls := "RopeShelf$Text", name := "comesBefore", desc := "(LRopeShelf$Text;)Z" } : Jvm.MethodName)) ∈ tb := tb_in 512 (by decide +kernel) rfl
theorem wd_513 : (Jvm.Cond.instanceMethod ({ cls := "RopeShelf$Text", name := "comesBefore", desc := "(LRopeShelf$Text;)Z" } : Jvm.MethodName)) ∈ tb := tb_in 513 (by decide +kernel) rfl
theorem wd_514 : (Jvm.Cond.selects "RopeShelf$Text" ({ cls := "RopeShelf$Text", name := "comesBefore", desc := "(LRopeShelf$Text;)Z" } : Jvm.MethodName) ({ cls := "RopeShelf$Text", name := "comesBefore", desc := "(LRopeShelf$Text;)Z" } : Jvm.MethodName)) ∈ tb := tb_in 514 (by decide +kernel) rfl
theorem wd_515 : (Jvm.Cond.code ({ cls := "RopeShelf$Text", name := "comesBefore", desc := "(LRopeShelf$Text;)Z" } : Jvm.MethodName) prog_5_method_15_code (3 : Nat) (Option.some Jvm.ClassFile.FieldType.boolean)) ∈ tb := tb_in 515 (by decide +kernel) rfl
theorem wd_516 : (Jvm.Cond.methodLink "RopeShelfLaw" (65 : Nat) ({ cls := "RopeShelf", name := "intern", desc := "(I)I" } : Jvm.MethodName)) ∈ tb := tb_in 516 (by decide +kernel) rfl
theorem wd_517 : (Jvm.Cond.instanceMethod ({ cls := "RopeShelf", name := "intern", desc := "(I)I" } : Jvm.MethodName)) ∈ tb := tb_in 517 (by decide +kernel) rfl
theorem wd_518 : (Jvm.Cond.selects "RopeShelf" ({ cls := "RopeShelf", name := "intern", desc := "(I)I" } : Jvm.MethodName) ({ cls := "RopeShelf", name := "intern", desc := "(I)I" } : Jvm.MethodName)) ∈ tb := tb_in 518 (by decide +kernel) rfl
theorem wd_519 : (Jvm.Cond.code ({ cls := "RopeShelf", name := "intern", desc := "(I)I" } : Jvm.MethodName) prog_1_method_14_code (4 : Nat) (Option.some Jvm.ClassFile.FieldType.int)) ∈ tb := tb_in 519 (by decide +kernel) rfl
theorem wd_520 : (Jvm.Cond.methodLink "RopeShelf" (179 : Nat) ({ cls := "RopeShelf", name := "placeInTable", desc := "(LRopeShelf$Cell;)I" } : Jvm.MethodName)) ∈ tb := tb_in 520 (by decide +kernel) rfl
theorem wd_522 : (Jvm.Cond.instanceMethod ({ cls := "RopeShelf", name := "placeInTable", desc := "(LRopeShelf$Cell;)I" } : Jvm.MethodName)) ∈ tb := tb_in 522 (by decide +kernel) rfl
theorem wd_523 : (Jvm.Cond.code ({ cls := "RopeShelf", name := "placeInTable", desc := "(LRopeShelf$Cell;)I" } : Jvm.MethodName) prog_1_method_27_code (3 : Nat) (Option.some Jvm.ClassFile.FieldType.int)) ∈ tb := tb_in 523 (by decide +kernel) rfl
theorem wd_524 : (Jvm.Cond.methodLink "RopeShelf" (188 : Nat) ({ cls := "RopeShelf$Table", name := "cellAt", desc := "(I)LRopeShelf$Cell;" } : Jvm.MethodName)) ∈ tb := tb_in 524 (by decide +kernel) rfl
theorem wd_525 : (Jvm.Cond.instanceMethod ({ cls := "RopeShelf$Table", name := "cellAt", desc := "(I)LRopeShelf$Cell;" } : Jvm.MethodName)) ∈ tb := tb_in 525 (by decide +kernel) rfl
theorem wd_526 : (Jvm.Cond.selects "RopeShelf$Table" ({ cls := "RopeShelf$Table", name := "cellAt", desc := "(I)LRopeShelf$Cell;" } : Jvm.MethodName) ({ cls := "RopeShelf$Table", name := "cellAt", desc := "(I)LRopeShelf$Cell;" } : Jvm.MethodName)) ∈ tb := tb_in 526 (by decide +kernel) rfl
theorem wd_527 : (Jvm.Cond.code ({ cls := "RopeShelf$Table", name := "cellAt", desc := "(I)LRopeShelf$Cell;" } : Jvm.MethodName) prog_4_method_3_code (2 : Nat) (Option.some (Jvm.ClassFile.FieldType.object "RopeShelf$Cell"))) ∈ tb := tb_in 527 (by decide +kernel) rfl
theorem wd_528 : (Jvm.Cond.methodLink "RopeShelf" (182 : Nat) ({ cls := "RopeShelf$Table", name := "isFull", desc := "()Z" } : Jvm.MethodName)) ∈ tb := tb_in 528 (by decide +kernel) rfl
theorem wd_529 : (Jvm.Cond.instanceMethod ({ cls := "RopeShelf$Table", name := "isFull", desc := "()Z" } : Jvm.MethodName)) ∈ tb := tb_in 529 (by decide +kernel) rfl
theorem wd_530 : (Jvm.Cond.selects "RopeShelf$Table" ({ cls := "RopeShelf$Table", name := "isFull", desc := "()Z" } : Jvm.MethodName) ({ cls := "RopeShelf$Table", name := "isFull", desc := "()Z" } : Jvm.MethodName)) ∈ tb := tb_in 530 (by decide +kernel) rfl
theorem wd_531 : (Jvm.Cond.code ({ cls := "RopeShelf$Table", name := "isFull", desc := "()Z" } : Jvm.MethodName) prog_4_method_2_code (1 : Nat) (Option.some Jvm.ClassFile.FieldType.boolean)) ∈ tb := tb_in 531 (by decide +kernel) rfl
theorem wd_532 : (Jvm.Cond.methodLink "RopeShelf" (185 : Nat) ({ cls := "RopeShelf$Table", name := "enter", desc := "(LRopeShelf$Cell;)I" } : Jvm.MethodName)) ∈ tb := tb_in 532 (by decide +kernel) rfl
theorem wd_533 : (Jvm.Cond.instanceMethod ({ cls := "RopeShelf$Table", name := "enter", desc := "(LRopeShelf$Cell;)I" } : Jvm.MethodName)) ∈ tb := tb_in 533 (by decide +kernel) rfl
theorem wd_534 : (Jvm.Cond.selects "RopeShelf$Table" ({ cls := "RopeShelf$Table", name := "enter", desc := "(LRopeShelf$Cell;)I" } : Jvm.MethodName) ({ cls := "RopeShelf$Table", name := "enter", desc := "(LRopeShelf$Cell;)I" } : Jvm.MethodName)) ∈ tb := tb_in 534 (by decide +kernel) rfl
theorem wd_535 : (Jvm.Cond.code ({ cls := "RopeShelf$Table", name := "enter", desc := "(LRopeShelf$Cell;)I" } : Jvm.MethodName) prog_4_method_5_code (3 : Nat) (Option.some Jvm.ClassFile.FieldType.int)) ∈ tb := tb_in 535 (by decide +kernel) rfl
theorem wd_536 : (Jvm.Cond.methodLink "RopeShelf$Table" (28 : Nat) ({ cls := "RopeShelf$Table", name := "place", desc := "(LRopeShelf$Cell;I)V" } : Jvm.MethodName)) ∈ tb := tb_in 536 (by decide +kernel) rfl
theorem wd_538 : (Jvm.Cond.instanceMethod ({ cls := "RopeShelf$Table", name := "place", desc := "(LRopeShelf$Cell;I)V" } : Jvm.MethodName)) ∈ tb := tb_in 538 (by decide +kernel) rfl
theorem wd_539 : (Jvm.Cond.code ({ cls := "RopeShelf$Table", name := "place", desc := "(LRopeShelf$Cell;I)V" } : Jvm.MethodName) prog_4_method_7_code (3 : Nat) (Option.none : Option Jvm.ClassFile.FieldType)) ∈ tb := tb_in 539 (by decide +kernel) rfl
theorem wd_540 : (Jvm.Cond.methodLink "RopeShelf" (191 : Nat) ({ cls := "RopeShelf$Table", name := "numberAt", desc := "(I)I" } : Jvm.MethodName)) ∈ tb := tb_in 540 (by decide +kernel) rfl
theorem wd_541 : (Jvm.Cond.instanceMethod ({ cls := "RopeShelf$Table", name := "numberAt", desc := "(I)I" } : Jvm.MethodName)) ∈ tb := tb_in 541 (by decide +kernel) rfl
theorem wd_542 : (Jvm.Cond.selects "RopeShelf$Table" ({ cls := "RopeShelf$Table", name := "numberAt", desc := "(I)I" } : Jvm.MethodName) ({ cls := "RopeShelf$Table", name := "numberAt", desc := "(I)I" } : Jvm.MethodName)) ∈ tb := tb_in 542 (by decide +kernel) rfl
theorem wd_543 : (Jvm.Cond.code ({ cls := "RopeShelf$Table", name := "numberAt", desc := "(I)I" } : Jvm.MethodName) prog_4_method_4_code (2 : Nat) (Option.some Jvm.ClassFile.FieldType.int)) ∈ tb := tb_in 543 (by decide +kernel) rfl
theorem wd_544 : (Jvm.Cond.methodLink "RopeShelfLaw" (69 : Nat) ({ cls := "RopeShelf", name := "sweep", desc := "()I" } : Jvm.MethodName)) ∈ tb := tb_in 544 (by decide +kernel) rfl
theorem wd_545 : (Jvm.Cond.instanceMethod ({ cls := "RopeShelf", name := "sweep", desc := "()I" } : Jvm.MethodName)) ∈ tb := tb_in 545 (by decide +kernel) rfl
theorem wd_546 : (Jvm.Cond.selects "RopeShelf" ({ cls := "RopeShelf", name := "sweep", desc := "()I" } : Jvm.MethodName) ({ cls := "RopeShelf", name := "sweep", desc := "()I" } : Jvm.MethodName)) ∈ tb := tb_in 546 (by decide +kernel) rfl
theorem wd_547 : (Jvm.Cond.code ({ cls := "RopeShelf", name := "sweep", desc := "()I" } : Jvm.MethodName) prog_1_method_15_code (1 : Nat) (Option.some Jvm.ClassFile.FieldType.int)) ∈ tb := tb_in 547 (by decide +kernel) rfl
theorem wd_548 : (Jvm.Cond.methodLink "RopeShelf" (194 : Nat) ({ cls := "RopeShelf$Walk", name := "overAll", desc := "([LRopeShelf$Cell;)V" } : Jvm.MethodName)) ∈ tb := tb_in 548 (by decide +kernel) rfl
theorem wd_549 : (Jvm.Cond.instanceMethod ({ cls := "RopeShelf$Walk", name := "overAll", desc := "([LRopeShelf$Cell;)V" } : Jvm.MethodName)) ∈ tb := tb_in 549 (by decide +kernel) rfl
theorem wd_550 : (Jvm.Cond.selects "RopeShelf$Walk" ({ cls := "RopeShelf$Walk", name := "overAll", desc := "([LRopeShelf$Cell;)V" } : Jvm.MethodName) ({ cls := "RopeShelf$Walk", name := "overAll", desc := "([LRopeShelf$Cell;)V" } : Jvm.MethodName)) ∈ tb := tb_in 550 (by decide +kernel) rfl
theorem wd_551 : (Jvm.Cond.code ({ cls := "RopeShelf$Walk", name := "overAll", desc := "([LRopeShelf$Cell;)V" } : Jvm.MethodName) prog_6_method_3_code (3 : Nat) (Option.none : Option Jvm.ClassFile.FieldType)) ∈ tb := tb_in 551 (by decide +kernel) rfl
theorem wd_552 : (Jvm.Cond.methodLink "RopeShelf" (198 : Nat) ({ cls := "RopeShelf$Table", name := "dropUnmarked", desc := "(LRopeShelf$Walk;)I" } : Jvm.MethodName)) ∈ tb := tb_in 552 (by decide +kernel) rfl
theorem wd_553 : (Jvm.Cond.instanceMethod ({ cls := "RopeShelf$Table", name := "dropUnmarked", desc := "(LRopeShelf$Walk;)I" } : Jvm.MethodName)) ∈ tb := tb_in 553 (by decide +kernel) rfl
theorem wd_554 : (Jvm.Cond.selects "RopeShelf$Table" ({ cls := "RopeShelf$Table", name := "dropUnmarked", desc := "(LRopeShelf$Walk;)I" } : Jvm.MethodName) ({ cls := "RopeShelf$Table", name := "dropUnmarked", desc := "(LRopeShelf$Walk;)I" } : Jvm.MethodName)) ∈ tb := tb_in 554 (by decide +kernel) rfl
theorem wd_555 : (Jvm.Cond.code ({ cls := "RopeShelf$Table", name := "dropUnmarked", desc := "(LRopeShelf$Walk;)I" } : Jvm.MethodName) prog_4_method_6_code (4 : Nat) (Option.some Jvm.ClassFile.FieldType.int)) ∈ tb := tb_in 555 (by decide +kernel) rfl
theorem wd_556 : (Jvm.Cond.methodLink "RopeShelf$Table" (32 : Nat) ({ cls := "RopeShelf$Walk", name := "cameBy", desc := "(LRopeShelf$Cell;)Z" } : Jvm.MethodName)) ∈ tb := tb_in 556 (by decide +kernel) rfl
theorem wd_557 : (Jvm.Cond.methodLink "RopeShelfLaw" (74 : Nat) ({ cls := "RopeShelf", name := "entry", desc := "(II)I" } : Jvm.MethodName)) ∈ tb := tb_in 557 (by decide +kernel) rfl
theorem wd_558 : (Jvm.Cond.instanceMethod ({ cls := "RopeShelf", name := "entry", desc := "(II)I" } : Jvm.MethodName)) ∈ tb := tb_in 558 (by decide +kernel) rfl
theorem wd_559 : (Jvm.Cond.selects "RopeShelf" ({ cls := "RopeShelf", name := "entry", desc := "(II)I" } : Jvm.MethodName) ({ cls := "RopeShelf", name := "entry", desc := "(II)I" } : Jvm.MethodName)) ∈ tb := tb_in 559 (by decide +kernel) rfl
theorem wd_560 : (Jvm.Cond.code ({ cls := "RopeShelf", name := "entry", desc := "(II)I" } : Jvm.MethodName) prog_1_method_16_code (4 : Nat) (Option.some Jvm.ClassFile.FieldType.int)) ∈ tb := tb_in 560 (by decide +kernel) rfl
theorem wd_561 : (Jvm.Cond.methodLink "RopeShelf" (202 : Nat) ({ cls := "RopeShelf", name := "slotsWith", desc := "(LRopeShelf$Cell;)I" } : Jvm.MethodName)) ∈ tb := tb_in 561 (by decide +kernel) rfl
theorem wd_563 : (Jvm.Cond.instanceMethod ({ cls := "RopeShelf", name := "slotsWith", desc := "(LRopeShelf$Cell;)I" } : Jvm.MethodName)) ∈ tb := tb_in 563 (by decide +kernel) rfl
theorem wd_564 : (Jvm.Cond.code ({ cls := "RopeShelf", name := "slotsWith", desc := "(LRopeShelf$Cell;)I" } : Jvm.MethodName) prog_1_method_28_code (4 : Nat) (Option.some Jvm.ClassFile.FieldType.int)) ∈ tb := tb_in 564 (by decide +kernel) rfl
theorem wd_565 : (Jvm.Cond.methodLink "RopeShelfLaw" (78 : Nat) ({ cls := "RopeShelf", name := "count", desc := "(I)I" } : Jvm.MethodName)) ∈ tb := tb_in 565 (by decide +kernel) rfl
theorem wd_566 : (Jvm.Cond.instanceMethod ({ cls := "RopeShelf", name := "count", desc := "(I)I" } : Jvm.MethodName)) ∈ tb := tb_in 566 (by decide +kernel) rfl
theorem wd_567 : (Jvm.Cond.selects "RopeShelf" ({ cls := "RopeShelf", name := "count", desc := "(I)I" } : Jvm.MethodName) ({ cls := "RopeShelf", name := "count", desc := "(I)I" } : Jvm.MethodName)) ∈ tb := tb_in 567 (by decide +kernel) rfl
theorem wd_568 : (Jvm.Cond.code ({ cls := "RopeShelf", name := "count", desc := "(I)I" } : Jvm.MethodName) prog_1_method_17_code (3 : Nat) (Option.some Jvm.ClassFile.FieldType.int)) ∈ tb := tb_in 568 (by decide +kernel) rfl
theorem wd_569 : (Jvm.Cond.methodLink "RopeShelfLaw" (82 : Nat) ({ cls := "RopeShelf", name := "image", desc := "(I)I" } : Jvm.MethodName)) ∈ tb := tb_in 569 (by decide +kernel) rfl
theorem wd_570 : (Jvm.Cond.instanceMethod ({ cls := "RopeShelf", name := "image", desc := "(I)I" } : Jvm.MethodName)) ∈ tb := tb_in 570 (by decide +kernel) rfl
theorem wd_571 : (Jvm.Cond.selects "RopeShelf" ({ cls := "RopeShelf", name := "image", desc := "(I)I" } : Jvm.MethodName) ({ cls := "RopeShelf", name := "image", desc := "(I)I" } : Jvm.MethodName)) ∈ tb := tb_in 571 (by decide +kernel) rfl
theorem wd_572 : (Jvm.Cond.code ({ cls := "RopeShelf", name := "image", desc := "(I)I" } : Jvm.MethodName) prog_1_method_18_code (2 : Nat) (Option.some Jvm.ClassFile.FieldType.int)) ∈ tb := tb_in 572 (by decide +kernel) rfl
theorem wd_573 : (Jvm.Cond.methodLink "RopeShelf" (211 : Nat) ({ cls := "RopeShelf", name := "isImage", desc := "(I)Z" } : Jvm.MethodName)) ∈ tb := tb_in 573 (by decide +kernel) rfl
theorem wd_574 : (Jvm.Cond.static ({ cls := "RopeShelf", name := "isImage", desc := "(I)Z" } : Jvm.MethodName)) ∈ tb := tb_in 574 (by decide +kernel) rfl
theorem wd_575 : (Jvm.Cond.code ({ cls := "RopeShelf", name := "isImage", desc := "(I)Z" } : Jvm.MethodName) prog_1_method_22_code (1 : Nat) (Option.some Jvm.ClassFile.FieldType.boolean)) ∈ tb := tb_in 575 (by decide +kernel) rfl
theorem wd_576 : (Jvm.Cond.methodLink "RopeShelf" (214 : Nat) ({ cls := "RopeShelf", name := "imageRow", desc := "(I)[LRopeShelf$Cell;" } : Jvm.MethodName)) ∈ tb := tb_in 576 (by decide +kernel) rfl
theorem wd_578 : (Jvm.Cond.instanceMethod ({ cls := "RopeShelf", name := "imageRow", desc := "(I)[LRopeShelf$Cell;" } : Jvm.MethodName)) ∈ tb := tb_in 578 (by decide +kernel) rfl
theorem wd_579 : (Jvm.Cond.code ({ cls := "RopeShelf", name := "imageRow", desc := "(I)[LRopeShelf$Cell;" } : Jvm.MethodName) prog_1_method_29_code (2 : Nat) (Option.some (Jvm.ClassFile.FieldType.array (Jvm.ClassFile.FieldType.object "RopeShelf$Cell")))) ∈ tb := tb_in 579 (by decide +kernel) rfl
theorem wd_580 : (Jvm.Cond.methodLink "RopeShelf" (218 : Nat) ({ cls := "RopeShelf", name := "moveCells", desc := "([LRopeShelf$Cell;[LRopeShelf$Cell;)V" } : Jvm.MethodName)) ∈ tb := tb_in 580 (by decide +kernel) rfl
theorem wd_581 : (Jvm.Cond.static ({ cls := "RopeShelf", name := "moveCells", desc := "([LRopeShelf$Cell;[LRopeShelf$Cell;)V" } : Jvm.MethodName)) ∈ tb := tb_in 581 (by decide +kernel) rfl
theorem wd_582 : (Jvm.Cond.code ({ cls := "RopeShelf", name := "moveCells", desc := "([LRopeShelf$Cell;[LRopeShelf$Cell;)V" } : Jvm.MethodName) prog_1_method_30_code (3 : Nat) (Option.none : Option Jvm.ClassFile.FieldType)) ∈ tb := tb_in 582 (by decide +kernel) rfl
theorem wd_583 : (Jvm.Cond.methodLink "RopeShelfLaw" (86 : Nat) ({ cls := "RopeShelf", name := "restore", desc := "(I)I" } : Jvm.MethodName)) ∈ tb := tb_in 583 (by decide +kernel) rfl
theorem wd_584 : (Jvm.Cond.instanceMethod ({ cls := "RopeShelf", name := "restore", desc := "(I)I" } : Jvm.MethodName)) ∈ tb := tb_in 584 (by decide +kernel) rfl
theorem wd_585 : (Jvm.Cond.selects "RopeShelf" ({ cls := "RopeShelf", name := "restore", desc := "(I)I" } : Jvm.MethodName) ({ cls := "RopeShelf", name := "restore", desc := "(I)I" } : Jvm.MethodName)) ∈ tb := tb_in 585 (by decide +kernel) rfl
theorem wd_586 : (Jvm.Cond.code ({ cls := "RopeShelf", name := "restore", desc := "(I)I" } : Jvm.MethodName) prog_1_method_19_code (2 : Nat) (Option.some Jvm.ClassFile.FieldType.int)) ∈ tb := tb_in 586 (by decide +kernel) rfl
theorem wd_587 : (Jvm.Cond.classLink "RopeShelfLaw" (10 : Nat) "RopeShelfModel") ∈ tb := tb_in 587 (by decide +kernel) rfl
theorem wd_588 : (Jvm.Cond.instantiable "RopeShelfModel" (39 : Nat)) ∈ tb := tb_in 588 (by decide +kernel) rfl
theorem wd_589 : (Jvm.Cond.methodLink "RopeShelfLaw" (12 : Nat) ({ cls := "RopeShelfModel", name := "<init>", desc := "()V" } : Jvm.MethodName)) ∈ tb := tb_in 589 (by decide +kernel) rfl
theorem wd_590 : (Jvm.Cond.instanceMethod ({ cls := "RopeShelfModel", name := "<init>", desc := "()V" } : Jvm.MethodName)) ∈ tb := tb_in 590 (by decide +kernel) rfl
theorem wd_591 : (Jvm.Cond.code ({ cls := "RopeShelfModel", name := "<init>", desc := "()V" } : Jvm.MethodName) prog_9_method_1_code (2 : Nat) (Option.none : Option Jvm.ClassFile.FieldType)) ∈ tb := tb_in 591 (by decide +kernel) rfl
theorem wd_592 : (Jvm.Cond.methodLink "RopeShelfModel" (1 : Nat) ({ cls := "java/lang/Object", name := "<init>", desc := "()V" } : Jvm.MethodName)) ∈ tb := tb_in 592 (by decide +kernel) rfl
theorem wd_593 : (Jvm.Cond.constant "RopeShelfModel" (30 : Nat) (81920 : Int32)) ∈ tb := tb_in 593 (by decide +kernel) rfl
theorem wd_594 : (Jvm.Cond.methodLink "RopeShelfModel" (100 : Nat) ({ cls := "RopeShelfModel", name := "newLeaf", desc := "(I)I" } : Jvm.MethodName)) ∈ tb := tb_in 594 (by decide +kernel) rfl
theorem wd_596 : (Jvm.Cond.instanceMethod ({ cls := "RopeShelfModel", name := "newLeaf", desc := "(I)I" } : Jvm.MethodName)) ∈ tb := tb_in 596 (by decide +kernel) rfl
theorem wd_597 : (Jvm.Cond.code ({ cls := "RopeShelfModel", name := "newLeaf", desc := "(I)I" } : Jvm.MethodName) prog_9_method_6_code (3 : Nat) (Option.some Jvm.ClassFile.FieldType.int)) ∈ tb := tb_in 597 (by decide +kernel) rfl
theorem wd_598 : (Jvm.Cond.methodLink "RopeShelfModel" (114 : Nat) ({ cls := "RopeShelfModel", name := "newCell", desc := "(IIII)I" } : Jvm.MethodName)) ∈ tb := tb_in 598 (by decide +kernel) rfl
theorem wd_600 : (Jvm.Cond.instanceMethod ({ cls := "RopeShelfModel", name := "newCell", desc := "(IIII)I" } : Jvm.MethodName)) ∈ tb := tb_in 600 (by decide +kernel) rfl
theorem wd_601 : (Jvm.Cond.code ({ cls := "RopeShelfModel", name := "newCell", desc := "(IIII)I" } : Jvm.MethodName) prog_9_method_4_code (5 : Nat) (Option.some Jvm.ClassFile.FieldType.int)) ∈ tb := tb_in 601 (by decide +kernel) rfl
theorem wd_602 : (Jvm.Cond.methodLink "RopeShelfModel" (118 : Nat) ({ cls := "RopeShelfModel", name := "keepText", desc := "(II)I" } : Jvm.MethodName)) ∈ tb := tb_in 602 (by decide +kernel) rfl
theorem wd_604 : (Jvm.Cond.instanceMethod ({ cls := "RopeShelfModel", name := "keepText", desc := "(II)I" } : Jvm.MethodName)) ∈ tb := tb_in 604 (by decide +kernel) rfl
theorem wd_605 : (Jvm.Cond.code ({ cls := "RopeShelfModel", name := "keepText", desc := "(II)I" } : Jvm.MethodName) prog_9_method_5_code (4 : Nat) (Option.some Jvm.ClassFile.FieldType.int)) ∈ tb := tb_in 605 (by decide +kernel) rfl
theorem wd_606 : (Jvm.Cond.fieldLink "RopeShelfModel" (7 : Nat) "RopeShelfModel" "kind" "[I") ∈ tb := tb_in 606 (by decide +kernel) rfl
theorem wd_607 : (Jvm.Cond.fieldLink "RopeShelfModel" (13 : Nat) "RopeShelfModel" "one" "[I") ∈ tb := tb_in 607 (by decide +kernel) rfl
theorem wd_608 : (Jvm.Cond.fieldLink "RopeShelfModel" (16 : Nat) "RopeShelfModel" "other" "[I") ∈ tb := tb_in 608 (by decide +kernel) rfl
theorem wd_609 : (Jvm.Cond.fieldLink "RopeShelfModel" (19 : Nat) "RopeShelfModel" "size" "[I") ∈ tb := tb_in 609 (by decide +kernel) rfl
theorem wd_610 : (Jvm.Cond.fieldLink "RopeShelfModel" (22 : Nat) "RopeShelfModel" "isMarked" "[Z") ∈ tb := tb_in 610 (by decide +kernel) rfl
theorem wd_611 : (Jvm.Cond.fieldLink "RopeShelfModel" (26 : Nat) "RopeShelfModel" "spare" "I") ∈ tb := tb_in 611 (by decide +kernel) rfl
theorem wd_612 : (Jvm.Cond.fieldLink "RopeShelfModel" (108 : Nat) "RopeShelfModel" "last" "I") ∈ tb := tb_in 612 (by decide +kernel) rfl
theorem wd_613 : (Jvm.Cond.fieldLink "RopeShelfModel" (31 : Nat) "RopeShelfModel" "signs" "[I") ∈ tb := tb_in 613 (by decide +kernel) rfl
theorem wd_614 : (Jvm.Cond.fieldLink "RopeShelfModel" (111 : Nat) "RopeShelfModel" "end" "I") ∈ tb := tb_in 614 (by decide +kernel) rfl
theorem wd_615 : (Jvm.Cond.fieldLink "RopeShelfModel" (34 : Nat) "RopeShelfModel" "slots" "[I") ∈ tb := tb_in 615 (by decide +kernel) rfl
theorem wd_616 : (Jvm.Cond.fieldLink "RopeShelfModel" (37 : Nat) "RopeShelfModel" "images" "[I") ∈ tb := tb_in 616 (by decide +kernel) rfl
theorem wd_617 : (Jvm.Cond.fieldLink "RopeShelfModel" (40 : Nat) "RopeShelfModel" "isKept" "[Z") ∈ tb := tb_in 617 (by decide +kernel) rfl
theorem wd_618 : (Jvm.Cond.fieldLink "RopeShelfModel" (43 : Nat) "RopeShelfModel" "entryCells" "[I") ∈ tb := tb_in 618 (by decide +kernel) rfl
theorem wd_619 : (Jvm.Cond.fieldLink "RopeShelfModel" (46 : Nat) "RopeShelfModel" "entryNumbers" "[I") ∈ tb := tb_in 619 (by decide +kernel) rfl
theorem wd_620 : (Jvm.Cond.fieldLink "RopeShelfModel" (129 : Nat) "RopeShelfModel" "entries" "I") ∈ tb := tb_in 620 (by decide +kernel) rfl
theorem wd_621 : (Jvm.Cond.fieldLink "RopeShelfModel" (224 : Nat) "RopeShelfModel" "ever" "I") ∈ tb := tb_in 621 (by decide +kernel) rfl
theorem wd_622 : (Jvm.Cond.fieldLink "RopeShelfModel" (49 : Nat) "RopeShelfModel" "draft" "[I") ∈ tb := tb_in 622 (by decide +kernel) rfl
theorem wd_623 : (Jvm.Cond.fieldLink "RopeShelfModel" (178 : Nat) "RopeShelfModel" "drafted" "I") ∈ tb := tb_in 623 (by decide +kernel) rfl
theorem wd_624 : (Jvm.Cond.fieldLink "RopeShelfModel" (52 : Nat) "RopeShelfModel" "small" "I") ∈ tb := tb_in 624 (by decide +kernel) rfl
theorem wd_625 : (Jvm.Cond.fieldLink "RopeShelfModel" (55 : Nat) "RopeShelfModel" "deep" "I") ∈ tb := tb_in 625 (by decide +kernel) rfl
theorem wd_626 : (Jvm.Cond.fieldLink "RopeShelfModel" (58 : Nat) "RopeShelfModel" "loose" "I") ∈ tb := tb_in 626 (by decide +kernel) rfl
theorem wd_627 : (Jvm.Cond.fieldLink "RopeShelfModel" (61 : Nat) "RopeShelfModel" "text" "[I") ∈ tb := tb_in 627 (by decide +kernel) rfl
theorem wd_628 : (Jvm.Cond.fieldLink "RopeShelfModel" (64 : Nat) "RopeShelfModel" "still" "[I") ∈ tb := tb_in 628 (by decide +kernel) rfl
theorem wd_629 : (Jvm.Cond.fieldLink "RopeShelfModel" (67 : Nat) "RopeShelfModel" "pieces" "[I") ∈ tb := tb_in 629 (by decide +kernel) rfl
theorem wd_630 : (Jvm.Cond.fieldLink "RopeShelfModel" (135 : Nat) "RopeShelfModel" "many" "I") ∈ tb := tb_in 630 (by decide +kernel) rfl
theorem wd_631 : (Jvm.Cond.fieldLink "RopeShelfModel" (70 : Nat) "RopeShelfModel" "open" "[I") ∈ tb := tb_in 631 (by decide +kernel) rfl
theorem wd_632 : (Jvm.Cond.fieldLink "RopeShelfModel" (73 : Nat) "RopeShelfModel" "level" "[I") ∈ tb := tb_in 632 (by decide +kernel) rfl
theorem wd_633 : (Jvm.Cond.fieldLink "RopeShelfModel" (76 : Nat) "RopeShelfModel" "begins" "[I") ∈ tb := tb_in 633 (by decide +kernel) rfl
theorem wd_634 : (Jvm.Cond.fieldLink "RopeShelfModel" (79 : Nat) "RopeShelfModel" "ends" "[I") ∈ tb := tb_in 634 (by decide +kernel) rfl
theorem wd_635 : (Jvm.Cond.fieldLink "RopeShelfModel" (82 : Nat) "RopeShelfModel" "isHalved" "[Z") ∈ tb := tb_in 635 (by decide +kernel) rfl
theorem wd_636 : (Jvm.Cond.fieldLink "RopeShelfModel" (85 : Nat) "RopeShelfModel" "done" "[I") ∈ tb := tb_in 636 (by decide +kernel) rfl
theorem wd_637 : (Jvm.Cond.fieldLink "RopeShelfModel" (144 : Nat) "RopeShelfModel" "ranges" "I") ∈ tb := tb_in 637 (by decide +kernel) rfl
theorem wd_638 : (Jvm.Cond.fieldLink "RopeShelfModel" (88 : Nat) "RopeShelfModel" "cutCell" "[I") ∈ tb := tb_in 638 (by decide +kernel) rfl
theorem wd_639 : (Jvm.Cond.fieldLink "RopeShelfModel" (91 : Nat) "RopeShelfModel" "cutFrom" "[I") ∈ tb := tb_in 639 (by decide +kernel) rfl
theorem wd_640 : (Jvm.Cond.fieldLink "RopeShelfModel" (94 : Nat) "RopeShelfModel" "cutSize" "[I") ∈ tb := tb_in 640 (by decide +kernel) rfl
theorem wd_641 : (Jvm.Cond.fieldLink "RopeShelfModel" (161 : Nat) "RopeShelfModel" "cuts" "I") ∈ tb := tb_in 641 (by decide +kernel) rfl
theorem wd_642 : (Jvm.Cond.fieldLink "RopeShelfModel" (97 : Nat) "RopeShelfModel" "parts" "[I") ∈ tb := tb_in 642 (by decide +kernel) rfl
theorem wd_643 : (Jvm.Cond.fieldLink "RopeShelfModel" (200 : Nat) "RopeShelfModel" "own" "I") ∈ tb := tb_in 643 (by decide +kernel) rfl
theorem wd_644 : (Jvm.Cond.fieldLink "RopeShelfModel" (203 : Nat) "RopeShelfModel" "theirs" "I") ∈ tb := tb_in 644 (by decide +kernel) rfl
theorem wd_645 : (Jvm.Cond.laysFinal "RopeShelfModel" "RopeShelfModel" "kind" "[I") ∈ tb := tb_in 645 (by decide +kernel) rfl
theorem wd_646 : (Jvm.Cond.soleField "RopeShelfModel" "kind") ∈ tb := tb_in 646 (by decide +kernel) rfl
theorem wd_647 : (Jvm.Cond.laysFinal "RopeShelfModel" "RopeShelfModel" "one" "[I") ∈ tb := tb_in 647 (by decide +kernel) rfl
theorem wd_648 : (Jvm.Cond.soleField "RopeShelfModel" "one") ∈ tb := tb_in 648 (by decide +kernel) rfl
theorem wd_649 : (Jvm.Cond.laysFinal "RopeShelfModel" "RopeShelfModel" "other" "[I") ∈ tb := tb_in 649 (by decide +kernel) rfl
theorem wd_650 : (Jvm.Cond.soleField "RopeShelfModel" "other") ∈ tb := tb_in 650 (by decide +kernel) rfl
theorem wd_651 : (Jvm.Cond.laysFinal "RopeShelfModel" "RopeShelfModel" "size" "[I") ∈ tb := tb_in 651 (by decide +kernel) rfl
theorem wd_652 : (Jvm.Cond.soleField "RopeShelfModel" "size") ∈ tb := tb_in 652 (by decide +kernel) rfl
theorem wd_653 : (Jvm.Cond.laysFinal "RopeShelfModel" "RopeShelfModel" "isMarked" "[Z") ∈ tb := tb_in 653 (by decide +kernel) rfl
theorem wd_654 : (Jvm.Cond.soleField "RopeShelfModel" "isMarked") ∈ tb := tb_in 654 (by decide +kernel) rfl
theorem wd_655 : (Jvm.Cond.lays "RopeShelfModel" "RopeShelfModel" "spare" "I") ∈ tb := tb_in 655 (by decide +kernel) rfl
theorem wd_656 : (Jvm.Cond.soleField "RopeShelfModel" "spare") ∈ tb := tb_in 656 (by decide +kernel) rfl
theorem wd_657 : (Jvm.Cond.lays "RopeShelfModel" "RopeShelfModel" "last" "I") ∈ tb := tb_in 657 (by decide +kernel) rfl
theorem wd_658 : (Jvm.Cond.soleField "RopeShelfModel" "last") ∈ tb := tb_in 658 (by decide +kernel) rfl
theorem wd_659 : (Jvm.Cond.laysFinal "RopeShelfModel" "RopeShelfModel" "signs" "[I") ∈ tb := tb_in 659 (by decide +kernel) rfl
theorem wd_660 : (Jvm.Cond.soleField "RopeShelfModel" "signs") ∈ tb := tb_in 660 (by decide +kernel) rfl
theorem wd_661 : (Jvm.Cond.lays "RopeShelfModel" "RopeShelfModel" "end" "I") ∈ tb := tb_in 661 (by decide +kernel) rfl
theorem wd_662 : (Jvm.Cond.soleField "RopeShelfModel" "end") ∈ tb := tb_in 662 (by decide +kernel) rfl
theorem wd_663 : (Jvm.Cond.laysFinal "RopeShelfModel" "RopeShelfModel" "slots" "[I") ∈ tb := tb_in 663 (by decide +kernel) rfl
theorem wd_664 : (Jvm.Cond.soleField "RopeShelfModel" "slots") ∈ tb := tb_in 664 (by decide +kernel) rfl
theorem wd_665 : (Jvm.Cond.laysFinal "RopeShelfModel" "RopeShelfModel" "images" "[I") ∈ tb := tb_in 665 (by decide +kernel) rfl
theorem wd_666 : (Jvm.Cond.soleField "RopeShelfModel" "images") ∈ tb := tb_in 666 (by decide +kernel) rfl
theorem wd_667 : (Jvm.Cond.laysFinal "RopeShelfModel" "RopeShelfModel" "isKept" "[Z") ∈ tb := tb_in 667 (by decide +kernel) rfl
theorem wd_668 : (Jvm.Cond.soleField "RopeShelfModel" "isKept") ∈ tb := tb_in 668 (by decide +kernel) rfl
theorem wd_669 : (Jvm.Cond.laysFinal "RopeShelfModel" "RopeShelfModel" "entryCells" "[I") ∈ tb := tb_in 669 (by decide +kernel) rfl
theorem wd_670 : (Jvm.Cond.soleField "RopeShelfModel" "entryCells") ∈ tb := tb_in 670 (by decide +kernel) rfl
theorem wd_671 : (Jvm.Cond.laysFinal "RopeShelfModel" "RopeShelfModel" "entryNumbers" "[I") ∈ tb := tb_in 671 (by decide +kernel) rfl
theorem wd_672 : (Jvm.Cond.soleField "RopeShelfModel" "entryNumbers") ∈ tb := tb_in 672 (by decide +kernel) rfl
theorem wd_673 : (Jvm.Cond.lays "RopeShelfModel" "RopeShelfModel" "entries" "I") ∈ tb := tb_in 673 (by decide +kernel) rfl
theorem wd_674 : (Jvm.Cond.soleField "RopeShelfModel" "entries") ∈ tb := tb_in 674 (by decide +kernel) rfl
theorem wd_675 : (Jvm.Cond.lays "RopeShelfModel" "RopeShelfModel" "ever" "I") ∈ tb := tb_in 675 (by decide +kernel) rfl
theorem wd_676 : (Jvm.Cond.soleField "RopeShelfModel" "ever") ∈ tb := tb_in 676 (by decide +kernel) rfl
theorem wd_677 : (Jvm.Cond.laysFinal "RopeShelfModel" "RopeShelfModel" "draft" "[I") ∈ tb := tb_in 677 (by decide +kernel) rfl
theorem wd_678 : (Jvm.Cond.soleField "RopeShelfModel" "draft") ∈ tb := tb_in 678 (by decide +kernel) rfl
theorem wd_679 : (Jvm.Cond.lays "RopeShelfModel" "RopeShelfModel" "drafted" "I") ∈ tb := tb_in 679 (by decide +kernel) rfl
theorem wd_680 : (Jvm.Cond.soleField "RopeShelfModel" "drafted") ∈ tb := tb_in 680 (by decide +kernel) rfl
theorem wd_681 : (Jvm.Cond.lays "RopeShelfModel" "RopeShelfModel" "small" "I") ∈ tb := tb_in 681 (by decide +kernel) rfl
theorem wd_682 : (Jvm.Cond.soleField "RopeShelfModel" "small") ∈ tb := tb_in 682 (by decide +kernel) rfl
theorem wd_683 : (Jvm.Cond.lays "RopeShelfModel" "RopeShelfModel" "deep" "I") ∈ tb := tb_in 683 (by decide +kernel) rfl
theorem wd_684 : (Jvm.Cond.soleField "RopeShelfModel" "deep") ∈ tb := tb_in 684 (by decide +kernel) rfl
theorem wd_685 : (Jvm.Cond.lays "RopeShelfModel" "RopeShelfModel" "loose" "I") ∈ tb := tb_in 685 (by decide +kernel) rfl
theorem wd_686 : (Jvm.Cond.soleField "RopeShelfModel" "loose") ∈ tb := tb_in 686 (by decide +kernel) rfl
theorem wd_687 : (Jvm.Cond.laysFinal "RopeShelfModel" "RopeShelfModel" "text" "[I") ∈ tb := tb_in 687 (by decide +kernel) rfl
theorem wd_688 : (Jvm.Cond.soleField "RopeShelfModel" "text") ∈ tb := tb_in 688 (by decide +kernel) rfl
theorem wd_689 : (Jvm.Cond.laysFinal "RopeShelfModel" "RopeShelfModel" "still" "[I") ∈ tb := tb_in 689 (by decide +kernel) rfl
theorem wd_690 : (Jvm.Cond.soleField "RopeShelfModel" "still") ∈ tb := tb_in 690 (by decide +kernel) rfl
theorem wd_691 : (Jvm.Cond.laysFinal "RopeShelfModel" "RopeShelfModel" "pieces" "[I") ∈ tb := tb_in 691 (by decide +kernel) rfl
theorem wd_692 : (Jvm.Cond.soleField "RopeShelfModel" "pieces") ∈ tb := tb_in 692 (by decide +kernel) rfl
theorem wd_693 : (Jvm.Cond.lays "RopeShelfModel" "RopeShelfModel" "many" "I") ∈ tb := tb_in 693 (by decide +kernel) rfl
theorem wd_694 : (Jvm.Cond.soleField "RopeShelfModel" "many") ∈ tb := tb_in 694 (by decide +kernel) rfl
theorem wd_695 : (Jvm.Cond.laysFinal "RopeShelfModel" "RopeShelfModel" "open" "[I") ∈ tb := tb_in 695 (by decide +kernel) rfl
theorem wd_696 : (Jvm.Cond.soleField "RopeShelfModel" "open") ∈ tb := tb_in 696 (by decide +kernel) rfl
theorem wd_697 : (Jvm.Cond.laysFinal "RopeShelfModel" "RopeShelfModel" "level" "[I") ∈ tb := tb_in 697 (by decide +kernel) rfl
theorem wd_698 : (Jvm.Cond.soleField "RopeShelfModel" "level") ∈ tb := tb_in 698 (by decide +kernel) rfl
theorem wd_699 : (Jvm.Cond.laysFinal "RopeShelfModel" "RopeShelfModel" "begins" "[I") ∈ tb := tb_in 699 (by decide +kernel) rfl
theorem wd_700 : (Jvm.Cond.soleField "RopeShelfModel" "begins") ∈ tb := tb_in 700 (by decide +kernel) rfl
theorem wd_701 : (Jvm.Cond.laysFinal "RopeShelfModel" "RopeShelfModel" "ends" "[I") ∈ tb := tb_in 701 (by decide +kernel) rfl
theorem wd_702 : (Jvm.Cond.soleField "RopeShelfModel" "ends") ∈ tb := tb_in 702 (by decide +kernel) rfl
theorem wd_703 : (Jvm.Cond.laysFinal "RopeShelfModel" "RopeShelfModel" "isHalved" "[Z") ∈ tb := tb_in 703 (by decide +kernel) rfl
theorem wd_704 : (Jvm.Cond.soleField "RopeShelfModel" "isHalved") ∈ tb := tb_in 704 (by decide +kernel) rfl
theorem wd_705 : (Jvm.Cond.laysFinal "RopeShelfModel" "RopeShelfModel" "done" "[I") ∈ tb := tb_in 705 (by decide +kernel) rfl
theorem wd_706 : (Jvm.Cond.soleField "RopeShelfModel" "done") ∈ tb := tb_in 706 (by decide +kernel) rfl
theorem wd_707 : (Jvm.Cond.lays "RopeShelfModel" "RopeShelfModel" "ranges" "I") ∈ tb := tb_in 707 (by decide +kernel) rfl
theorem wd_708 : (Jvm.Cond.soleField "RopeShelfModel" "ranges") ∈ tb := tb_in 708 (by decide +kernel) rfl
theorem wd_709 : (Jvm.Cond.laysFinal "RopeShelfModel" "RopeShelfModel" "cutCell" "[I") ∈ tb := tb_in 709 (by decide +kernel) rfl
theorem wd_710 : (Jvm.Cond.soleField "RopeShelfModel" "cutCell") ∈ tb := tb_in 710 (by decide +kernel) rfl
theorem wd_711 : (Jvm.Cond.laysFinal "RopeShelfModel" "RopeShelfModel" "cutFrom" "[I") ∈ tb := tb_in 711 (by decide +kernel) rfl
theorem wd_712 : (Jvm.Cond.soleField "RopeShelfModel" "cutFrom") ∈ tb := tb_in 712 (by decide +kernel) rfl
theorem wd_713 : (Jvm.Cond.laysFinal "RopeShelfModel" "RopeShelfModel" "cutSize" "[I") ∈ tb := tb_in 713 (by decide +kernel) rfl
theorem wd_714 : (Jvm.Cond.soleField "RopeShelfModel" "cutSize") ∈ tb := tb_in 714 (by decide +kernel) rfl
theorem wd_715 : (Jvm.Cond.lays "RopeShelfModel" "RopeShelfModel" "cuts" "I") ∈ tb := tb_in 715 (by decide +kernel) rfl
theorem wd_716 : (Jvm.Cond.soleField "RopeShelfModel" "cuts") ∈ tb := tb_in 716 (by decide +kernel) rfl
theorem wd_717 : (Jvm.Cond.laysFinal "RopeShelfModel" "RopeShelfModel" "parts" "[I") ∈ tb := tb_in 717 (by decide +kernel) rfl
theorem wd_718 : (Jvm.Cond.soleField "RopeShelfModel" "parts") ∈ tb := tb_in 718 (by decide +kernel) rfl
theorem wd_719 : (Jvm.Cond.lays "RopeShelfModel" "RopeShelfModel" "own" "I") ∈ tb := tb_in 719 (by decide +kernel) rfl
theorem wd_720 : (Jvm.Cond.soleField "RopeShelfModel" "own") ∈ tb := tb_in 720 (by decide +kernel) rfl
theorem wd_721 : (Jvm.Cond.lays "RopeShelfModel" "RopeShelfModel" "theirs" "I") ∈ tb := tb_in 721 (by decide +kernel) rfl
theorem wd_722 : (Jvm.Cond.soleField "RopeShelfModel" "theirs") ∈ tb := tb_in 722 (by decide +kernel) rfl
theorem wd_724 : (Jvm.Cond.arrayClass Jvm.ClassFile.FieldType.boolean) ∈ tb := tb_in 724 (by decide +kernel) rfl
theorem wd_725 : (Jvm.Cond.methodLink "RopeShelfLaw" (17 : Nat) ({ cls := "RopeShelfModel", name := "rule", desc := "(II)I" } : Jvm.MethodName)) ∈ tb := tb_in 725 (by decide +kernel) rfl
theorem wd_726 : (Jvm.Cond.instanceMethod ({ cls := "RopeShelfModel", name := "rule", desc := "(II)I" } : Jvm.MethodName)) ∈ tb := tb_in 726 (by decide +kernel) rfl
theorem wd_727 : (Jvm.Cond.selects "RopeShelfModel" ({ cls := "RopeShelfModel", name := "rule", desc := "(II)I" } : Jvm.MethodName) ({ cls := "RopeShelfModel", name := "rule", desc := "(II)I" } : Jvm.MethodName)) ∈ tb := tb_in 727 (by decide +kernel) rfl
theorem wd_728 : (Jvm.Cond.code ({ cls := "RopeShelfModel", name := "rule", desc := "(II)I" } : Jvm.MethodName) prog_9_method_22_code (4 : Nat) (Option.some Jvm.ClassFile.FieldType.int)) ∈ tb := tb_in 728 (by decide +kernel) rfl
theorem wd_729 : (Jvm.Cond.methodLink "RopeShelfModel" (104 : Nat) ({ cls := "RopeShelfModel", name := "in", desc := "(III)Z" } : Jvm.MethodName)) ∈ tb := tb_in 729 (by decide +kernel) rfl
theorem wd_730 : (Jvm.Cond.static ({ cls := "RopeShelfModel", name := "in", desc := "(III)Z" } : Jvm.MethodName)) ∈ tb := tb_in 730 (by decide +kernel) rfl
theorem wd_731 : (Jvm.Cond.code ({ cls := "RopeShelfModel", name := "in", desc := "(III)Z" } : Jvm.MethodName) prog_9_method_2_code (3 : Nat) (Option.some Jvm.ClassFile.FieldType.boolean)) ∈ tb := tb_in 731 (by decide +kernel) rfl
theorem wd_732 : (Jvm.Cond.methodLink "RopeShelfLaw" (22 : Nat) ({ cls := "RopeShelfModel", name := "say", desc := "(I)I" } : Jvm.MethodName)) ∈ tb := tb_in 732 (by decide +kernel) rfl
theorem wd_733 : (Jvm.Cond.instanceMethod ({ cls := "RopeShelfModel", name := "say", desc := "(I)I" } : Jvm.MethodName)) ∈ tb := tb_in 733 (by decide +kernel) rfl
theorem wd_734 : (Jvm.Cond.selects "RopeShelfModel" ({ cls := "RopeShelfModel", name := "say", desc := "(I)I" } : Jvm.MethodName) ({ cls := "RopeShelfModel", name := "say", desc := "(I)I" } : Jvm.MethodName)) ∈ tb := tb_in 734 (by decide +kernel) rfl
theorem wd_735 : (Jvm.Cond.code ({ cls := "RopeShelfModel", name := "say", desc := "(I)I" } : Jvm.MethodName) prog_9_method_23_code (2 : Nat) (Option.some Jvm.ClassFile.FieldType.int)) ∈ tb := tb_in 735 (by decide +kernel) rfl
theorem wd_736 : (Jvm.Cond.methodLink "RopeShelfLaw" (26 : Nat) ({ cls := "RopeShelfModel", name := "put", desc := "(I)I" } : Jvm.MethodName)) ∈ tb := tb_in 736 (by decide +kernel) rfl
theorem wd_737 : (Jvm.Cond.instanceMethod ({ cls := "RopeShelfModel", name := "put", desc := "(I)I" } : Jvm.MethodName)) ∈ tb := tb_in 737 (by decide +kernel) rfl
theorem wd_738 : (Jvm.Cond.selects "RopeShelfModel" ({ cls := "RopeShelfModel", name := "put", desc := "(I)I" } : Jvm.MethodName) ({ cls := "RopeShelfModel", name := "put", desc := "(I)I" } : Jvm.MethodName)) ∈ tb := tb_in 738 (by decide +kernel) rfl
theorem wd_739 : (Jvm.Cond.code ({ cls := "RopeShelfModel", name := "put", desc := "(I)I" } : Jvm.MethodName) prog_9_method_24_code (3 : Nat) (Option.some Jvm.ClassFile.FieldType.int)) ∈ tb := tb_in 739 (by decide +kernel) rfl
theorem wd_740 : (Jvm.Cond.methodLink "RopeShelfModel" (181 : Nat) ({ cls := "RopeShelfModel", name := "isSlot", desc := "(I)Z" } : Jvm.MethodName)) ∈ tb := tb_in 740 (by decide +kernel) rfl
theorem wd_741 : (Jvm.Cond.static ({ cls := "RopeShelfModel", name := "isSlot", desc := "(I)Z" } : Jvm.MethodName)) ∈ tb := tb_in 741 (by decide +kernel) rfl
theorem wd_742 : (Jvm.Cond.code ({ cls := "RopeShelfModel", name := "isSlot", desc := "(I)Z" } : Jvm.MethodName) prog_9_method_3_code (1 : Nat) (Option.some Jvm.ClassFile.FieldType.boolean)) ∈ tb := tb_in 742 (by decide +kernel) rfl
theorem wd_743 : (Jvm.Cond.methodLink "RopeShelfModel" (185 : Nat) ({ cls := "RopeShelfModel", name := "makeRoom", desc := "()V" } : Jvm.MethodName)) ∈ tb := tb_in 743 (by decide +kernel) rfl
theorem wd_745 : (Jvm.Cond.instanceMethod ({ cls := "RopeShelfModel", name := "makeRoom", desc := "()V" } : Jvm.MethodName)) ∈ tb := tb_in 745 (by decide +kernel) rfl
theorem wd_746 : (Jvm.Cond.code ({ cls := "RopeShelfModel", name := "makeRoom", desc := "()V" } : Jvm.MethodName) prog_9_method_11_code (3 : Nat) (Option.none : Option Jvm.ClassFile.FieldType)) ∈ tb := tb_in 746 (by decide +kernel) rfl
theorem wd_747 : (Jvm.Cond.constant "RopeShelfModel" (122 : Nat) (76720 : Int32)) ∈ tb := tb_in 747 (by decide +kernel) rfl
theorem wd_748 : (Jvm.Cond.methodLink "RopeShelfModel" (123 : Nat) ({ cls := "RopeShelfModel", name := "clearMarks", desc := "()V" } : Jvm.MethodName)) ∈ tb := tb_in 748 (by decide +kernel) rfl
theorem wd_750 : (Jvm.Cond.instanceMethod ({ cls := "RopeShelfModel", name := "clearMarks", desc := "()V" } : Jvm.MethodName)) ∈ tb := tb_in 750 (by decide +kernel) rfl
theorem wd_751 : (Jvm.Cond.code ({ cls := "RopeShelfModel", name := "clearMarks", desc := "()V" } : Jvm.MethodName) prog_9_method_8_code (2 : Nat) (Option.none : Option Jvm.ClassFile.FieldType)) ∈ tb := tb_in 751 (by decide +kernel) rfl
theorem wd_752 : (Jvm.Cond.methodLink "RopeShelfModel" (126 : Nat) ({ cls := "RopeShelfModel", name := "mark", desc := "(I)I" } : Jvm.MethodName)) ∈ tb := tb_in 752 (by decide +kernel) rfl
theorem wd_754 : (Jvm.Cond.instanceMethod ({ cls := "RopeShelfModel", name := "mark", desc := "(I)I" } : Jvm.MethodName)) ∈ tb := tb_in 754 (by decide +kernel) rfl
theorem wd_755 : (Jvm.Cond.code ({ cls := "RopeShelfModel", name := "mark", desc := "(I)I" } : Jvm.MethodName) prog_9_method_9_code (5 : Nat) (Option.some Jvm.ClassFile.FieldType.int)) ∈ tb := tb_in 755 (by decide +kernel) rfl
theorem wd_756 : (Jvm.Cond.methodLink "RopeShelfModel" (132 : Nat) ({ cls := "RopeShelfModel", name := "moveUp", desc := "()V" } : Jvm.MethodName)) ∈ tb := tb_in 756 (by decide +kernel) rfl
theorem wd_758 : (Jvm.Cond.instanceMethod ({ cls := "RopeShelfModel", name := "moveUp", desc := "()V" } : Jvm.MethodName)) ∈ tb := tb_in 758 (by decide +kernel) rfl
theorem wd_759 : (Jvm.Cond.code ({ cls := "RopeShelfModel", name := "moveUp", desc := "()V" } : Jvm.MethodName) prog_9_method_10_code (6 : Nat) (Option.none : Option Jvm.ClassFile.FieldType)) ∈ tb := tb_in 759 (by decide +kernel) rfl
theorem wd_760 : (Jvm.Cond.methodLink "RopeShelfLaw" (30 : Nat) ({ cls := "RopeShelfModel", name := "copy", desc := "(II)I" } : Jvm.MethodName)) ∈ tb := tb_in 760 (by decide +kernel) rfl
theorem wd_761 : (Jvm.Cond.instanceMethod ({ cls := "RopeShelfModel", name := "copy", desc := "(II)I" } : Jvm.MethodName)) ∈ tb := tb_in 761 (by decide +kernel) rfl
theorem wd_762 : (Jvm.Cond.selects "RopeShelfModel" ({ cls := "RopeShelfModel", name := "copy", desc := "(II)I" } : Jvm.MethodName) ({ cls := "RopeShelfModel", name := "copy", desc := "(II)I" } : Jvm.MethodName)) ∈ tb := tb_in 762 (by decide +kernel) rfl
theorem wd_763 : (Jvm.Cond.code ({ cls := "RopeShelfModel", name := "copy", desc := "(II)I" } : Jvm.MethodName) prog_9_method_25_code (3 : Nat) (Option.some Jvm.ClassFile.FieldType.int)) ∈ tb := tb_in 763 (by decide +kernel) rfl
theorem wd_764 : (Jvm.Cond.methodLink "RopeShelfLaw" (35 : Nat) ({ cls := "RopeShelfModel", name := "join", desc := "(III)I" } : Jvm.MethodName)) ∈ tb := tb_in 764 (by decide +kernel) rfl
theorem wd_765 : (Jvm.Cond.instanceMethod ({ cls := "RopeShelfModel", name := "join", desc := "(III)I" } : Jvm.MethodName)) ∈ tb := tb_in 765 (by decide +kernel) rfl
theorem wd_766 : (Jvm.Cond.selects "RopeShelfModel" ({ cls := "RopeShelfModel", name := "join", desc := "(III)I" } : Jvm.MethodName) ({ cls := "RopeShelfModel", name := "join", desc := "(III)I" } : Jvm.MethodName)) ∈ tb := tb_in 766 (by decide +kernel) rfl
theorem wd_767 : (Jvm.Cond.code ({ cls := "RopeShelfModel", name := "join", desc := "(III)I" } : Jvm.MethodName) prog_9_method_26_code (4 : Nat) (Option.some Jvm.ClassFile.FieldType.int)) ∈ tb := tb_in 767 (by decide +kernel) rfl
theorem wd_768 : (Jvm.Cond.methodLink "RopeShelfModel" (172 : Nat) ({ cls := "RopeShelfModel", name := "joined", desc := "(II)I" } : Jvm.MethodName)) ∈ tb := tb_in 768 (by decide +kernel) rfl
theorem wd_770 : (Jvm.Cond.instanceMethod ({ cls := "RopeShelfModel", name := "joined", desc := "(II)I" } : Jvm.MethodName)) ∈ tb := tb_in 770 (by decide +kernel) rfl
theorem wd_771 : (Jvm.Cond.code ({ cls := "RopeShelfModel", name := "joined", desc := "(II)I" } : Jvm.MethodName) prog_9_method_17_code (4 : Nat) (Option.some Jvm.ClassFile.FieldType.int)) ∈ tb := tb_in 771 (by decide +kernel) rfl
theorem wd_772 : (Jvm.Cond.methodLink "RopeShelfModel" (154 : Nat) ({ cls := "RopeShelfModel", name := "layText", desc := "(II)I" } : Jvm.MethodName)) ∈ tb := tb_in 772 (by decide +kernel) rfl
theorem wd_774 : (Jvm.Cond.instanceMethod ({ cls := "RopeShelfModel", name := "layText", desc := "(II)I" } : Jvm.MethodName)) ∈ tb := tb_in 774 (by decide +kernel) rfl
theorem wd_775 : (Jvm.Cond.code ({ cls := "RopeShelfModel", name := "layText", desc := "(II)I" } : Jvm.MethodName) prog_9_method_14_code (6 : Nat) (Option.some Jvm.ClassFile.FieldType.int)) ∈ tb := tb_in 775 (by decide +kernel) rfl
theorem wd_776 : (Jvm.Cond.methodLink "RopeShelfModel" (138 : Nat) ({ cls := "RopeShelfModel", name := "layPieces", desc := "(I)I" } : Jvm.MethodName)) ∈ tb := tb_in 776 (by decide +kernel) rfl
theorem wd_778 : (Jvm.Cond.instanceMethod ({ cls := "RopeShelfModel", name := "layPieces", desc := "(I)I" } : Jvm.MethodName)) ∈ tb := tb_in 778 (by decide +kernel) rfl
theorem wd_779 : (Jvm.Cond.code ({ cls := "RopeShelfModel", name := "layPieces", desc := "(I)I" } : Jvm.MethodName) prog_9_method_12_code (6 : Nat) (Option.some Jvm.ClassFile.FieldType.int)) ∈ tb := tb_in 779 (by decide +kernel) rfl
theorem wd_780 : (Jvm.Cond.methodLink "RopeShelfModel" (141 : Nat) ({ cls := "RopeShelfModel", name := "signOf", desc := "(II)I" } : Jvm.MethodName)) ∈ tb := tb_in 780 (by decide +kernel) rfl
theorem wd_782 : (Jvm.Cond.instanceMethod ({ cls := "RopeShelfModel", name := "signOf", desc := "(II)I" } : Jvm.MethodName)) ∈ tb := tb_in 782 (by decide +kernel) rfl
theorem wd_783 : (Jvm.Cond.code ({ cls := "RopeShelfModel", name := "signOf", desc := "(II)I" } : Jvm.MethodName) prog_9_method_13_code (3 : Nat) (Option.some Jvm.ClassFile.FieldType.int)) ∈ tb := tb_in 783 (by decide +kernel) rfl
theorem wd_784 : (Jvm.Cond.methodLink "RopeShelfModel" (151 : Nat) ({ cls := "RopeShelfModel", name := "newJoin", desc := "(II)I" } : Jvm.MethodName)) ∈ tb := tb_in 784 (by decide +kernel) rfl
theorem wd_786 : (Jvm.Cond.instanceMethod ({ cls := "RopeShelfModel", name := "newJoin", desc := "(II)I" } : Jvm.MethodName)) ∈ tb := tb_in 786 (by decide +kernel) rfl
theorem wd_787 : (Jvm.Cond.code ({ cls := "RopeShelfModel", name := "newJoin", desc := "(II)I" } : Jvm.MethodName) prog_9_method_7_code (3 : Nat) (Option.some Jvm.ClassFile.FieldType.int)) ∈ tb := tb_in 787 (by decide +kernel) rfl
theorem wd_788 : (Jvm.Cond.methodLink "RopeShelfModel" (157 : Nat) ({ cls := "RopeShelfModel", name := "balanced", desc := "()I" } : Jvm.MethodName)) ∈ tb := tb_in 788 (by decide +kernel) rfl
theorem wd_790 : (Jvm.Cond.instanceMethod ({ cls := "RopeShelfModel", name := "balanced", desc := "()I" } : Jvm.MethodName)) ∈ tb := tb_in 790 (by decide +kernel) rfl
theorem wd_791 : (Jvm.Cond.code ({ cls := "RopeShelfModel", name := "balanced", desc := "()I" } : Jvm.MethodName) prog_9_method_16_code (5 : Nat) (Option.some Jvm.ClassFile.FieldType.int)) ∈ tb := tb_in 791 (by decide +kernel) rfl
theorem wd_792 : (Jvm.Cond.methodLink "RopeShelfModel" (147 : Nat) ({ cls := "RopeShelfModel", name := "push", desc := "(IIZ)V" } : Jvm.MethodName)) ∈ tb := tb_in 792 (by decide +kernel) rfl
theorem wd_794 : (Jvm.Cond.instanceMethod ({ cls := "RopeShelfModel", name := "push", desc := "(IIZ)V" } : Jvm.MethodName)) ∈ tb := tb_in 794 (by decide +kernel) rfl
theorem wd_795 : (Jvm.Cond.code ({ cls := "RopeShelfModel", name := "push", desc := "(IIZ)V" } : Jvm.MethodName) prog_9_method_15_code (4 : Nat) (Option.none : Option Jvm.ClassFile.FieldType)) ∈ tb := tb_in 795 (by decide +kernel) rfl
theorem wd_796 : (Jvm.Cond.methodLink "RopeShelfLaw" (40 : Nat) ({ cls := "RopeShelfModel", name := "cut", desc := "(IIII)I" } : Jvm.MethodName)) ∈ tb := tb_in 796 (by decide +kernel) rfl
theorem wd_797 : (Jvm.Cond.instanceMethod ({ cls := "RopeShelfModel", name := "cut", desc := "(IIII)I" } : Jvm.MethodName)) ∈ tb := tb_in 797 (by decide +kernel) rfl
theorem wd_798 : (Jvm.Cond.selects "RopeShelfModel" ({ cls := "RopeShelfModel", name := "cut", desc := "(IIII)I" } : Jvm.MethodName) ({ cls := "RopeShelfModel", name := "cut", desc := "(IIII)I" } : Jvm.MethodName)) ∈ tb := tb_in 798 (by decide +kernel) rfl
theorem wd_799 : (Jvm.Cond.code ({ cls := "RopeShelfModel", name := "cut", desc := "(IIII)I" } : Jvm.MethodName) prog_9_method_27_code (6 : Nat) (Option.some Jvm.ClassFile.FieldType.int)) ∈ tb := tb_in 799 (by decide +kernel) rfl
theorem wd_800 : (Jvm.Cond.methodLink "RopeShelfModel" (188 : Nat) ({ cls := "RopeShelfModel", name := "cutOut", desc := "(III)I" } : Jvm.MethodName)) ∈ tb := tb_in 800 (by decide +kernel) rfl
theorem wd_802 : (Jvm.Cond.instanceMethod ({ cls := "RopeShelfModel", name := "cutOut", desc := "(III)I" } : Jvm.MethodName)) ∈ tb := tb_in 802 (by decide +kernel) rfl
theorem wd_803 : (Jvm.Cond.code ({ cls := "RopeShelfModel", name := "cutOut", desc := "(III)I" } : Jvm.MethodName) prog_9_method_21_code (5 : Nat) (Option.some Jvm.ClassFile.FieldType.int)) ∈ tb := tb_in 803 (by decide +kernel) rfl
theorem wd_804 : (Jvm.Cond.methodLink "RopeShelfModel" (168 : Nat) ({ cls := "RopeShelfModel", name := "toCut", desc := "(III)V" } : Jvm.MethodName)) ∈ tb := tb_in 804 (by decide +kernel) rfl
theorem wd_806 : (Jvm.Cond.instanceMethod ({ cls := "RopeShelfModel", name := "toCut", desc := "(III)V" } : Jvm.MethodName)) ∈ tb := tb_in 806 (by decide +kernel) rfl
theorem wd_807 : (Jvm.Cond.code ({ cls := "RopeShelfModel", name := "toCut", desc := "(III)V" } : Jvm.MethodName) prog_9_method_18_code (4 : Nat) (Option.none : Option Jvm.ClassFile.FieldType)) ∈ tb := tb_in 807 (by decide +kernel) rfl
theorem wd_808 : (Jvm.Cond.methodLink "RopeShelfModel" (175 : Nat) ({ cls := "RopeShelfModel", name := "cutOne", desc := "(IIII)I" } : Jvm.MethodName)) ∈ tb := tb_in 808 (by decide +kernel) rfl
theorem wd_810 : (Jvm.Cond.instanceMethod ({ cls := "RopeShelfModel", name := "cutOne", desc := "(IIII)I" } : Jvm.MethodName)) ∈ tb := tb_in 810 (by decide +kernel) rfl
theorem wd_811 : (Jvm.Cond.code ({ cls := "RopeShelfModel", name := "cutOne", desc := "(IIII)I" } : Jvm.MethodName) prog_9_method_20_code (6 : Nat) (Option.some Jvm.ClassFile.FieldType.int)) ∈ tb := tb_in 811 (by decide +kernel) rfl
theorem wd_812 : (Jvm.Cond.methodLink "RopeShelfModel" (164 : Nat) ({ cls := "RopeShelfModel", name := "cutLeaf", desc := "(III)I" } : Jvm.MethodName)) ∈ tb := tb_in 812 (by decide +kernel) rfl
theorem wd_814 : (Jvm.Cond.instanceMethod ({ cls := "RopeShelfModel", name := "cutLeaf", desc := "(III)I" } : Jvm.MethodName)) ∈ tb := tb_in 814 (by decide +kernel) rfl
theorem wd_815 : (Jvm.Cond.code ({ cls := "RopeShelfModel", name := "cutLeaf", desc := "(III)I" } : Jvm.MethodName) prog_9_method_19_code (5 : Nat) (Option.some Jvm.ClassFile.FieldType.int)) ∈ tb := tb_in 815 (by decide +kernel) rfl
theorem wd_816 : (Jvm.Cond.methodLink "RopeShelfLaw" (44 : Nat) ({ cls := "RopeShelfModel", name := "flat", desc := "(I)I" } : Jvm.MethodName)) ∈ tb := tb_in 816 (by decide +kernel) rfl
theorem wd_817 : (Jvm.Cond.instanceMethod ({ cls := "RopeShelfModel", name := "flat", desc := "(I)I" } : Jvm.MethodName)) ∈ tb := tb_in 817 (by decide +kernel) rfl
theorem wd_818 : (Jvm.Cond.selects "RopeShelfModel" ({ cls := "RopeShelfModel", name := "flat", desc := "(I)I" } : Jvm.MethodName) ({ cls := "RopeShelfModel", name := "flat", desc := "(I)I" } : Jvm.MethodName)) ∈ tb := tb_in 818 (by decide +kernel) rfl
theorem wd_819 : (Jvm.Cond.code ({ cls := "RopeShelfModel", name := "flat", desc := "(I)I" } : Jvm.MethodName) prog_9_method_28_code (5 : Nat) (Option.some Jvm.ClassFile.FieldType.int)) ∈ tb := tb_in 819 (by decide +kernel) rfl
theorem wd_820 : (Jvm.Cond.methodLink "RopeShelfLaw" (48 : Nat) ({ cls := "RopeShelfModel", name := "sign", desc := "(II)I" } : Jvm.MethodName)) ∈ tb := tb_in 820 (by decide +kernel) rfl
theorem wd_821 : (Jvm.Cond.instanceMethod ({ cls := "RopeShelfModel", name := "sign", desc := "(II)I" } : Jvm.MethodName)) ∈ tb := tb_in 821 (by decide +kernel) rfl
theorem wd_822 : (Jvm.Cond.selects "RopeShelfModel" ({ cls := "RopeShelfModel", name := "sign", desc := "(II)I" } : Jvm.MethodName) ({ cls := "RopeShelfModel", name := "sign", desc := "(II)I" } : Jvm.MethodName)) ∈ tb := tb_in 822 (by decide +kernel) rfl
theorem wd_823 : (Jvm.Cond.code ({ cls := "RopeShelfModel", name := "sign", desc := "(II)I" } : Jvm.MethodName) prog_9_method_29_code (4 : Nat) (Option.some Jvm.ClassFile.FieldType.int)) ∈ tb := tb_in 823 (by decide +kernel) rfl
theorem wd_824 : (Jvm.Cond.methodLink "RopeShelfLaw" (52 : Nat) ({ cls := "RopeShelfModel", name := "hash", desc := "(I)I" } : Jvm.MethodName)) ∈ tb := tb_in 824 (by decide +kernel) rfl
theorem wd_825 : (Jvm.Cond.instanceMethod ({ cls := "RopeShelfModel", name := "hash", desc := "(I)I" } : Jvm.MethodName)) ∈ tb := tb_in 825 (by decide +kernel) rfl
theorem wd_826 : (Jvm.Cond.selects "RopeShelfModel" ({ cls := "RopeShelfModel", name := "hash", desc := "(I)I" } : Jvm.MethodName) ({ cls := "RopeShelfModel", name := "hash", desc := "(I)I" } : Jvm.MethodName)) ∈ tb := tb_in 826 (by decide +kernel) rfl
theorem wd_827 : (Jvm.Cond.code ({ cls := "RopeShelfModel", name := "hash", desc := "(I)I" } : Jvm.MethodName) prog_9_method_30_code (5 : Nat) (Option.some Jvm.ClassFile.FieldType.int)) ∈ tb := tb_in 827 (by decide +kernel) rfl
theorem wd_828 : (Jvm.Cond.methodLink "RopeShelfLaw" (56 : Nat) ({ cls := "RopeShelfModel", name := "told", desc := "(II)I" } : Jvm.MethodName)) ∈ tb := tb_in 828 (by decide +kernel) rfl
theorem wd_829 : (Jvm.Cond.instanceMethod ({ cls := "RopeShelfModel", name := "told", desc := "(II)I" } : Jvm.MethodName)) ∈ tb := tb_in 829 (by decide +kernel) rfl
theorem wd_830 : (Jvm.Cond.selects "RopeShelfModel" ({ cls := "RopeShelfModel", name := "told", desc := "(II)I" } : Jvm.MethodName) ({ cls := "RopeShelfModel", name := "told", desc := "(II)I" } : Jvm.MethodName)) ∈ tb := tb_in 830 (by decide +kernel) rfl
theorem wd_831 : (Jvm.Cond.code ({ cls := "RopeShelfModel", name := "told", desc := "(II)I" } : Jvm.MethodName) prog_9_method_34_code (4 : Nat) (Option.some Jvm.ClassFile.FieldType.int)) ∈ tb := tb_in 831 (by decide +kernel) rfl
theorem wd_832 : (Jvm.Cond.methodLink "RopeShelfModel" (194 : Nat) ({ cls := "RopeShelfModel", name := "roomOfMarked", desc := "()I" } : Jvm.MethodName)) ∈ tb := tb_in 832 (by decide +kernel) rfl
theorem wd_834 : (Jvm.Cond.instanceMethod ({ cls := "RopeShelfModel", name := "roomOfMarked", desc := "()I" } : Jvm.MethodName)) ∈ tb := tb_in 834 (by decide +kernel) rfl
theorem wd_835 : (Jvm.Cond.code ({ cls := "RopeShelfModel", name := "roomOfMarked", desc := "()I" } : Jvm.MethodName) prog_9_method_32_code (3 : Nat) (Option.some Jvm.ClassFile.FieldType.int)) ∈ tb := tb_in 835 (by decide +kernel) rfl
theorem wd_836 : (Jvm.Cond.methodLink "RopeShelfModel" (191 : Nat) ({ cls := "RopeShelfModel", name := "roomOf", desc := "(I)I" } : Jvm.MethodName)) ∈ tb := tb_in 836 (by decide +kernel) rfl
theorem wd_838 : (Jvm.Cond.instanceMethod ({ cls := "RopeShelfModel", name := "roomOf", desc := "(I)I" } : Jvm.MethodName)) ∈ tb := tb_in 838 (by decide +kernel) rfl
theorem wd_839 : (Jvm.Cond.code ({ cls := "RopeShelfModel", name := "roomOf", desc := "(I)I" } : Jvm.MethodName) prog_9_method_31_code (4 : Nat) (Option.some Jvm.ClassFile.FieldType.int)) ∈ tb := tb_in 839 (by decide +kernel) rfl
theorem wd_840 : (Jvm.Cond.methodLink "RopeShelfModel" (197 : Nat) ({ cls := "RopeShelfModel", name := "isWide", desc := "(I)Z" } : Jvm.MethodName)) ∈ tb := tb_in 840 (by decide +kernel) rfl
theorem wd_842 : (Jvm.Cond.instanceMethod ({ cls := "RopeShelfModel", name := "isWide", desc := "(I)Z" } : Jvm.MethodName)) ∈ tb := tb_in 842 (by decide +kernel) rfl
theorem wd_843 : (Jvm.Cond.code ({ cls := "RopeShelfModel", name := "isWide", desc := "(I)Z" } : Jvm.MethodName) prog_9_method_33_code (5 : Nat) (Option.some Jvm.ClassFile.FieldType.boolean)) ∈ tb := tb_in 843 (by decide +kernel) rfl
theorem wd_844 : (Jvm.Cond.methodLink "RopeShelfLaw" (60 : Nat) ({ cls := "RopeShelfModel", name := "piece", desc := "(III)I" } : Jvm.MethodName)) ∈ tb := tb_in 844 (by decide +kernel) rfl
theorem wd_845 : (Jvm.Cond.instanceMethod ({ cls := "RopeShelfModel", name := "piece", desc := "(III)I" } : Jvm.MethodName)) ∈ tb := tb_in 845 (by decide +kernel) rfl
theorem wd_846 : (Jvm.Cond.selects "RopeShelfModel" ({ cls := "RopeShelfModel", name := "piece", desc := "(III)I" } : Jvm.MethodName) ({ cls := "RopeShelfModel", name := "piece", desc := "(III)I" } : Jvm.MethodName)) ∈ tb := tb_in 846 (by decide +kernel) rfl
theorem wd_847 : (Jvm.Cond.code ({ cls := "RopeShelfModel", name := "piece", desc := "(III)I" } : Jvm.MethodName) prog_9_method_35_code (7 : Nat) (Option.some Jvm.ClassFile.FieldType.int)) ∈ tb := tb_in 847 (by decide +kernel) rfl
theorem wd_848 : (Jvm.Cond.methodLink "RopeShelfLaw" (64 : Nat) ({ cls := "RopeShelfModel", name := "alike", desc := "(III)I" } : Jvm.MethodName)) ∈ tb := tb_in 848 (by decide +kernel) rfl
theorem wd_849 : (Jvm.Cond.instanceMethod ({ cls := "RopeShelfModel", name := "alike", desc := "(III)I" } : Jvm.MethodName)) ∈ tb := tb_in 849 (by decide +kernel) rfl
theorem wd_850 : (Jvm.Cond.selects "RopeShelfModel" ({ cls := "RopeShelfModel", name := "alike", desc := "(III)I" } : Jvm.MethodName) ({ cls := "RopeShelfModel", name := "alike", desc := "(III)I" } : Jvm.MethodName)) ∈ tb := tb_in 850 (by decide +kernel) rfl
theorem wd_851 : (Jvm.Cond.code ({ cls := "RopeShelfModel", name := "alike", desc := "(III)I" } : Jvm.MethodName) prog_9_method_41_code (5 : Nat) (Option.some Jvm.ClassFile.FieldType.int)) ∈ tb := tb_in 851 (by decide +kernel) rfl
theorem wd_852 : (Jvm.Cond.methodLink "RopeShelfModel" (213 : Nat) ({ cls := "RopeShelfModel", name := "areSame", desc := "(II)Z" } : Jvm.MethodName)) ∈ tb := tb_in 852 (by decide +kernel) rfl
theorem wd_854 : (Jvm.Cond.instanceMethod ({ cls := "RopeShelfModel", name := "areSame", desc := "(II)Z" } : Jvm.MethodName)) ∈ tb := tb_in 854 (by decide +kernel) rfl
theorem wd_855 : (Jvm.Cond.code ({ cls := "RopeShelfModel", name := "areSame", desc := "(II)Z" } : Jvm.MethodName) prog_9_method_38_code (3 : Nat) (Option.some Jvm.ClassFile.FieldType.boolean)) ∈ tb := tb_in 855 (by decide +kernel) rfl
theorem wd_856 : (Jvm.Cond.methodLink "RopeShelfModel" (206 : Nat) ({ cls := "RopeShelfModel", name := "layBoth", desc := "(II)V" } : Jvm.MethodName)) ∈ tb := tb_in 856 (by decide +kernel) rfl
theorem wd_858 : (Jvm.Cond.instanceMethod ({ cls := "RopeShelfModel", name := "layBoth", desc := "(II)V" } : Jvm.MethodName)) ∈ tb := tb_in 858 (by decide +kernel) rfl
theorem wd_859 : (Jvm.Cond.code ({ cls := "RopeShelfModel", name := "layBoth", desc := "(II)V" } : Jvm.MethodName) prog_9_method_36_code (3 : Nat) (Option.none : Option Jvm.ClassFile.FieldType)) ∈ tb := tb_in 859 (by decide +kernel) rfl
theorem wd_860 : (Jvm.Cond.methodLink "RopeShelfModel" (210 : Nat) ({ cls := "RopeShelfModel", name := "alikeSigns", desc := "()I" } : Jvm.MethodName)) ∈ tb := tb_in 860 (by decide +kernel) rfl
theorem wd_862 : (Jvm.Cond.instanceMethod ({ cls := "RopeShelfModel", name := "alikeSigns", desc := "()I" } : Jvm.MethodName)) ∈ tb := tb_in 862 (by decide +kernel) rfl
theorem wd_863 : (Jvm.Cond.code ({ cls := "RopeShelfModel", name := "alikeSigns", desc := "()I" } : Jvm.MethodName) prog_9_method_37_code (2 : Nat) (Option.some Jvm.ClassFile.FieldType.int)) ∈ tb := tb_in 863 (by decide +kernel) rfl
theorem wd_864 : (Jvm.Cond.methodLink "RopeShelfModel" (217 : Nat) ({ cls := "RopeShelfModel", name := "placeIn", desc := "()I" } : Jvm.MethodName)) ∈ tb := tb_in 864 (by decide +kernel) rfl
theorem wd_866 : (Jvm.Cond.instanceMethod ({ cls := "RopeShelfModel", name := "placeIn", desc := "()I" } : Jvm.MethodName)) ∈ tb := tb_in 866 (by decide +kernel) rfl
theorem wd_867 : (Jvm.Cond.code ({ cls := "RopeShelfModel", name := "placeIn", desc := "()I" } : Jvm.MethodName) prog_9_method_39_code (3 : Nat) (Option.some Jvm.ClassFile.FieldType.int)) ∈ tb := tb_in 867 (by decide +kernel) rfl
theorem wd_868 : (Jvm.Cond.methodLink "RopeShelfModel" (220 : Nat) ({ cls := "RopeShelfModel", name := "comesFirst", desc := "()Z" } : Jvm.MethodName)) ∈ tb := tb_in 868 (by decide +kernel) rfl
theorem wd_870 : (Jvm.Cond.instanceMethod ({ cls := "RopeShelfModel", name := "comesFirst", desc := "()Z" } : Jvm.MethodName)) ∈ tb := tb_in 870 (by decide +kernel) rfl
theorem wd_871 : (Jvm.Cond.code ({ cls := "RopeShelfModel", name := "comesFirst", desc := "()Z" } : Jvm.MethodName) prog_9_method_40_code (2 : Nat) (Option.some Jvm.ClassFile.FieldType.boolean)) ∈ tb := tb_in 871 (by decide +kernel) rfl
theorem wd_872 : (Jvm.Cond.methodLink "RopeShelfLaw" (68 : Nat) ({ cls := "RopeShelfModel", name := "intern", desc := "(I)I" } : Jvm.MethodName)) ∈ tb := tb_in 872 (by decide +kernel) rfl
theorem wd_873 : (Jvm.Cond.instanceMethod ({ cls := "RopeShelfModel", name := "intern", desc := "(I)I" } : Jvm.MethodName)) ∈ tb := tb_in 873 (by decide +kernel) rfl
theorem wd_874 : (Jvm.Cond.selects "RopeShelfModel" ({ cls := "RopeShelfModel", name := "intern", desc := "(I)I" } : Jvm.MethodName) ({ cls := "RopeShelfModel", name := "intern", desc := "(I)I" } : Jvm.MethodName)) ∈ tb := tb_in 874 (by decide +kernel) rfl
theorem wd_875 : (Jvm.Cond.code ({ cls := "RopeShelfModel", name := "intern", desc := "(I)I" } : Jvm.MethodName) prog_9_method_42_code (3 : Nat) (Option.some Jvm.ClassFile.FieldType.int)) ∈ tb := tb_in 875 (by decide +kernel) rfl
theorem wd_876 : (Jvm.Cond.methodLink "RopeShelfLaw" (73 : Nat) ({ cls := "RopeShelfModel", name := "sweep", desc := "()I" } : Jvm.MethodName)) ∈ tb := tb_in 876 (by decide +kernel) rfl
theorem wd_877 : (Jvm.Cond.instanceMethod ({ cls := "RopeShelfModel", name := "sweep", desc := "()I" } : Jvm.MethodName)) ∈ tb := tb_in 877 (by decide +kernel) rfl
theorem wd_878 : (Jvm.Cond.selects "RopeShelfModel" ({ cls := "RopeShelfModel", name := "sweep", desc := "()I" } : Jvm.MethodName) ({ cls := "RopeShelfModel", name := "sweep", desc := "()I" } : Jvm.MethodName)) ∈ tb := tb_in 878 (by decide +kernel) rfl
theorem wd_879 : (Jvm.Cond.code ({ cls := "RopeShelfModel", name := "sweep", desc := "()I" } : Jvm.MethodName) prog_9_method_44_code (3 : Nat) (Option.some Jvm.ClassFile.FieldType.int)) ∈ tb := tb_in 879 (by decide +kernel) rfl
theorem wd_880 : (Jvm.Cond.methodLink "RopeShelfModel" (227 : Nat) ({ cls := "RopeShelfModel", name := "markHeld", desc := "()I" } : Jvm.MethodName)) ∈ tb := tb_in 880 (by decide +kernel) rfl
theorem wd_882 : (Jvm.Cond.instanceMethod ({ cls := "RopeShelfModel", name := "markHeld", desc := "()I" } : Jvm.MethodName)) ∈ tb := tb_in 882 (by decide +kernel) rfl
theorem wd_883 : (Jvm.Cond.code ({ cls := "RopeShelfModel", name := "markHeld", desc := "()I" } : Jvm.MethodName) prog_9_method_43_code (3 : Nat) (Option.some Jvm.ClassFile.FieldType.int)) ∈ tb := tb_in 883 (by decide +kernel) rfl
theorem wd_884 : (Jvm.Cond.methodLink "RopeShelfLaw" (77 : Nat) ({ cls := "RopeShelfModel", name := "entry", desc := "(II)I" } : Jvm.MethodName)) ∈ tb := tb_in 884 (by decide +kernel) rfl
theorem wd_885 : (Jvm.Cond.instanceMethod ({ cls := "RopeShelfModel", name := "entry", desc := "(II)I" } : Jvm.MethodName)) ∈ tb := tb_in 885 (by decide +kernel) rfl
theorem wd_886 : (Jvm.Cond.selects "RopeShelfModel" ({ cls := "RopeShelfModel", name := "entry", desc := "(II)I" } : Jvm.MethodName) ({ cls := "RopeShelfModel", name := "entry", desc := "(II)I" } : Jvm.MethodName)) ∈ tb := tb_in 886 (by decide +kernel) rfl
theorem wd_887 : (Jvm.Cond.code ({ cls := "RopeShelfModel", name := "entry", desc := "(II)I" } : Jvm.MethodName) prog_9_method_45_code (5 : Nat) (Option.some Jvm.ClassFile.FieldType.int)) ∈ tb := tb_in 887 (by decide +kernel) rfl
theorem wd_888 : (Jvm.Cond.methodLink "RopeShelfLaw" (81 : Nat) ({ cls := "RopeShelfModel", name := "count", desc := "(I)I" } : Jvm.MethodName)) ∈ tb := tb_in 888 (by decide +kernel) rfl
theorem wd_889 : (Jvm.Cond.instanceMethod ({ cls := "RopeShelfModel", name := "count", desc := "(I)I" } : Jvm.MethodName)) ∈ tb := tb_in 889 (by decide +kernel) rfl
theorem wd_890 : (Jvm.Cond.selects "RopeShelfModel" ({ cls := "RopeShelfModel", name := "count", desc := "(I)I" } : Jvm.MethodName) ({ cls := "RopeShelfModel", name := "count", desc := "(I)I" } : Jvm.MethodName)) ∈ tb := tb_in 890 (by decide +kernel) rfl
theorem wd_891 : (Jvm.Cond.code ({ cls := "RopeShelfModel", name := "count", desc := "(I)I" } : Jvm.MethodName) prog_9_method_46_code (2 : Nat) (Option.some Jvm.ClassFile.FieldType.int)) ∈ tb := tb_in 891 (by decide +kernel) rfl
theorem wd_892 : (Jvm.Cond.methodLink "RopeShelfLaw" (85 : Nat) ({ cls := "RopeShelfModel", name := "image", desc := "(I)I" } : Jvm.MethodName)) ∈ tb := tb_in 892 (by decide +kernel) rfl
theorem wd_893 : (Jvm.Cond.instanceMethod ({ cls := "RopeShelfModel", name := "image", desc := "(I)I" } : Jvm.MethodName)) ∈ tb := tb_in 893 (by decide +kernel) rfl
theorem wd_894 : (Jvm.Cond.selects "RopeShelfModel" ({ cls := "RopeShelfModel", name := "image", desc := "(I)I" } : Jvm.MethodName) ({ cls := "RopeShelfModel", name := "image", desc := "(I)I" } : Jvm.MethodName)) ∈ tb := tb_in 894 (by decide +kernel) rfl
theorem wd_895 : (Jvm.Cond.code ({ cls := "RopeShelfModel", name := "image", desc := "(I)I" } : Jvm.MethodName) prog_9_method_47_code (3 : Nat) (Option.some Jvm.ClassFile.FieldType.int)) ∈ tb := tb_in 895 (by decide +kernel) rfl
theorem wd_896 : (Jvm.Cond.methodLink "RopeShelfLaw" (89 : Nat) ({ cls := "RopeShelfModel", name := "restore", desc := "(I)I" } : Jvm.MethodName)) ∈ tb := tb_in 896 (by decide +kernel) rfl
theorem wd_897 : (Jvm.Cond.instanceMethod ({ cls := "RopeShelfModel", name := "restore", desc := "(I)I" } : Jvm.MethodName)) ∈ tb := tb_in 897 (by decide +kernel) rfl
theorem wd_898 : (Jvm.Cond.selects "RopeShelfModel" ({ cls := "RopeShelfModel", name := "restore", desc := "(I)I" } : Jvm.MethodName) ({ cls := "RopeShelfModel", name := "restore", desc := "(I)I" } : Jvm.MethodName)) ∈ tb := tb_in 898 (by decide +kernel) rfl
theorem wd_899 : (Jvm.Cond.code ({ cls := "RopeShelfModel", name := "restore", desc := "(I)I" } : Jvm.MethodName) prog_9_method_48_code (3 : Nat) (Option.some Jvm.ClassFile.FieldType.int)) ∈ tb := tb_in 899 (by decide +kernel) rfl
theorem wd_0 : Cond.selects "RopeShelf" ⟨"RopeShelf", "hold", "(ILRopeShelf$Cell;)I"⟩ ⟨"RopeShelf", "hold", "(ILRopeShelf$Cell;)I"⟩ ∈ tb := tb_in 0 (by decide +kernel) rfl
theorem wd_1 : Cond.selects "RopeShelf" ⟨"RopeShelf", "cellOf", "(I)LRopeShelf$Cell;"⟩ ⟨"RopeShelf", "cellOf", "(I)LRopeShelf$Cell;"⟩ ∈ tb := tb_in 1 (by decide +kernel) rfl
theorem wd_2 : Cond.selects "RopeShelf$Weaver" ⟨"RopeShelf$Weaver", "joined", "(LRopeShelf$Cell;LRopeShelf$Cell;)LRopeShelf$Cell;"⟩ ⟨"RopeShelf$Weaver", "joined", "(LRopeShelf$Cell;LRopeShelf$Cell;)LRopeShelf$Cell;"⟩ ∈ tb := tb_in 2 (by decide +kernel) rfl
theorem wd_3 : Cond.selects "RopeShelf$Text" ⟨"RopeShelf$Text", "addCell", "(LRopeShelf$Cell;I)V"⟩ ⟨"RopeShelf$Text", "addCell", "(LRopeShelf$Cell;I)V"⟩ ∈ tb := tb_in 3 (by decide +kernel) rfl
theorem wd_4 : Cond.selects "RopeShelf$Text" ⟨"RopeShelf$Text", "addSigns", "(LRopeShelf$Cell;II)V"⟩ ⟨"RopeShelf$Text", "addSigns", "(LRopeShelf$Cell;II)V"⟩ ∈ tb := tb_in 4 (by decide +kernel) rfl
theorem wd_5 : Cond.selects "RopeShelf$Weaver" ⟨"RopeShelf$Weaver", "newJoin", "(LRopeShelf$Cell;LRopeShelf$Cell;)LRopeShelf$Cell;"⟩ ⟨"RopeShelf$Weaver", "newJoin", "(LRopeShelf$Cell;LRopeShelf$Cell;)LRopeShelf$Cell;"⟩ ∈ tb := tb_in 5 (by decide +kernel) rfl
theorem wd_6 : Cond.selects "RopeShelf$Pieces" ⟨"RopeShelf$Pieces", "addPieces", "(LRopeShelf$Cell;I)V"⟩ ⟨"RopeShelf$Pieces", "addPieces", "(LRopeShelf$Cell;I)V"⟩ ∈ tb := tb_in 6 (by decide +kernel) rfl
theorem wd_7 : Cond.selects "RopeShelf$Weaver" ⟨"RopeShelf$Weaver", "release", "(LRopeShelf$Cell;I)V"⟩ ⟨"RopeShelf$Weaver", "release", "(LRopeShelf$Cell;I)V"⟩ ∈ tb := tb_in 7 (by decide +kernel) rfl
theorem wd_8 : Cond.selects "RopeShelf$Weaver" ⟨"RopeShelf$Weaver", "balanced", "(III)LRopeShelf$Cell;"⟩ ⟨"RopeShelf$Weaver", "balanced", "(III)LRopeShelf$Cell;"⟩ ∈ tb := tb_in 8 (by decide +kernel) rfl
theorem wd_9 : Cond.selects "RopeShelf$Weaver" ⟨"RopeShelf$Weaver", "cutOut", "(LRopeShelf$Cell;III)LRopeShelf$Cell;"⟩ ⟨"RopeShelf$Weaver", "cutOut", "(LRopeShelf$Cell;III)LRopeShelf$Cell;"⟩ ∈ tb := tb_in 9 (by decide +kernel) rfl
theorem wd_10 : Cond.selects "RopeShelf$Weaver" ⟨"RopeShelf$Weaver", "cutOutOfJoin", "(LRopeShelf$Cell;III)LRopeShelf$Cell;"⟩ ⟨"RopeShelf$Weaver", "cutOutOfJoin", "(LRopeShelf$Cell;III)LRopeShelf$Cell;"⟩ ∈ tb := tb_in 10 (by decide +kernel) rfl
theorem wd_11 : Cond.selects "RopeShelf$Weaver" ⟨"RopeShelf$Weaver", "cutOutOfLeaf", "(LRopeShelf$Cell;II)LRopeShelf$Cell;"⟩ ⟨"RopeShelf$Weaver", "cutOutOfLeaf", "(LRopeShelf$Cell;II)LRopeShelf$Cell;"⟩ ∈ tb := tb_in 11 (by decide +kernel) rfl
theorem wd_12 : Cond.selects "RopeShelf$Walk" ⟨"RopeShelf$Walk", "begin", "()V"⟩ ⟨"RopeShelf$Walk", "begin", "()V"⟩ ∈ tb := tb_in 12 (by decide +kernel) rfl
theorem wd_13 : Cond.selects "RopeShelf$Walk" ⟨"RopeShelf$Walk", "visit", "(LRopeShelf$Cell;I)V"⟩ ⟨"RopeShelf$Walk", "visit", "(LRopeShelf$Cell;I)V"⟩ ∈ tb := tb_in 13 (by decide +kernel) rfl
theorem wd_14 : Cond.selects "RopeShelf$Cell" ⟨"RopeShelf$Cell", "hasWideSign", "()Z"⟩ ⟨"RopeShelf$Cell", "hasWideSign", "()Z"⟩ ∈ tb := tb_in 14 (by decide +kernel) rfl
theorem wd_15 : Cond.selects "RopeShelf" ⟨"RopeShelf", "compareTexts", "(I)I"⟩ ⟨"RopeShelf", "compareTexts", "(I)I"⟩ ∈ tb := tb_in 15 (by decide +kernel) rfl
theorem wd_16 : Cond.selects "RopeShelf$Text" ⟨"RopeShelf$Text", "hasAt", "(ILRopeShelf$Text;)Z"⟩ ⟨"RopeShelf$Text", "hasAt", "(ILRopeShelf$Text;)Z"⟩ ∈ tb := tb_in 16 (by decide +kernel) rfl
theorem wd_17 : Cond.selects "RopeShelf" ⟨"RopeShelf", "placeInTable", "(LRopeShelf$Cell;)I"⟩ ⟨"RopeShelf", "placeInTable", "(LRopeShelf$Cell;)I"⟩ ∈ tb := tb_in 17 (by decide +kernel) rfl
theorem wd_18 : Cond.selects "RopeShelf$Table" ⟨"RopeShelf$Table", "place", "(LRopeShelf$Cell;I)V"⟩ ⟨"RopeShelf$Table", "place", "(LRopeShelf$Cell;I)V"⟩ ∈ tb := tb_in 18 (by decide +kernel) rfl
theorem wd_19 : Cond.selects "RopeShelf" ⟨"RopeShelf", "slotsWith", "(LRopeShelf$Cell;)I"⟩ ⟨"RopeShelf", "slotsWith", "(LRopeShelf$Cell;)I"⟩ ∈ tb := tb_in 19 (by decide +kernel) rfl
theorem wd_20 : Cond.selects "RopeShelf" ⟨"RopeShelf", "imageRow", "(I)[LRopeShelf$Cell;"⟩ ⟨"RopeShelf", "imageRow", "(I)[LRopeShelf$Cell;"⟩ ∈ tb := tb_in 20 (by decide +kernel) rfl
theorem wd_21 : Cond.selects "RopeShelfModel" ⟨"RopeShelfModel", "newLeaf", "(I)I"⟩ ⟨"RopeShelfModel", "newLeaf", "(I)I"⟩ ∈ tb := tb_in 21 (by decide +kernel) rfl
theorem wd_22 : Cond.selects "RopeShelfModel" ⟨"RopeShelfModel", "newCell", "(IIII)I"⟩ ⟨"RopeShelfModel", "newCell", "(IIII)I"⟩ ∈ tb := tb_in 22 (by decide +kernel) rfl
theorem wd_23 : Cond.selects "RopeShelfModel" ⟨"RopeShelfModel", "keepText", "(II)I"⟩ ⟨"RopeShelfModel", "keepText", "(II)I"⟩ ∈ tb := tb_in 23 (by decide +kernel) rfl
theorem wd_24 : Cond.selects "RopeShelfModel" ⟨"RopeShelfModel", "makeRoom", "()V"⟩ ⟨"RopeShelfModel", "makeRoom", "()V"⟩ ∈ tb := tb_in 24 (by decide +kernel) rfl
theorem wd_25 : Cond.selects "RopeShelfModel" ⟨"RopeShelfModel", "clearMarks", "()V"⟩ ⟨"RopeShelfModel", "clearMarks", "()V"⟩ ∈ tb := tb_in 25 (by decide +kernel) rfl
theorem wd_26 : Cond.selects "RopeShelfModel" ⟨"RopeShelfModel", "mark", "(I)I"⟩ ⟨"RopeShelfModel", "mark", "(I)I"⟩ ∈ tb := tb_in 26 (by decide +kernel) rfl
theorem wd_27 : Cond.selects "RopeShelfModel" ⟨"RopeShelfModel", "moveUp", "()V"⟩ ⟨"RopeShelfModel", "moveUp", "()V"⟩ ∈ tb := tb_in 27 (by decide +kernel) rfl
theorem wd_28 : Cond.selects "RopeShelfModel" ⟨"RopeShelfModel", "joined", "(II)I"⟩ ⟨"RopeShelfModel", "joined", "(II)I"⟩ ∈ tb := tb_in 28 (by decide +kernel) rfl
theorem wd_29 : Cond.selects "RopeShelfModel" ⟨"RopeShelfModel", "layText", "(II)I"⟩ ⟨"RopeShelfModel", "layText", "(II)I"⟩ ∈ tb := tb_in 29 (by decide +kernel) rfl
theorem wd_30 : Cond.selects "RopeShelfModel" ⟨"RopeShelfModel", "layPieces", "(I)I"⟩ ⟨"RopeShelfModel", "layPieces", "(I)I"⟩ ∈ tb := tb_in 30 (by decide +kernel) rfl
theorem wd_31 : Cond.selects "RopeShelfModel" ⟨"RopeShelfModel", "signOf", "(II)I"⟩ ⟨"RopeShelfModel", "signOf", "(II)I"⟩ ∈ tb := tb_in 31 (by decide +kernel) rfl
theorem wd_32 : Cond.selects "RopeShelfModel" ⟨"RopeShelfModel", "newJoin", "(II)I"⟩ ⟨"RopeShelfModel", "newJoin", "(II)I"⟩ ∈ tb := tb_in 32 (by decide +kernel) rfl
theorem wd_33 : Cond.selects "RopeShelfModel" ⟨"RopeShelfModel", "balanced", "()I"⟩ ⟨"RopeShelfModel", "balanced", "()I"⟩ ∈ tb := tb_in 33 (by decide +kernel) rfl
theorem wd_34 : Cond.selects "RopeShelfModel" ⟨"RopeShelfModel", "push", "(IIZ)V"⟩ ⟨"RopeShelfModel", "push", "(IIZ)V"⟩ ∈ tb := tb_in 34 (by decide +kernel) rfl
theorem wd_35 : Cond.selects "RopeShelfModel" ⟨"RopeShelfModel", "cutOut", "(III)I"⟩ ⟨"RopeShelfModel", "cutOut", "(III)I"⟩ ∈ tb := tb_in 35 (by decide +kernel) rfl
theorem wd_36 : Cond.selects "RopeShelfModel" ⟨"RopeShelfModel", "toCut", "(III)V"⟩ ⟨"RopeShelfModel", "toCut", "(III)V"⟩ ∈ tb := tb_in 36 (by decide +kernel) rfl
theorem wd_37 : Cond.selects "RopeShelfModel" ⟨"RopeShelfModel", "cutOne", "(IIII)I"⟩ ⟨"RopeShelfModel", "cutOne", "(IIII)I"⟩ ∈ tb := tb_in 37 (by decide +kernel) rfl
theorem wd_38 : Cond.selects "RopeShelfModel" ⟨"RopeShelfModel", "cutLeaf", "(III)I"⟩ ⟨"RopeShelfModel", "cutLeaf", "(III)I"⟩ ∈ tb := tb_in 38 (by decide +kernel) rfl
theorem wd_39 : Cond.selects "RopeShelfModel" ⟨"RopeShelfModel", "roomOfMarked", "()I"⟩ ⟨"RopeShelfModel", "roomOfMarked", "()I"⟩ ∈ tb := tb_in 39 (by decide +kernel) rfl
theorem wd_40 : Cond.selects "RopeShelfModel" ⟨"RopeShelfModel", "roomOf", "(I)I"⟩ ⟨"RopeShelfModel", "roomOf", "(I)I"⟩ ∈ tb := tb_in 40 (by decide +kernel) rfl
theorem wd_41 : Cond.selects "RopeShelfModel" ⟨"RopeShelfModel", "isWide", "(I)Z"⟩ ⟨"RopeShelfModel", "isWide", "(I)Z"⟩ ∈ tb := tb_in 41 (by decide +kernel) rfl
theorem wd_42 : Cond.selects "RopeShelfModel" ⟨"RopeShelfModel", "areSame", "(II)Z"⟩ ⟨"RopeShelfModel", "areSame", "(II)Z"⟩ ∈ tb := tb_in 42 (by decide +kernel) rfl
theorem wd_43 : Cond.selects "RopeShelfModel" ⟨"RopeShelfModel", "layBoth", "(II)V"⟩ ⟨"RopeShelfModel", "layBoth", "(II)V"⟩ ∈ tb := tb_in 43 (by decide +kernel) rfl
theorem wd_44 : Cond.selects "RopeShelfModel" ⟨"RopeShelfModel", "alikeSigns", "()I"⟩ ⟨"RopeShelfModel", "alikeSigns", "()I"⟩ ∈ tb := tb_in 44 (by decide +kernel) rfl
theorem wd_45 : Cond.selects "RopeShelfModel" ⟨"RopeShelfModel", "placeIn", "()I"⟩ ⟨"RopeShelfModel", "placeIn", "()I"⟩ ∈ tb := tb_in 45 (by decide +kernel) rfl
theorem wd_46 : Cond.selects "RopeShelfModel" ⟨"RopeShelfModel", "comesFirst", "()Z"⟩ ⟨"RopeShelfModel", "comesFirst", "()Z"⟩ ∈ tb := tb_in 46 (by decide +kernel) rfl
theorem wd_47 : Cond.selects "RopeShelfModel" ⟨"RopeShelfModel", "markHeld", "()I"⟩ ⟨"RopeShelfModel", "markHeld", "()I"⟩ ∈ tb := tb_in 47 (by decide +kernel) rfl
theorem tb_goodIn {y : MethodName} {cc : ByteArray} {n : Nat} {r : Option FieldType} {Ts : List Cond} (hm : Cond.code y cc n r ∈ tb) (hT : ∀ w ∈ tb, w ∈ Ts) : GoodIn Ts (Cond.code y cc n r :: tb) := fun w hw => (List.mem_cons.mp hw).elim (fun e => by subst e; exact ⟨hT _ hm, good_of_word (List.mem_filter.mp hm).2⟩) (fun h => ⟨hT _ h, good_of_word (List.mem_filter.mp h).2⟩)
