/-! each word that keeps, by its place -/
theorem wd_1_0 : (Jvm.Cond.initialized "TollLedgerLaw") ∈ BIG := bgA (inT1 0 rfl) rfl
theorem wd_1_1 : (Jvm.Cond.initialized "TollLedger") ∈ BIG := bgA (inT1 1 rfl) rfl
theorem wd_1_2 : (Jvm.Cond.initialized "TollLedger$State") ∈ BIG := bgA (inT1 2 rfl) rfl
theorem wd_1_3 : (Jvm.Cond.initialized "TollLedger$Lines") ∈ BIG := bgA (inT1 3 rfl) rfl
theorem wd_1_4 : (Jvm.Cond.initialized "java/util/AbstractCollection") ∈ BIG := bgA (inT1 4 rfl) rfl
theorem wd_1_5 : (Jvm.Cond.initialized "java/util/AbstractList") ∈ BIG := bgA (inT1 5 rfl) rfl
theorem wd_1_6 : (Jvm.Cond.initialized "java/util/ArrayList") ∈ BIG := bgA (inT1 6 rfl) rfl
theorem wd_1_7 : (Jvm.Cond.initialized "TollLedger$Account") ∈ BIG := bgA (inT1 7 rfl) rfl
theorem wd_1_8 : (Jvm.Cond.initialized "TollLedger$Taking") ∈ BIG := bgA (inT1 8 rfl) rfl
theorem wd_1_9 : (Jvm.Cond.initialized "TollLedger$Book") ∈ BIG := bgA (inT1 9 rfl) rfl
theorem wd_1_10 : (Jvm.Cond.initialized "TollLedger$Leaves") ∈ BIG := bgA (inT1 10 rfl) rfl
theorem wd_1_11 : (Jvm.Cond.initialized "TollLedgerModel") ∈ BIG := bgA (inT1 11 rfl) rfl
theorem wd_1_12 : (Jvm.Cond.initialized "java/util/Objects") ∈ BIG := bgA (inT1 12 rfl) rfl
theorem wd_1_13 : (Jvm.Cond.initialized "jdk/internal/util/Preconditions") ∈ BIG := bgA (inT1 13 rfl) rfl
theorem wd_1_14 : (Jvm.Cond.initialized "java/lang/Math") ∈ BIG := bgA (inT1 14 rfl) rfl
theorem wd_1_15 : (Jvm.Cond.initialized "java/lang/System") ∈ BIG := bgA (inT1 15 rfl) rfl
theorem wd_1_16 : (Jvm.Cond.initialized "TollLedger$Offer") ∈ BIG := bgA (inT1 16 rfl) rfl
theorem wd_1_17 : (Jvm.Cond.initialized "jdk/internal/util/ArraysSupport") ∈ BIG := bgA (inT1 17 rfl) rfl
theorem wd_1_18 : (Jvm.Cond.initialized "java/util/Arrays") ∈ BIG := bgA (inT1 18 rfl) rfl
theorem wd_1_19 : (Jvm.Cond.initialized "TollLedger$Deposit") ∈ BIG := bgA (inT1 19 rfl) rfl
theorem wd_1_20 : (Jvm.Cond.classLink "TollLedgerLaw" 7 "TollLedger") ∈ BIG := bgA (inT1 20 rfl) rfl
theorem wd_1_21 : (Jvm.Cond.instantiable "TollLedger" 10) ∈ BIG := bgA (inT1 21 rfl) rfl
theorem wd_1_22 : (Jvm.Cond.methodLink "TollLedgerLaw" 9 ⟨"TollLedger", "<init>", "()V"⟩) ∈ BIG := bgA (inT1 22 rfl) rfl
theorem wd_1_23 : (Jvm.Cond.instanceMethod ⟨"TollLedger", "<init>", "()V"⟩) ∈ BIG := bgA (inT1 23 rfl) rfl
theorem wd_1_24 : (Jvm.Cond.code ⟨"TollLedger", "<init>", "()V"⟩ prog_1_method_1_code 1 (Option.none : Option Jvm.ClassFile.FieldType)) ∈ BIG := bgA (inT1 24 rfl) rfl
theorem wd_1_25 : (Jvm.Cond.methodLink "TollLedger" 1 ⟨"java/lang/Object", "<init>", "()V"⟩) ∈ BIG := bgA (inT1 25 rfl) rfl
theorem wd_1_26 : (Jvm.Cond.instanceMethod ⟨"java/lang/Object", "<init>", "()V"⟩) ∈ BIG := bgA (inT1 26 rfl) rfl
theorem wd_1_27 : (Jvm.Cond.code ⟨"java/lang/Object", "<init>", "()V"⟩ object_method_1_code 1 (Option.none : Option Jvm.ClassFile.FieldType)) ∈ BIG := bgA (inT1 27 rfl) rfl
theorem wd_1_28 : (Jvm.Cond.classLink "TollLedger" 7 "TollLedger$State") ∈ BIG := bgA (inT1 28 rfl) rfl
theorem wd_1_29 : (Jvm.Cond.instantiable "TollLedger$State" 6) ∈ BIG := bgA (inT1 29 rfl) rfl
theorem wd_1_30 : (Jvm.Cond.methodLink "TollLedger" 9 ⟨"TollLedger$State", "<init>", "()V"⟩) ∈ BIG := bgA (inT1 30 rfl) rfl
theorem wd_1_31 : (Jvm.Cond.instanceMethod ⟨"TollLedger$State", "<init>", "()V"⟩) ∈ BIG := bgA (inT1 31 rfl) rfl
theorem wd_1_32 : (Jvm.Cond.code ⟨"TollLedger$State", "<init>", "()V"⟩ prog_8_method_1_code 2 (Option.none : Option Jvm.ClassFile.FieldType)) ∈ BIG := bgA (inT1 32 rfl) rfl
theorem wd_1_33 : (Jvm.Cond.methodLink "TollLedger$State" 3 ⟨"java/lang/Object", "<init>", "()V"⟩) ∈ BIG := bgA (inT1 33 rfl) rfl
theorem wd_1_34 : (Jvm.Cond.classLink "TollLedger$State" 9 "TollLedger$Account") ∈ BIG := bgA (inT1 34 rfl) rfl
theorem wd_1_36 : (Jvm.Cond.classLink "TollLedger$State" 17 "TollLedger$Lines") ∈ BIG := bgA (inT1 36 rfl) rfl
theorem wd_1_37 : (Jvm.Cond.instantiable "TollLedger$Lines" 3) ∈ BIG := bgA (inT1 37 rfl) rfl
theorem wd_1_39 : (Jvm.Cond.instanceMethod ⟨"TollLedger$Lines", "<init>", "()V"⟩) ∈ BIG := bgA (inT1 39 rfl) rfl
theorem wd_1_40 : (Jvm.Cond.code ⟨"TollLedger$Lines", "<init>", "()V"⟩ prog_6_method_1_code 1 (Option.none : Option Jvm.ClassFile.FieldType)) ∈ BIG := bgA (inT1 40 rfl) rfl
theorem wd_1_41 : (Jvm.Cond.methodLink "TollLedger$Lines" 3 ⟨"java/lang/Object", "<init>", "()V"⟩) ∈ BIG := bgA (inT1 41 rfl) rfl
theorem wd_1_42 : (Jvm.Cond.fieldLink "TollLedger$Lines" 11 "TollLedger$Lines" "balances" "[I") ∈ BIG := bgA (inT1 42 rfl) rfl
theorem wd_1_43 : (Jvm.Cond.fieldLink "TollLedger$State" 80 "TollLedger$Lines" "balances" "[I") ∈ BIG := bgA (inT1 43 rfl) rfl
theorem wd_1_44 : (Jvm.Cond.fieldLink "TollLedger" 222 "TollLedger$Lines" "balances" "[I") ∈ BIG := bgA (inT1 44 rfl) rfl
theorem wd_1_45 : (Jvm.Cond.fieldLink "TollLedger$Lines" 15 "TollLedger$Lines" "limits" "[I") ∈ BIG := bgA (inT1 45 rfl) rfl
theorem wd_1_46 : (Jvm.Cond.fieldLink "TollLedger" 100 "TollLedger$Lines" "limits" "[I") ∈ BIG := bgA (inT1 46 rfl) rfl
theorem wd_1_47 : (Jvm.Cond.fieldLink "TollLedger$Lines" 18 "TollLedger$Lines" "quiets" "[Z") ∈ BIG := bgA (inT1 47 rfl) rfl
theorem wd_1_48 : (Jvm.Cond.fieldLink "TollLedger" 104 "TollLedger$Lines" "quiets" "[Z") ∈ BIG := bgA (inT1 48 rfl) rfl
theorem wd_1_56 : (Jvm.Cond.arrayClass Jvm.ClassFile.FieldType.int) ∈ BIG := bgA (inT1 56 rfl) rfl
theorem wd_1_57 : (Jvm.Cond.arrayClass Jvm.ClassFile.FieldType.boolean) ∈ BIG := bgA (inT1 57 rfl) rfl
theorem wd_1_58 : (Jvm.Cond.classLink "TollLedger$State" 24 "java/util/ArrayList") ∈ BIG := bgA (inT1 58 rfl) rfl
theorem wd_1_59 : (Jvm.Cond.instantiable "java/util/ArrayList" 3) ∈ BIG := bgA (inT1 59 rfl) rfl
theorem wd_1_60 : (Jvm.Cond.methodLink "TollLedger$State" 26 ⟨"java/util/ArrayList", "<init>", "()V"⟩) ∈ BIG := bgA (inT1 60 rfl) rfl
theorem wd_1_61 : (Jvm.Cond.instanceMethod ⟨"java/util/ArrayList", "<init>", "()V"⟩) ∈ BIG := bgA (inT1 61 rfl) rfl
theorem wd_1_62 : (Jvm.Cond.code ⟨"java/util/ArrayList", "<init>", "()V"⟩ prog_19_method_2_code 1 (Option.none : Option Jvm.ClassFile.FieldType)) ∈ BIG := bgA (inT1 62 rfl) rfl
theorem wd_1_63 : (Jvm.Cond.methodLink "java/util/ArrayList" 1 ⟨"java/util/AbstractList", "<init>", "()V"⟩) ∈ BIG := bgA (inT1 63 rfl) rfl
theorem wd_1_64 : (Jvm.Cond.instanceMethod ⟨"java/util/AbstractList", "<init>", "()V"⟩) ∈ BIG := bgA (inT1 64 rfl) rfl
theorem wd_1_65 : (Jvm.Cond.code ⟨"java/util/AbstractList", "<init>", "()V"⟩ prog_18_method_1_code 1 (Option.none : Option Jvm.ClassFile.FieldType)) ∈ BIG := bgA (inT1 65 rfl) rfl
theorem wd_1_66 : (Jvm.Cond.methodLink "java/util/AbstractList" 1 ⟨"java/util/AbstractCollection", "<init>", "()V"⟩) ∈ BIG := bgA (inT1 66 rfl) rfl
theorem wd_1_67 : (Jvm.Cond.instanceMethod ⟨"java/util/AbstractCollection", "<init>", "()V"⟩) ∈ BIG := bgA (inT1 67 rfl) rfl
theorem wd_1_68 : (Jvm.Cond.code ⟨"java/util/AbstractCollection", "<init>", "()V"⟩ prog_17_method_1_code 1 (Option.none : Option Jvm.ClassFile.FieldType)) ∈ BIG := bgA (inT1 68 rfl) rfl
theorem wd_1_69 : (Jvm.Cond.methodLink "java/util/AbstractCollection" 1 ⟨"java/lang/Object", "<init>", "()V"⟩) ∈ BIG := bgA (inT1 69 rfl) rfl
theorem wd_1_70 : (Jvm.Cond.fieldLink "java/util/ArrayList" 39 "java/util/ArrayList" "DEFAULTCAPACITY_EMPTY_ELEMENTDATA" "[Ljava/lang/Object;") ∈ BIG := bgA (inT1 70 rfl) rfl
theorem wd_1_72 : (Jvm.Cond.fieldLink "java/util/ArrayList" 9 "java/util/ArrayList" "elementData" "[Ljava/lang/Object;") ∈ BIG := bgA (inT1 72 rfl) rfl
theorem wd_1_73 : (Jvm.Cond.fieldLink "java/util/ArrayList" 48 "java/util/ArrayList" "size" "I") ∈ BIG := bgA (inT1 73 rfl) rfl
theorem wd_1_74 : (Jvm.Cond.fieldLink "java/util/AbstractList" 7 "java/util/AbstractList" "modCount" "I") ∈ BIG := bgA (inT1 74 rfl) rfl
theorem wd_1_75 : (Jvm.Cond.fieldLink "java/util/ArrayList" 63 "java/util/ArrayList" "modCount" "I") ∈ BIG := bgA (inT1 75 rfl) rfl
theorem wd_1_76 : (Jvm.Cond.sameField "java/util/ArrayList" "java/util/AbstractList" "modCount" "I") ∈ BIG := bgA (inT1 76 rfl) rfl
theorem wd_1_84 : (Jvm.Cond.instantiable "TollLedger$Account" 4) ∈ BIG := bgA (inT1 84 rfl) rfl
theorem wd_1_86 : (Jvm.Cond.instanceMethod ⟨"TollLedger$Account", "<init>", "()V"⟩) ∈ BIG := bgA (inT1 86 rfl) rfl
theorem wd_1_87 : (Jvm.Cond.code ⟨"TollLedger$Account", "<init>", "()V"⟩ prog_2_method_1_code 1 (Option.none : Option Jvm.ClassFile.FieldType)) ∈ BIG := bgA (inT1 87 rfl) rfl
theorem wd_1_88 : (Jvm.Cond.methodLink "TollLedger$Account" 1 ⟨"java/lang/Object", "<init>", "()V"⟩) ∈ BIG := bgA (inT1 88 rfl) rfl
theorem wd_1_89 : (Jvm.Cond.fieldLink "TollLedger$State" 35 "TollLedger$Account" "exists" "Z") ∈ BIG := bgA (inT1 89 rfl) rfl
theorem wd_1_90 : (Jvm.Cond.fieldLink "TollLedger$Account" 13 "TollLedger$Account" "exists" "Z") ∈ BIG := bgA (inT1 90 rfl) rfl
theorem wd_1_91 : (Jvm.Cond.fieldLink "TollLedger" 65 "TollLedger$Account" "exists" "Z") ∈ BIG := bgA (inT1 91 rfl) rfl
theorem wd_1_92 : (Jvm.Cond.fieldLink "TollLedger$State" 40 "TollLedger$Account" "coins" "I") ∈ BIG := bgA (inT1 92 rfl) rfl
theorem wd_1_93 : (Jvm.Cond.fieldLink "TollLedger$Account" 17 "TollLedger$Account" "coins" "I") ∈ BIG := bgA (inT1 93 rfl) rfl
theorem wd_1_94 : (Jvm.Cond.fieldLink "TollLedger" 212 "TollLedger$Account" "coins" "I") ∈ BIG := bgA (inT1 94 rfl) rfl
theorem wd_1_95 : (Jvm.Cond.fieldLink "TollLedger$Account" 7 "TollLedger$Account" "number" "I") ∈ BIG := bgA (inT1 95 rfl) rfl
theorem wd_1_96 : (Jvm.Cond.fieldLink "TollLedger" 213 "TollLedger$Account" "number" "I") ∈ BIG := bgA (inT1 96 rfl) rfl
theorem wd_1_97 : (Jvm.Cond.fieldLink "TollLedger$Account" 21 "TollLedger$Account" "rate" "I") ∈ BIG := bgA (inT1 97 rfl) rfl
theorem wd_1_98 : (Jvm.Cond.fieldLink "TollLedger" 108 "TollLedger$Account" "rate" "I") ∈ BIG := bgA (inT1 98 rfl) rfl
theorem wd_1_99 : (Jvm.Cond.fieldLink "TollLedger$State" 91 "TollLedger$Account" "rate" "I") ∈ BIG := bgA (inT1 99 rfl) rfl
theorem wd_1_109 : (Jvm.Cond.constant "TollLedger$State" 39 (1000000 : Int32)) ∈ BIG := bgA (inT1 109 rfl) rfl
theorem wd_1_110 : (Jvm.Cond.fieldLink "TollLedger$State" 11 "TollLedger$State" "accounts" "[LTollLedger$Account;") ∈ BIG := bgA (inT1 110 rfl) rfl
theorem wd_1_111 : (Jvm.Cond.fieldLink "TollLedger$Leaves" 21 "TollLedger$State" "accounts" "[LTollLedger$Account;") ∈ BIG := bgA (inT1 111 rfl) rfl
theorem wd_1_112 : (Jvm.Cond.fieldLink "TollLedger" 61 "TollLedger$State" "accounts" "[LTollLedger$Account;") ∈ BIG := bgA (inT1 112 rfl) rfl
theorem wd_1_113 : (Jvm.Cond.fieldLink "TollLedger$State" 20 "TollLedger$State" "lines" "LTollLedger$Lines;") ∈ BIG := bgA (inT1 113 rfl) rfl
theorem wd_1_114 : (Jvm.Cond.fieldLink "TollLedger$Leaves" 33 "TollLedger$State" "lines" "LTollLedger$Lines;") ∈ BIG := bgA (inT1 114 rfl) rfl
theorem wd_1_115 : (Jvm.Cond.fieldLink "TollLedger" 89 "TollLedger$State" "lines" "LTollLedger$Lines;") ∈ BIG := bgA (inT1 115 rfl) rfl
theorem wd_1_116 : (Jvm.Cond.fieldLink "TollLedger$State" 27 "TollLedger$State" "offers" "Ljava/util/ArrayList;") ∈ BIG := bgA (inT1 116 rfl) rfl
theorem wd_1_117 : (Jvm.Cond.fieldLink "TollLedger$Taking" 45 "TollLedger$State" "offers" "Ljava/util/ArrayList;") ∈ BIG := bgA (inT1 117 rfl) rfl
theorem wd_1_118 : (Jvm.Cond.fieldLink "TollLedger$Leaves" 41 "TollLedger$State" "offers" "Ljava/util/ArrayList;") ∈ BIG := bgA (inT1 118 rfl) rfl
theorem wd_1_119 : (Jvm.Cond.fieldLink "TollLedger" 162 "TollLedger$State" "offers" "Ljava/util/ArrayList;") ∈ BIG := bgA (inT1 119 rfl) rfl
theorem wd_1_120 : (Jvm.Cond.fieldLink "TollLedger$State" 31 "TollLedger$State" "deposits" "Ljava/util/ArrayList;") ∈ BIG := bgA (inT1 120 rfl) rfl
theorem wd_1_121 : (Jvm.Cond.fieldLink "TollLedger$Leaves" 57 "TollLedger$State" "deposits" "Ljava/util/ArrayList;") ∈ BIG := bgA (inT1 121 rfl) rfl
theorem wd_1_122 : (Jvm.Cond.fieldLink "TollLedger" 180 "TollLedger$State" "deposits" "Ljava/util/ArrayList;") ∈ BIG := bgA (inT1 122 rfl) rfl
theorem wd_1_123 : (Jvm.Cond.fieldLink "TollLedger$State" 110 "TollLedger$State" "lastOfferId" "I") ∈ BIG := bgA (inT1 123 rfl) rfl
theorem wd_1_124 : (Jvm.Cond.fieldLink "TollLedger$State" 130 "TollLedger$State" "lastDepositId" "I") ∈ BIG := bgA (inT1 124 rfl) rfl
theorem wd_1_138 : (Jvm.Cond.classLink "TollLedger" 16 "TollLedger$Taking") ∈ BIG := bgA (inT1 138 rfl) rfl
theorem wd_1_139 : (Jvm.Cond.instantiable "TollLedger$Taking" 13) ∈ BIG := bgA (inT1 139 rfl) rfl
theorem wd_1_140 : (Jvm.Cond.methodLink "TollLedger" 18 ⟨"TollLedger$Taking", "<init>", "(LTollLedger$State;)V"⟩) ∈ BIG := bgA (inT1 140 rfl) rfl
theorem wd_1_141 : (Jvm.Cond.instanceMethod ⟨"TollLedger$Taking", "<init>", "(LTollLedger$State;)V"⟩) ∈ BIG := bgA (inT1 141 rfl) rfl
theorem wd_1_142 : (Jvm.Cond.code ⟨"TollLedger$Taking", "<init>", "(LTollLedger$State;)V"⟩ prog_9_method_1_code 2 (Option.none : Option Jvm.ClassFile.FieldType)) ∈ BIG := bgA (inT1 142 rfl) rfl
theorem wd_1_143 : (Jvm.Cond.methodLink "TollLedger$Taking" 3 ⟨"java/lang/Object", "<init>", "()V"⟩) ∈ BIG := bgA (inT1 143 rfl) rfl
theorem wd_1_144 : (Jvm.Cond.classLink "TollLedger$Taking" 9 "TollLedger$Book") ∈ BIG := bgA (inT1 144 rfl) rfl
theorem wd_1_145 : (Jvm.Cond.instantiable "TollLedger$Book" 2) ∈ BIG := bgA (inT1 145 rfl) rfl
theorem wd_1_147 : (Jvm.Cond.instanceMethod ⟨"TollLedger$Book", "<init>", "()V"⟩) ∈ BIG := bgA (inT1 147 rfl) rfl
theorem wd_1_148 : (Jvm.Cond.code ⟨"TollLedger$Book", "<init>", "()V"⟩ prog_3_method_1_code 1 (Option.none : Option Jvm.ClassFile.FieldType)) ∈ BIG := bgA (inT1 148 rfl) rfl
theorem wd_1_149 : (Jvm.Cond.methodLink "TollLedger$Book" 3 ⟨"java/lang/Object", "<init>", "()V"⟩) ∈ BIG := bgA (inT1 149 rfl) rfl
theorem wd_1_150 : (Jvm.Cond.classLink "TollLedger$Book" 9 "TollLedger$Offer") ∈ BIG := bgA (inT1 150 rfl) rfl
theorem wd_1_152 : (Jvm.Cond.fieldLink "TollLedger$Book" 11 "TollLedger$Book" "row" "[LTollLedger$Offer;") ∈ BIG := bgA (inT1 152 rfl) rfl
theorem wd_1_153 : (Jvm.Cond.fieldLink "TollLedger$Taking" 72 "TollLedger$Book" "row" "[LTollLedger$Offer;") ∈ BIG := bgA (inT1 153 rfl) rfl
theorem wd_1_154 : (Jvm.Cond.fieldLink "TollLedger" 237 "TollLedger$Book" "row" "[LTollLedger$Offer;") ∈ BIG := bgA (inT1 154 rfl) rfl
theorem wd_1_155 : (Jvm.Cond.fieldLink "TollLedger$Book" 17 "TollLedger$Book" "size" "I") ∈ BIG := bgA (inT1 155 rfl) rfl
theorem wd_1_156 : (Jvm.Cond.fieldLink "TollLedger$Taking" 62 "TollLedger$Book" "size" "I") ∈ BIG := bgA (inT1 156 rfl) rfl
theorem wd_1_157 : (Jvm.Cond.fieldLink "TollLedger" 235 "TollLedger$Book" "size" "I") ∈ BIG := bgA (inT1 157 rfl) rfl
theorem wd_1_163 : (Jvm.Cond.fieldLink "TollLedger$Taking" 31 "TollLedger$Taking" "state" "LTollLedger$State;") ∈ BIG := bgA (inT1 163 rfl) rfl
theorem wd_1_164 : (Jvm.Cond.fieldLink "TollLedger$Taking" 12 "TollLedger$Taking" "book" "LTollLedger$Book;") ∈ BIG := bgA (inT1 164 rfl) rfl
theorem wd_1_165 : (Jvm.Cond.fieldLink "TollLedger" 225 "TollLedger$Taking" "book" "LTollLedger$Book;") ∈ BIG := bgA (inT1 165 rfl) rfl
theorem wd_1_166 : (Jvm.Cond.fieldLink "TollLedger$Taking" 18 "TollLedger$Taking" "amounts" "[I") ∈ BIG := bgA (inT1 166 rfl) rfl
theorem wd_1_167 : (Jvm.Cond.fieldLink "TollLedger$Taking" 22 "TollLedger$Taking" "prices" "[I") ∈ BIG := bgA (inT1 167 rfl) rfl
theorem wd_1_168 : (Jvm.Cond.fieldLink "TollLedger$Taking" 25 "TollLedger$Taking" "funds" "[I") ∈ BIG := bgA (inT1 168 rfl) rfl
theorem wd_1_169 : (Jvm.Cond.fieldLink "TollLedger$Taking" 28 "TollLedger$Taking" "purses" "[I") ∈ BIG := bgA (inT1 169 rfl) rfl
theorem wd_1_170 : (Jvm.Cond.fieldLink "TollLedger$Taking" 35 "TollLedger$Taking" "taker" "I") ∈ BIG := bgA (inT1 170 rfl) rfl
theorem wd_1_171 : (Jvm.Cond.fieldLink "TollLedger$Taking" 39 "TollLedger$Taking" "paid" "I") ∈ BIG := bgA (inT1 171 rfl) rfl
theorem wd_1_172 : (Jvm.Cond.fieldLink "TollLedger$Taking" 42 "TollLedger$Taking" "got" "I") ∈ BIG := bgA (inT1 172 rfl) rfl
theorem wd_1_173 : (Jvm.Cond.fieldLink "TollLedger$Taking" 119 "TollLedger$Taking" "reached" "I") ∈ BIG := bgA (inT1 173 rfl) rfl
theorem wd_1_174 : (Jvm.Cond.fieldLink "TollLedger$Taking" 65 "TollLedger$Taking" "taken" "I") ∈ BIG := bgA (inT1 174 rfl) rfl
theorem wd_1_175 : (Jvm.Cond.fieldLink "TollLedger" 138 "TollLedger$Taking" "taken" "I") ∈ BIG := bgA (inT1 175 rfl) rfl
theorem wd_1_176 : (Jvm.Cond.fieldLink "TollLedger$Taking" 92 "TollLedger$Taking" "price" "I") ∈ BIG := bgA (inT1 176 rfl) rfl
theorem wd_1_177 : (Jvm.Cond.fieldLink "TollLedger" 151 "TollLedger$Taking" "price" "I") ∈ BIG := bgA (inT1 177 rfl) rfl
theorem wd_1_178 : (Jvm.Cond.fieldLink "TollLedger$Taking" 80 "TollLedger$Taking" "cost" "I") ∈ BIG := bgA (inT1 178 rfl) rfl
theorem wd_1_179 : (Jvm.Cond.fieldLink "TollLedger" 148 "TollLedger$Taking" "cost" "I") ∈ BIG := bgA (inT1 179 rfl) rfl
theorem wd_1_207 : (Jvm.Cond.classLink "TollLedger" 25 "TollLedger$Leaves") ∈ BIG := bgA (inT1 207 rfl) rfl
theorem wd_1_208 : (Jvm.Cond.instantiable "TollLedger$Leaves" 1) ∈ BIG := bgA (inT1 208 rfl) rfl
theorem wd_1_210 : (Jvm.Cond.instanceMethod ⟨"TollLedger$Leaves", "<init>", "()V"⟩) ∈ BIG := bgA (inT1 210 rfl) rfl
theorem wd_1_211 : (Jvm.Cond.code ⟨"TollLedger$Leaves", "<init>", "()V"⟩ prog_5_method_1_code 1 (Option.none : Option Jvm.ClassFile.FieldType)) ∈ BIG := bgA (inT1 211 rfl) rfl
theorem wd_1_212 : (Jvm.Cond.methodLink "TollLedger$Leaves" 3 ⟨"java/lang/Object", "<init>", "()V"⟩) ∈ BIG := bgA (inT1 212 rfl) rfl
theorem wd_1_213 : (Jvm.Cond.fieldLink "TollLedger$Leaves" 11 "TollLedger$Leaves" "row" "[I") ∈ BIG := bgA (inT1 213 rfl) rfl
theorem wd_1_217 : (Jvm.Cond.constant "TollLedger" 39 (1000000 : Int32)) ∈ BIG := bgA (inT1 217 rfl) rfl
theorem wd_1_218 : (Jvm.Cond.fieldLink "TollLedger" 10 "TollLedger" "state" "LTollLedger$State;") ∈ BIG := bgA (inT1 218 rfl) rfl
theorem wd_1_219 : (Jvm.Cond.fieldLink "TollLedger" 21 "TollLedger" "taking" "LTollLedger$Taking;") ∈ BIG := bgA (inT1 219 rfl) rfl
theorem wd_1_220 : (Jvm.Cond.fieldLink "TollLedger" 28 "TollLedger" "leaves" "LTollLedger$Leaves;") ∈ BIG := bgA (inT1 220 rfl) rfl
theorem wd_1_221 : (Jvm.Cond.fieldLink "TollLedger" 32 "TollLedger" "signer" "I") ∈ BIG := bgA (inT1 221 rfl) rfl
theorem wd_1_222 : (Jvm.Cond.fieldLink "TollLedger" 51 "TollLedger" "signedNumber" "I") ∈ BIG := bgA (inT1 222 rfl) rfl
theorem wd_1_223 : (Jvm.Cond.fieldLink "TollLedger" 36 "TollLedger" "spendAsset" "I") ∈ BIG := bgA (inT1 223 rfl) rfl
theorem wd_1_224 : (Jvm.Cond.fieldLink "TollLedger" 40 "TollLedger" "spendMax" "I") ∈ BIG := bgA (inT1 224 rfl) rfl
theorem wd_1_225 : (Jvm.Cond.fieldLink "TollLedger" 114 "TollLedger" "spendPartial" "Z") ∈ BIG := bgA (inT1 225 rfl) rfl
theorem wd_1_226 : (Jvm.Cond.fieldLink "TollLedger" 194 "TollLedger" "clock" "I") ∈ BIG := bgA (inT1 226 rfl) rfl
theorem wd_1_227 : (Jvm.Cond.fieldLink "TollLedger" 250 "TollLedger" "burntCoins" "I") ∈ BIG := bgA (inT1 227 rfl) rfl
theorem wd_2_9 : (Jvm.Cond.methodLink "TollLedgerLaw" 13 ⟨"TollLedger", "by", "(II)Z"⟩) ∈ BIG := bgA (inT2 9 rfl) rfl
theorem wd_2_10 : (Jvm.Cond.instanceMethod ⟨"TollLedger", "by", "(II)Z"⟩) ∈ BIG := bgA (inT2 10 rfl) rfl
theorem wd_2_11 : (Jvm.Cond.selects "TollLedger" ⟨"TollLedger", "by", "(II)Z"⟩ ⟨"TollLedger", "by", "(II)Z"⟩) ∈ BIG := bgA (inT2 11 rfl) rfl
theorem wd_2_12 : (Jvm.Cond.code ⟨"TollLedger", "by", "(II)Z"⟩ prog_1_method_2_code 3 (Option.some Jvm.ClassFile.FieldType.boolean)) ∈ BIG := bgA (inT2 12 rfl) rfl
theorem wd_2_13 : (Jvm.Cond.methodLink "TollLedger" 43 ⟨"TollLedger", "isAccount", "(I)Z"⟩) ∈ BIG := bgA (inT2 13 rfl) rfl
theorem wd_2_14 : (Jvm.Cond.static ⟨"TollLedger", "isAccount", "(I)Z"⟩) ∈ BIG := bgA (inT2 14 rfl) rfl
theorem wd_2_15 : (Jvm.Cond.code ⟨"TollLedger", "isAccount", "(I)Z"⟩ prog_1_method_29_code 1 (Option.some Jvm.ClassFile.FieldType.boolean)) ∈ BIG := bgA (inT2 15 rfl) rfl
theorem wd_2_16 : (Jvm.Cond.methodLink "TollLedger" 47 ⟨"TollLedger", "isWithin", "(III)Z"⟩) ∈ BIG := bgA (inT2 16 rfl) rfl
theorem wd_2_17 : (Jvm.Cond.static ⟨"TollLedger", "isWithin", "(III)Z"⟩) ∈ BIG := bgA (inT2 17 rfl) rfl
theorem wd_2_18 : (Jvm.Cond.code ⟨"TollLedger", "isWithin", "(III)Z"⟩ prog_1_method_28_code 3 (Option.some Jvm.ClassFile.FieldType.boolean)) ∈ BIG := bgA (inT2 18 rfl) rfl
theorem wd_2_19 : (Jvm.Cond.methodLink "TollLedgerLaw" 18 ⟨"TollLedger", "send", "(II)I"⟩) ∈ BIG := bgA (inT2 19 rfl) rfl
theorem wd_2_20 : (Jvm.Cond.instanceMethod ⟨"TollLedger", "send", "(II)I"⟩) ∈ BIG := bgA (inT2 20 rfl) rfl
theorem wd_2_21 : (Jvm.Cond.selects "TollLedger" ⟨"TollLedger", "send", "(II)I"⟩ ⟨"TollLedger", "send", "(II)I"⟩) ∈ BIG := bgA (inT2 21 rfl) rfl
theorem wd_2_22 : (Jvm.Cond.code ⟨"TollLedger", "send", "(II)I"⟩ prog_1_method_3_code 5 (Option.some Jvm.ClassFile.FieldType.int)) ∈ BIG := bgA (inT2 22 rfl) rfl
theorem wd_2_23 : (Jvm.Cond.methodLink "TollLedger" 54 ⟨"TollLedger", "isOther", "(I)Z"⟩) ∈ BIG := bgA (inT2 23 rfl) rfl
theorem wd_2_25 : (Jvm.Cond.instanceMethod ⟨"TollLedger", "isOther", "(I)Z"⟩) ∈ BIG := bgA (inT2 25 rfl) rfl
theorem wd_2_26 : (Jvm.Cond.code ⟨"TollLedger", "isOther", "(I)Z"⟩ prog_1_method_27_code 2 (Option.some Jvm.ClassFile.FieldType.boolean)) ∈ BIG := bgA (inT2 26 rfl) rfl
theorem wd_2_27 : (Jvm.Cond.methodLink "TollLedger" 57 ⟨"TollLedger", "charge", "(Z)I"⟩) ∈ BIG := bgA (inT2 27 rfl) rfl
theorem wd_2_29 : (Jvm.Cond.instanceMethod ⟨"TollLedger", "charge", "(Z)I"⟩) ∈ BIG := bgA (inT2 29 rfl) rfl
theorem wd_2_30 : (Jvm.Cond.code ⟨"TollLedger", "charge", "(Z)I"⟩ prog_1_method_22_code 3 (Option.some Jvm.ClassFile.FieldType.int)) ∈ BIG := bgA (inT2 30 rfl) rfl
theorem wd_2_31 : (Jvm.Cond.methodLink "TollLedger" 71 ⟨"TollLedger$State", "fundsOf", "(II)I"⟩) ∈ BIG := bgA (inT2 31 rfl) rfl
theorem wd_2_32 : (Jvm.Cond.instanceMethod ⟨"TollLedger$State", "fundsOf", "(II)I"⟩) ∈ BIG := bgA (inT2 32 rfl) rfl
theorem wd_2_33 : (Jvm.Cond.selects "TollLedger$State" ⟨"TollLedger$State", "fundsOf", "(II)I"⟩ ⟨"TollLedger$State", "fundsOf", "(II)I"⟩) ∈ BIG := bgA (inT2 33 rfl) rfl
theorem wd_2_34 : (Jvm.Cond.code ⟨"TollLedger$State", "fundsOf", "(II)I"⟩ prog_8_method_5_code 4 (Option.some Jvm.ClassFile.FieldType.int)) ∈ BIG := bgA (inT2 34 rfl) rfl
theorem wd_2_35 : (Jvm.Cond.methodLink "TollLedger$State" 67 ⟨"TollLedger$State", "reserveOf", "(I)I"⟩) ∈ BIG := bgA (inT2 35 rfl) rfl
theorem wd_2_37 : (Jvm.Cond.instanceMethod ⟨"TollLedger$State", "reserveOf", "(I)I"⟩) ∈ BIG := bgA (inT2 37 rfl) rfl
theorem wd_2_38 : (Jvm.Cond.code ⟨"TollLedger$State", "reserveOf", "(I)I"⟩ prog_8_method_3_code 2 (Option.some Jvm.ClassFile.FieldType.int)) ∈ BIG := bgA (inT2 38 rfl) rfl
theorem wd_2_39 : (Jvm.Cond.methodLink "TollLedger$State" 66 ⟨"TollLedger$State", "piecesOf", "(I)I"⟩) ∈ BIG := bgA (inT2 39 rfl) rfl
theorem wd_2_40 : (Jvm.Cond.instanceMethod ⟨"TollLedger$State", "piecesOf", "(I)I"⟩) ∈ BIG := bgA (inT2 40 rfl) rfl
theorem wd_2_41 : (Jvm.Cond.selects "TollLedger$State" ⟨"TollLedger$State", "piecesOf", "(I)I"⟩ ⟨"TollLedger$State", "piecesOf", "(I)I"⟩) ∈ BIG := bgA (inT2 41 rfl) rfl
theorem wd_2_42 : (Jvm.Cond.code ⟨"TollLedger$State", "piecesOf", "(I)I"⟩ prog_8_method_2_code 4 (Option.some Jvm.ClassFile.FieldType.int)) ∈ BIG := bgA (inT2 42 rfl) rfl
theorem wd_2_43 : (Jvm.Cond.methodLink "TollLedger$State" 44 ⟨"TollLedger$Lines", "piecesOf", "(I)I"⟩) ∈ BIG := bgA (inT2 43 rfl) rfl
theorem wd_2_44 : (Jvm.Cond.instanceMethod ⟨"TollLedger$Lines", "piecesOf", "(I)I"⟩) ∈ BIG := bgA (inT2 44 rfl) rfl
theorem wd_2_45 : (Jvm.Cond.selects "TollLedger$Lines" ⟨"TollLedger$Lines", "piecesOf", "(I)I"⟩ ⟨"TollLedger$Lines", "piecesOf", "(I)I"⟩) ∈ BIG := bgA (inT2 45 rfl) rfl
theorem wd_2_46 : (Jvm.Cond.code ⟨"TollLedger$Lines", "piecesOf", "(I)I"⟩ prog_6_method_6_code 5 (Option.some Jvm.ClassFile.FieldType.int)) ∈ BIG := bgA (inT2 46 rfl) rfl
theorem wd_2_47 : (Jvm.Cond.methodLink "TollLedger$Lines" 22 ⟨"TollLedger$Lines", "side", "(III)I"⟩) ∈ BIG := bgA (inT2 47 rfl) rfl
theorem wd_2_48 : (Jvm.Cond.static ⟨"TollLedger$Lines", "side", "(III)I"⟩) ∈ BIG := bgA (inT2 48 rfl) rfl
theorem wd_2_49 : (Jvm.Cond.code ⟨"TollLedger$Lines", "side", "(III)I"⟩ prog_6_method_2_code 3 (Option.some Jvm.ClassFile.FieldType.int)) ∈ BIG := bgA (inT2 49 rfl) rfl
theorem wd_2_50 : (Jvm.Cond.methodLink "TollLedger$Lines" 26 ⟨"TollLedger$Lines", "isPiece", "(I)Z"⟩) ∈ BIG := bgA (inT2 50 rfl) rfl
theorem wd_2_51 : (Jvm.Cond.instanceMethod ⟨"TollLedger$Lines", "isPiece", "(I)Z"⟩) ∈ BIG := bgA (inT2 51 rfl) rfl
theorem wd_2_52 : (Jvm.Cond.selects "TollLedger$Lines" ⟨"TollLedger$Lines", "isPiece", "(I)Z"⟩ ⟨"TollLedger$Lines", "isPiece", "(I)Z"⟩) ∈ BIG := bgA (inT2 52 rfl) rfl
theorem wd_2_53 : (Jvm.Cond.code ⟨"TollLedger$Lines", "isPiece", "(I)Z"⟩ prog_6_method_3_code 2 (Option.some Jvm.ClassFile.FieldType.boolean)) ∈ BIG := bgA (inT2 53 rfl) rfl
theorem wd_2_54 : (Jvm.Cond.methodLink "TollLedger$State" 48 ⟨"java/util/ArrayList", "size", "()I"⟩) ∈ BIG := bgA (inT2 54 rfl) rfl
theorem wd_2_55 : (Jvm.Cond.instanceMethod ⟨"java/util/ArrayList", "size", "()I"⟩) ∈ BIG := bgA (inT2 55 rfl) rfl
theorem wd_2_56 : (Jvm.Cond.selects "java/util/ArrayList" ⟨"java/util/ArrayList", "size", "()I"⟩ ⟨"java/util/ArrayList", "size", "()I"⟩) ∈ BIG := bgA (inT2 56 rfl) rfl
theorem wd_2_57 : (Jvm.Cond.code ⟨"java/util/ArrayList", "size", "()I"⟩ prog_19_method_8_code 1 (Option.some Jvm.ClassFile.FieldType.int)) ∈ BIG := bgA (inT2 57 rfl) rfl
theorem wd_2_58 : (Jvm.Cond.methodLink "TollLedger$State" 52 ⟨"java/util/ArrayList", "get", "(I)Ljava/lang/Object;"⟩) ∈ BIG := bgA (inT2 58 rfl) rfl
theorem wd_2_59 : (Jvm.Cond.instanceMethod ⟨"java/util/ArrayList", "get", "(I)Ljava/lang/Object;"⟩) ∈ BIG := bgA (inT2 59 rfl) rfl
theorem wd_2_60 : (Jvm.Cond.selects "java/util/ArrayList" ⟨"java/util/ArrayList", "get", "(I)Ljava/lang/Object;"⟩ ⟨"java/util/ArrayList", "get", "(I)Ljava/lang/Object;"⟩) ∈ BIG := bgA (inT2 60 rfl) rfl
theorem wd_2_61 : (Jvm.Cond.code ⟨"java/util/ArrayList", "get", "(I)Ljava/lang/Object;"⟩ prog_19_method_20_code 2 (Option.some (Jvm.ClassFile.FieldType.object "java/lang/Object"))) ∈ BIG := bgA (inT2 61 rfl) rfl
theorem wd_2_62 : (Jvm.Cond.methodLink "java/util/ArrayList" 118 ⟨"java/util/Objects", "checkIndex", "(II)I"⟩) ∈ BIG := bgA (inT2 62 rfl) rfl
theorem wd_2_63 : (Jvm.Cond.static ⟨"java/util/Objects", "checkIndex", "(II)I"⟩) ∈ BIG := bgA (inT2 63 rfl) rfl
theorem wd_2_64 : (Jvm.Cond.code ⟨"java/util/Objects", "checkIndex", "(II)I"⟩ prog_23_method_17_code 2 (Option.some Jvm.ClassFile.FieldType.int)) ∈ BIG := bgA (inT2 64 rfl) rfl
theorem wd_2_65 : (Jvm.Cond.methodLink "java/util/Objects" 105 ⟨"jdk/internal/util/Preconditions", "checkIndex", "(IILjava/util/function/BiFunction;)I"⟩) ∈ BIG := bgA (inT2 65 rfl) rfl
theorem wd_2_66 : (Jvm.Cond.static ⟨"jdk/internal/util/Preconditions", "checkIndex", "(IILjava/util/function/BiFunction;)I"⟩) ∈ BIG := bgA (inT2 66 rfl) rfl
theorem wd_2_67 : (Jvm.Cond.code ⟨"jdk/internal/util/Preconditions", "checkIndex", "(IILjava/util/function/BiFunction;)I"⟩ prog_27_method_11_code 3 (Option.some Jvm.ClassFile.FieldType.int)) ∈ BIG := bgA (inT2 67 rfl) rfl
theorem wd_2_68 : (Jvm.Cond.methodLink "java/util/ArrayList" 123 ⟨"java/util/ArrayList", "elementData", "(I)Ljava/lang/Object;"⟩) ∈ BIG := bgA (inT2 68 rfl) rfl
theorem wd_2_69 : (Jvm.Cond.instanceMethod ⟨"java/util/ArrayList", "elementData", "(I)Ljava/lang/Object;"⟩) ∈ BIG := bgA (inT2 69 rfl) rfl
theorem wd_2_70 : (Jvm.Cond.selects "java/util/ArrayList" ⟨"java/util/ArrayList", "elementData", "(I)Ljava/lang/Object;"⟩ ⟨"java/util/ArrayList", "elementData", "(I)Ljava/lang/Object;"⟩) ∈ BIG := bgA (inT2 70 rfl) rfl
theorem wd_2_71 : (Jvm.Cond.code ⟨"java/util/ArrayList", "elementData", "(I)Ljava/lang/Object;"⟩ prog_19_method_18_code 2 (Option.some (Jvm.ClassFile.FieldType.object "java/lang/Object"))) ∈ BIG := bgA (inT2 71 rfl) rfl
theorem wd_2_72 : (Jvm.Cond.classLink "TollLedger$State" 56 "TollLedger$Offer") ∈ BIG := bgA (inT2 72 rfl) rfl
theorem wd_2_73 : (Jvm.Cond.classLink "TollLedger$State" 61 "TollLedger$Deposit") ∈ BIG := bgA (inT2 73 rfl) rfl
theorem wd_2_74 : (Jvm.Cond.methodLink "TollLedger$State" 70 ⟨"java/lang/Math", "max", "(II)I"⟩) ∈ BIG := bgA (inT2 74 rfl) rfl
theorem wd_2_75 : (Jvm.Cond.static ⟨"java/lang/Math", "max", "(II)I"⟩) ∈ BIG := bgA (inT2 75 rfl) rfl
theorem wd_2_76 : (Jvm.Cond.code ⟨"java/lang/Math", "max", "(II)I"⟩ prog_15_method_65_code 2 (Option.some Jvm.ClassFile.FieldType.int)) ∈ BIG := bgA (inT2 76 rfl) rfl
theorem wd_2_78 : (Jvm.Cond.static ⟨"TollLedger", "issuerOf", "(I)I"⟩) ∈ BIG := bgA (inT2 78 rfl) rfl
theorem wd_2_79 : (Jvm.Cond.code ⟨"TollLedger", "issuerOf", "(I)I"⟩ prog_1_method_33_code 1 (Option.some Jvm.ClassFile.FieldType.int)) ∈ BIG := bgA (inT2 79 rfl) rfl
theorem wd_2_80 : (Jvm.Cond.constant "TollLedger$State" 79 (1000000000 : Int32)) ∈ BIG := bgA (inT2 80 rfl) rfl
theorem wd_2_82 : (Jvm.Cond.static ⟨"TollLedger", "currencyOf", "(I)I"⟩) ∈ BIG := bgA (inT2 82 rfl) rfl
theorem wd_2_83 : (Jvm.Cond.code ⟨"TollLedger", "currencyOf", "(I)I"⟩ prog_1_method_34_code 1 (Option.some Jvm.ClassFile.FieldType.int)) ∈ BIG := bgA (inT2 83 rfl) rfl
theorem wd_2_84 : (Jvm.Cond.methodLink "TollLedger$State" 87 ⟨"TollLedger$Lines", "side", "(III)I"⟩) ∈ BIG := bgA (inT2 84 rfl) rfl
theorem wd_2_85 : (Jvm.Cond.methodLink "TollLedger" 75 ⟨"TollLedger$State", "change", "(III)V"⟩) ∈ BIG := bgA (inT2 85 rfl) rfl
theorem wd_2_86 : (Jvm.Cond.instanceMethod ⟨"TollLedger$State", "change", "(III)V"⟩) ∈ BIG := bgA (inT2 86 rfl) rfl
theorem wd_2_87 : (Jvm.Cond.selects "TollLedger$State" ⟨"TollLedger$State", "change", "(III)V"⟩ ⟨"TollLedger$State", "change", "(III)V"⟩) ∈ BIG := bgA (inT2 87 rfl) rfl
theorem wd_2_88 : (Jvm.Cond.code ⟨"TollLedger$State", "change", "(III)V"⟩ prog_8_method_9_code 4 (Option.none : Option Jvm.ClassFile.FieldType)) ∈ BIG := bgA (inT2 88 rfl) rfl
theorem wd_2_89 : (Jvm.Cond.methodLink "TollLedger$State" 101 ⟨"TollLedger$Lines", "grow", "(IIII)V"⟩) ∈ BIG := bgA (inT2 89 rfl) rfl
theorem wd_2_90 : (Jvm.Cond.instanceMethod ⟨"TollLedger$Lines", "grow", "(IIII)V"⟩) ∈ BIG := bgA (inT2 90 rfl) rfl
theorem wd_2_91 : (Jvm.Cond.selects "TollLedger$Lines" ⟨"TollLedger$Lines", "grow", "(IIII)V"⟩ ⟨"TollLedger$Lines", "grow", "(IIII)V"⟩) ∈ BIG := bgA (inT2 91 rfl) rfl
theorem wd_2_92 : (Jvm.Cond.code ⟨"TollLedger$Lines", "grow", "(IIII)V"⟩ prog_6_method_5_code 5 (Option.none : Option Jvm.ClassFile.FieldType)) ∈ BIG := bgA (inT2 92 rfl) rfl
theorem wd_2_93 : (Jvm.Cond.methodLink "TollLedgerLaw" 23 ⟨"TollLedger", "trust", "(IIIZ)I"⟩) ∈ BIG := bgA (inT2 93 rfl) rfl
theorem wd_2_94 : (Jvm.Cond.instanceMethod ⟨"TollLedger", "trust", "(IIIZ)I"⟩) ∈ BIG := bgA (inT2 94 rfl) rfl
theorem wd_2_95 : (Jvm.Cond.selects "TollLedger" ⟨"TollLedger", "trust", "(IIIZ)I"⟩ ⟨"TollLedger", "trust", "(IIIZ)I"⟩) ∈ BIG := bgA (inT2 95 rfl) rfl
theorem wd_2_96 : (Jvm.Cond.code ⟨"TollLedger", "trust", "(IIIZ)I"⟩ prog_1_method_4_code 8 (Option.some Jvm.ClassFile.FieldType.int)) ∈ BIG := bgA (inT2 96 rfl) rfl
theorem wd_2_97 : (Jvm.Cond.methodLink "TollLedger" 79 ⟨"TollLedger", "isCurrency", "(I)Z"⟩) ∈ BIG := bgA (inT2 97 rfl) rfl
theorem wd_2_98 : (Jvm.Cond.static ⟨"TollLedger", "isCurrency", "(I)Z"⟩) ∈ BIG := bgA (inT2 98 rfl) rfl
theorem wd_2_99 : (Jvm.Cond.code ⟨"TollLedger", "isCurrency", "(I)Z"⟩ prog_1_method_31_code 1 (Option.some Jvm.ClassFile.FieldType.boolean)) ∈ BIG := bgA (inT2 99 rfl) rfl
theorem wd_2_100 : (Jvm.Cond.constant "TollLedger" 82 (100000 : Int32)) ∈ BIG := bgA (inT2 100 rfl) rfl
theorem wd_2_101 : (Jvm.Cond.methodLink "TollLedger" 83 ⟨"TollLedger$Lines", "side", "(III)I"⟩) ∈ BIG := bgA (inT2 101 rfl) rfl
theorem wd_2_102 : (Jvm.Cond.methodLink "TollLedger" 93 ⟨"TollLedger$Lines", "isPiece", "(I)Z"⟩) ∈ BIG := bgA (inT2 102 rfl) rfl
theorem wd_2_103 : (Jvm.Cond.methodLink "TollLedger" 96 ⟨"TollLedger$State", "affordsOneMore", "(II)Z"⟩) ∈ BIG := bgA (inT2 103 rfl) rfl
theorem wd_2_104 : (Jvm.Cond.instanceMethod ⟨"TollLedger$State", "affordsOneMore", "(II)Z"⟩) ∈ BIG := bgA (inT2 104 rfl) rfl
theorem wd_2_105 : (Jvm.Cond.selects "TollLedger$State" ⟨"TollLedger$State", "affordsOneMore", "(II)Z"⟩ ⟨"TollLedger$State", "affordsOneMore", "(II)Z"⟩) ∈ BIG := bgA (inT2 105 rfl) rfl
theorem wd_2_106 : (Jvm.Cond.code ⟨"TollLedger$State", "affordsOneMore", "(II)Z"⟩ prog_8_method_4_code 3 (Option.some Jvm.ClassFile.FieldType.boolean)) ∈ BIG := bgA (inT2 106 rfl) rfl
theorem wd_2_107 : (Jvm.Cond.methodLink "TollLedgerLaw" 28 ⟨"TollLedger", "rate", "(I)I"⟩) ∈ BIG := bgA (inT2 107 rfl) rfl
theorem wd_2_108 : (Jvm.Cond.instanceMethod ⟨"TollLedger", "rate", "(I)I"⟩) ∈ BIG := bgA (inT2 108 rfl) rfl
theorem wd_2_109 : (Jvm.Cond.selects "TollLedger" ⟨"TollLedger", "rate", "(I)I"⟩ ⟨"TollLedger", "rate", "(I)I"⟩) ∈ BIG := bgA (inT2 109 rfl) rfl
theorem wd_2_110 : (Jvm.Cond.code ⟨"TollLedger", "rate", "(I)I"⟩ prog_1_method_5_code 3 (Option.some Jvm.ClassFile.FieldType.int)) ∈ BIG := bgA (inT2 110 rfl) rfl
theorem wd_2_111 : (Jvm.Cond.methodLink "TollLedgerLaw" 33 ⟨"TollLedger", "spend", "(IIZ)Z"⟩) ∈ BIG := bgA (inT2 111 rfl) rfl
theorem wd_2_112 : (Jvm.Cond.instanceMethod ⟨"TollLedger", "spend", "(IIZ)Z"⟩) ∈ BIG := bgA (inT2 112 rfl) rfl
theorem wd_2_113 : (Jvm.Cond.selects "TollLedger" ⟨"TollLedger", "spend", "(IIZ)Z"⟩ ⟨"TollLedger", "spend", "(IIZ)Z"⟩) ∈ BIG := bgA (inT2 113 rfl) rfl
theorem wd_2_114 : (Jvm.Cond.code ⟨"TollLedger", "spend", "(IIZ)Z"⟩ prog_1_method_6_code 4 (Option.some Jvm.ClassFile.FieldType.boolean)) ∈ BIG := bgA (inT2 114 rfl) rfl
theorem wd_2_115 : (Jvm.Cond.methodLink "TollLedger" 111 ⟨"TollLedger", "isAsset", "(I)Z"⟩) ∈ BIG := bgA (inT2 115 rfl) rfl
theorem wd_2_116 : (Jvm.Cond.static ⟨"TollLedger", "isAsset", "(I)Z"⟩) ∈ BIG := bgA (inT2 116 rfl) rfl
theorem wd_2_117 : (Jvm.Cond.code ⟨"TollLedger", "isAsset", "(I)Z"⟩ prog_1_method_30_code 1 (Option.some Jvm.ClassFile.FieldType.boolean)) ∈ BIG := bgA (inT2 117 rfl) rfl
theorem wd_2_118 : (Jvm.Cond.methodLink "TollLedgerLaw" 38 ⟨"TollLedger", "pay", "(III)I"⟩) ∈ BIG := bgA (inT2 118 rfl) rfl
theorem wd_2_119 : (Jvm.Cond.instanceMethod ⟨"TollLedger", "pay", "(III)I"⟩) ∈ BIG := bgA (inT2 119 rfl) rfl
theorem wd_2_120 : (Jvm.Cond.selects "TollLedger" ⟨"TollLedger", "pay", "(III)I"⟩ ⟨"TollLedger", "pay", "(III)I"⟩) ∈ BIG := bgA (inT2 120 rfl) rfl
theorem wd_2_121 : (Jvm.Cond.code ⟨"TollLedger", "pay", "(III)I"⟩ prog_1_method_7_code 8 (Option.some Jvm.ClassFile.FieldType.int)) ∈ BIG := bgA (inT2 121 rfl) rfl
theorem wd_2_122 : (Jvm.Cond.methodLink "TollLedger" 117 ⟨"TollLedger$Taking", "open", "(III)V"⟩) ∈ BIG := bgA (inT2 122 rfl) rfl
theorem wd_2_123 : (Jvm.Cond.instanceMethod ⟨"TollLedger$Taking", "open", "(III)V"⟩) ∈ BIG := bgA (inT2 123 rfl) rfl
theorem wd_2_124 : (Jvm.Cond.selects "TollLedger$Taking" ⟨"TollLedger$Taking", "open", "(III)V"⟩ ⟨"TollLedger$Taking", "open", "(III)V"⟩) ∈ BIG := bgA (inT2 124 rfl) rfl
theorem wd_2_125 : (Jvm.Cond.code ⟨"TollLedger$Taking", "open", "(III)V"⟩ prog_9_method_2_code 5 (Option.none : Option Jvm.ClassFile.FieldType)) ∈ BIG := bgA (inT2 125 rfl) rfl
theorem wd_2_126 : (Jvm.Cond.methodLink "TollLedger$Taking" 51 ⟨"TollLedger$Book", "gather", "(Ljava/util/ArrayList;III)V"⟩) ∈ BIG := bgA (inT2 126 rfl) rfl
theorem wd_2_127 : (Jvm.Cond.instanceMethod ⟨"TollLedger$Book", "gather", "(Ljava/util/ArrayList;III)V"⟩) ∈ BIG := bgA (inT2 127 rfl) rfl
theorem wd_2_128 : (Jvm.Cond.selects "TollLedger$Book" ⟨"TollLedger$Book", "gather", "(Ljava/util/ArrayList;III)V"⟩ ⟨"TollLedger$Book", "gather", "(Ljava/util/ArrayList;III)V"⟩) ∈ BIG := bgA (inT2 128 rfl) rfl
theorem wd_2_129 : (Jvm.Cond.code ⟨"TollLedger$Book", "gather", "(Ljava/util/ArrayList;III)V"⟩ prog_3_method_2_code 7 (Option.none : Option Jvm.ClassFile.FieldType)) ∈ BIG := bgA (inT2 129 rfl) rfl
theorem wd_2_130 : (Jvm.Cond.methodLink "TollLedger$Book" 21 ⟨"java/util/ArrayList", "size", "()I"⟩) ∈ BIG := bgA (inT2 130 rfl) rfl
theorem wd_2_131 : (Jvm.Cond.methodLink "TollLedger$Book" 26 ⟨"java/util/ArrayList", "get", "(I)Ljava/lang/Object;"⟩) ∈ BIG := bgA (inT2 131 rfl) rfl
theorem wd_2_132 : (Jvm.Cond.methodLink "TollLedger$Book" 39 ⟨"TollLedger$Book", "insert", "(LTollLedger$Offer;)V"⟩) ∈ BIG := bgA (inT2 132 rfl) rfl
theorem wd_2_134 : (Jvm.Cond.instanceMethod ⟨"TollLedger$Book", "insert", "(LTollLedger$Offer;)V"⟩) ∈ BIG := bgA (inT2 134 rfl) rfl
theorem wd_2_135 : (Jvm.Cond.code ⟨"TollLedger$Book", "insert", "(LTollLedger$Offer;)V"⟩ prog_3_method_3_code 3 (Option.none : Option Jvm.ClassFile.FieldType)) ∈ BIG := bgA (inT2 135 rfl) rfl
theorem wd_2_136 : (Jvm.Cond.methodLink "TollLedger$Book" 43 ⟨"TollLedger$Offer", "isBetterThan", "(LTollLedger$Offer;)Z"⟩) ∈ BIG := bgA (inT2 136 rfl) rfl
theorem wd_2_137 : (Jvm.Cond.instanceMethod ⟨"TollLedger$Offer", "isBetterThan", "(LTollLedger$Offer;)Z"⟩) ∈ BIG := bgA (inT2 137 rfl) rfl
theorem wd_2_138 : (Jvm.Cond.selects "TollLedger$Offer" ⟨"TollLedger$Offer", "isBetterThan", "(LTollLedger$Offer;)Z"⟩ ⟨"TollLedger$Offer", "isBetterThan", "(LTollLedger$Offer;)Z"⟩) ∈ BIG := bgA (inT2 138 rfl) rfl
theorem wd_2_139 : (Jvm.Cond.code ⟨"TollLedger$Offer", "isBetterThan", "(LTollLedger$Offer;)Z"⟩ prog_7_method_2_code 2 (Option.some Jvm.ClassFile.FieldType.boolean)) ∈ BIG := bgA (inT2 139 rfl) rfl
theorem wd_2_140 : (Jvm.Cond.methodLink "TollLedger$Taking" 55 ⟨"TollLedger$State", "fundsOf", "(II)I"⟩) ∈ BIG := bgA (inT2 140 rfl) rfl
theorem wd_2_141 : (Jvm.Cond.methodLink "TollLedger" 120 ⟨"java/lang/Math", "min", "(II)I"⟩) ∈ BIG := bgA (inT2 141 rfl) rfl
theorem wd_2_142 : (Jvm.Cond.static ⟨"java/lang/Math", "min", "(II)I"⟩) ∈ BIG := bgA (inT2 142 rfl) rfl
theorem wd_2_143 : (Jvm.Cond.code ⟨"java/lang/Math", "min", "(II)I"⟩ prog_15_method_69_code 2 (Option.some Jvm.ClassFile.FieldType.int)) ∈ BIG := bgA (inT2 143 rfl) rfl
theorem wd_2_144 : (Jvm.Cond.methodLink "TollLedger" 125 ⟨"TollLedger", "greatestDelivery", "(IIII)I"⟩) ∈ BIG := bgA (inT2 144 rfl) rfl
theorem wd_2_146 : (Jvm.Cond.instanceMethod ⟨"TollLedger", "greatestDelivery", "(IIII)I"⟩) ∈ BIG := bgA (inT2 146 rfl) rfl
theorem wd_2_147 : (Jvm.Cond.code ⟨"TollLedger", "greatestDelivery", "(IIII)I"⟩ prog_1_method_23_code 7 (Option.some Jvm.ClassFile.FieldType.int)) ∈ BIG := bgA (inT2 147 rfl) rfl
theorem wd_2_148 : (Jvm.Cond.methodLink "TollLedger" 129 ⟨"TollLedger", "spendingFor", "(IIII)I"⟩) ∈ BIG := bgA (inT2 148 rfl) rfl
theorem wd_2_150 : (Jvm.Cond.instanceMethod ⟨"TollLedger", "spendingFor", "(IIII)I"⟩) ∈ BIG := bgA (inT2 150 rfl) rfl
theorem wd_2_151 : (Jvm.Cond.code ⟨"TollLedger", "spendingFor", "(IIII)I"⟩ prog_1_method_24_code 7 (Option.some Jvm.ClassFile.FieldType.int)) ∈ BIG := bgA (inT2 151 rfl) rfl
theorem wd_2_152 : (Jvm.Cond.methodLink "TollLedger" 259 ⟨"TollLedger", "issuerOf", "(I)I"⟩) ∈ BIG := bgA (inT2 152 rfl) rfl
theorem wd_2_153 : (Jvm.Cond.methodLink "TollLedger" 262 ⟨"TollLedger", "currencyOf", "(I)I"⟩) ∈ BIG := bgA (inT2 153 rfl) rfl
theorem wd_2_154 : (Jvm.Cond.methodLink "TollLedger" 265 ⟨"TollLedger$Lines", "hasRoom", "(II)Z"⟩) ∈ BIG := bgA (inT2 154 rfl) rfl
theorem wd_2_155 : (Jvm.Cond.instanceMethod ⟨"TollLedger$Lines", "hasRoom", "(II)Z"⟩) ∈ BIG := bgA (inT2 155 rfl) rfl
theorem wd_2_156 : (Jvm.Cond.selects "TollLedger$Lines" ⟨"TollLedger$Lines", "hasRoom", "(II)Z"⟩ ⟨"TollLedger$Lines", "hasRoom", "(II)Z"⟩) ∈ BIG := bgA (inT2 156 rfl) rfl
theorem wd_2_157 : (Jvm.Cond.code ⟨"TollLedger$Lines", "hasRoom", "(II)Z"⟩ prog_6_method_4_code 3 (Option.some Jvm.ClassFile.FieldType.boolean)) ∈ BIG := bgA (inT2 157 rfl) rfl
theorem wd_2_158 : (Jvm.Cond.methodLink "TollLedger" 268 ⟨"TollLedger$State", "costOf", "(IIII)I"⟩) ∈ BIG := bgA (inT2 158 rfl) rfl
theorem wd_2_159 : (Jvm.Cond.instanceMethod ⟨"TollLedger$State", "costOf", "(IIII)I"⟩) ∈ BIG := bgA (inT2 159 rfl) rfl
theorem wd_2_160 : (Jvm.Cond.selects "TollLedger$State" ⟨"TollLedger$State", "costOf", "(IIII)I"⟩ ⟨"TollLedger$State", "costOf", "(IIII)I"⟩) ∈ BIG := bgA (inT2 160 rfl) rfl
theorem wd_2_161 : (Jvm.Cond.code ⟨"TollLedger$State", "costOf", "(IIII)I"⟩ prog_8_method_7_code 7 (Option.some Jvm.ClassFile.FieldType.int)) ∈ BIG := bgA (inT2 161 rfl) rfl
theorem wd_2_162 : (Jvm.Cond.methodLink "TollLedger$State" 94 ⟨"TollLedger$State", "tollRate", "(III)I"⟩) ∈ BIG := bgA (inT2 162 rfl) rfl
theorem wd_2_164 : (Jvm.Cond.instanceMethod ⟨"TollLedger$State", "tollRate", "(III)I"⟩) ∈ BIG := bgA (inT2 164 rfl) rfl
theorem wd_2_165 : (Jvm.Cond.code ⟨"TollLedger$State", "tollRate", "(III)I"⟩ prog_8_method_6_code 5 (Option.some Jvm.ClassFile.FieldType.int)) ∈ BIG := bgA (inT2 165 rfl) rfl
theorem wd_2_166 : (Jvm.Cond.constantLong "TollLedger$State" 97 (999 : Int64)) ∈ BIG := bgA (inT2 166 rfl) rfl
theorem wd_2_167 : (Jvm.Cond.constantLong "TollLedger$State" 99 (1000 : Int64)) ∈ BIG := bgA (inT2 167 rfl) rfl
theorem wd_2_168 : (Jvm.Cond.methodLink "TollLedger" 271 ⟨"TollLedger", "isHushed", "(II)Z"⟩) ∈ BIG := bgA (inT2 168 rfl) rfl
theorem wd_2_170 : (Jvm.Cond.instanceMethod ⟨"TollLedger", "isHushed", "(II)Z"⟩) ∈ BIG := bgA (inT2 170 rfl) rfl
theorem wd_2_171 : (Jvm.Cond.code ⟨"TollLedger", "isHushed", "(II)Z"⟩ prog_1_method_25_code 5 (Option.some Jvm.ClassFile.FieldType.boolean)) ∈ BIG := bgA (inT2 171 rfl) rfl
theorem wd_2_172 : (Jvm.Cond.methodLink "TollLedger" 274 ⟨"TollLedger$Taking", "planAll", "(I)V"⟩) ∈ BIG := bgA (inT2 172 rfl) rfl
theorem wd_2_173 : (Jvm.Cond.instanceMethod ⟨"TollLedger$Taking", "planAll", "(I)V"⟩) ∈ BIG := bgA (inT2 173 rfl) rfl
theorem wd_2_174 : (Jvm.Cond.selects "TollLedger$Taking" ⟨"TollLedger$Taking", "planAll", "(I)V"⟩ ⟨"TollLedger$Taking", "planAll", "(I)V"⟩) ∈ BIG := bgA (inT2 174 rfl) rfl
theorem wd_2_175 : (Jvm.Cond.code ⟨"TollLedger$Taking", "planAll", "(I)V"⟩ prog_9_method_3_code 3 (Option.none : Option Jvm.ClassFile.FieldType)) ∈ BIG := bgA (inT2 175 rfl) rfl
theorem wd_2_176 : (Jvm.Cond.methodLink "TollLedger$Taking" 59 ⟨"TollLedger$Taking", "startPlan", "()V"⟩) ∈ BIG := bgA (inT2 176 rfl) rfl
theorem wd_2_178 : (Jvm.Cond.instanceMethod ⟨"TollLedger$Taking", "startPlan", "()V"⟩) ∈ BIG := bgA (inT2 178 rfl) rfl
theorem wd_2_179 : (Jvm.Cond.code ⟨"TollLedger$Taking", "startPlan", "()V"⟩ prog_9_method_6_code 1 (Option.none : Option Jvm.ClassFile.FieldType)) ∈ BIG := bgA (inT2 179 rfl) rfl
theorem wd_2_180 : (Jvm.Cond.methodLink "TollLedger$Taking" 113 ⟨"java/lang/System", "arraycopy", "(Ljava/lang/Object;ILjava/lang/Object;II)V"⟩) ∈ BIG := bgA (inT2 180 rfl) rfl
theorem wd_2_181 : (Jvm.Cond.static ⟨"java/lang/System", "arraycopy", "(Ljava/lang/Object;ILjava/lang/Object;II)V"⟩) ∈ BIG := bgA (inT2 181 rfl) rfl
theorem wd_2_182 : (Jvm.Cond.native ⟨"java/lang/System", "arraycopy", "(Ljava/lang/Object;ILjava/lang/Object;II)V"⟩) ∈ BIG := bgA (inT2 182 rfl) rfl
theorem wd_2_183 : (Jvm.Cond.methodLink "TollLedger$Taking" 68 ⟨"TollLedger$Taking", "goThrough", "(II)V"⟩) ∈ BIG := bgA (inT2 183 rfl) rfl
theorem wd_2_185 : (Jvm.Cond.instanceMethod ⟨"TollLedger$Taking", "goThrough", "(II)V"⟩) ∈ BIG := bgA (inT2 185 rfl) rfl
theorem wd_2_186 : (Jvm.Cond.code ⟨"TollLedger$Taking", "goThrough", "(II)V"⟩ prog_9_method_7_code 7 (Option.none : Option Jvm.ClassFile.FieldType)) ∈ BIG := bgA (inT2 186 rfl) rfl
theorem wd_2_187 : (Jvm.Cond.methodLink "TollLedger$Taking" 88 ⟨"TollLedger$State", "mostMovable", "(IIII)I"⟩) ∈ BIG := bgA (inT2 187 rfl) rfl
theorem wd_2_188 : (Jvm.Cond.instanceMethod ⟨"TollLedger$State", "mostMovable", "(IIII)I"⟩) ∈ BIG := bgA (inT2 188 rfl) rfl
theorem wd_2_189 : (Jvm.Cond.selects "TollLedger$State" ⟨"TollLedger$State", "mostMovable", "(IIII)I"⟩ ⟨"TollLedger$State", "mostMovable", "(IIII)I"⟩) ∈ BIG := bgA (inT2 189 rfl) rfl
theorem wd_2_190 : (Jvm.Cond.code ⟨"TollLedger$State", "mostMovable", "(IIII)I"⟩ prog_8_method_8_code 5 (Option.some Jvm.ClassFile.FieldType.int)) ∈ BIG := bgA (inT2 190 rfl) rfl
theorem wd_2_191 : (Jvm.Cond.methodLink "TollLedger$Taking" 95 ⟨"java/lang/Math", "min", "(II)I"⟩) ∈ BIG := bgA (inT2 191 rfl) rfl
theorem wd_2_192 : (Jvm.Cond.methodLink "TollLedger$Taking" 122 ⟨"TollLedger$Offer", "priceOf", "(I)I"⟩) ∈ BIG := bgA (inT2 192 rfl) rfl
theorem wd_2_193 : (Jvm.Cond.instanceMethod ⟨"TollLedger$Offer", "priceOf", "(I)I"⟩) ∈ BIG := bgA (inT2 193 rfl) rfl
theorem wd_2_194 : (Jvm.Cond.selects "TollLedger$Offer" ⟨"TollLedger$Offer", "priceOf", "(I)I"⟩ ⟨"TollLedger$Offer", "priceOf", "(I)I"⟩) ∈ BIG := bgA (inT2 194 rfl) rfl
theorem wd_2_195 : (Jvm.Cond.code ⟨"TollLedger$Offer", "priceOf", "(I)I"⟩ prog_7_method_3_code 2 (Option.some Jvm.ClassFile.FieldType.int)) ∈ BIG := bgA (inT2 195 rfl) rfl
theorem wd_2_196 : (Jvm.Cond.methodLink "TollLedger$Taking" 126 ⟨"TollLedger$State", "costOf", "(IIII)I"⟩) ∈ BIG := bgA (inT2 196 rfl) rfl
theorem wd_2_197 : (Jvm.Cond.methodLink "TollLedger" 132 ⟨"TollLedger$Taking", "carryOut", "()V"⟩) ∈ BIG := bgA (inT2 197 rfl) rfl
theorem wd_2_198 : (Jvm.Cond.instanceMethod ⟨"TollLedger$Taking", "carryOut", "()V"⟩) ∈ BIG := bgA (inT2 198 rfl) rfl
theorem wd_2_199 : (Jvm.Cond.selects "TollLedger$Taking" ⟨"TollLedger$Taking", "carryOut", "()V"⟩ ⟨"TollLedger$Taking", "carryOut", "()V"⟩) ∈ BIG := bgA (inT2 199 rfl) rfl
theorem wd_2_200 : (Jvm.Cond.code ⟨"TollLedger$Taking", "carryOut", "()V"⟩ prog_9_method_9_code 4 (Option.none : Option Jvm.ClassFile.FieldType)) ∈ BIG := bgA (inT2 200 rfl) rfl
theorem wd_2_201 : (Jvm.Cond.methodLink "TollLedger$Taking" 129 ⟨"TollLedger$State", "change", "(III)V"⟩) ∈ BIG := bgA (inT2 201 rfl) rfl
theorem wd_2_202 : (Jvm.Cond.methodLink "TollLedger$Taking" 133 ⟨"TollLedger$State", "dropSpentOffers", "()V"⟩) ∈ BIG := bgA (inT2 202 rfl) rfl
theorem wd_2_203 : (Jvm.Cond.instanceMethod ⟨"TollLedger$State", "dropSpentOffers", "()V"⟩) ∈ BIG := bgA (inT2 203 rfl) rfl
theorem wd_2_204 : (Jvm.Cond.selects "TollLedger$State" ⟨"TollLedger$State", "dropSpentOffers", "()V"⟩ ⟨"TollLedger$State", "dropSpentOffers", "()V"⟩) ∈ BIG := bgA (inT2 204 rfl) rfl
theorem wd_2_205 : (Jvm.Cond.code ⟨"TollLedger$State", "dropSpentOffers", "()V"⟩ prog_8_method_14_code 2 (Option.none : Option Jvm.ClassFile.FieldType)) ∈ BIG := bgA (inT2 205 rfl) rfl
theorem wd_2_206 : (Jvm.Cond.methodLink "TollLedger$State" 143 ⟨"java/util/ArrayList", "remove", "(I)Ljava/lang/Object;"⟩) ∈ BIG := bgA (inT2 206 rfl) rfl
theorem wd_2_207 : (Jvm.Cond.instanceMethod ⟨"java/util/ArrayList", "remove", "(I)Ljava/lang/Object;"⟩) ∈ BIG := bgA (inT2 207 rfl) rfl
theorem wd_2_208 : (Jvm.Cond.selects "java/util/ArrayList" ⟨"java/util/ArrayList", "remove", "(I)Ljava/lang/Object;"⟩ ⟨"java/util/ArrayList", "remove", "(I)Ljava/lang/Object;"⟩) ∈ BIG := bgA (inT2 208 rfl) rfl
theorem wd_2_209 : (Jvm.Cond.code ⟨"java/util/ArrayList", "remove", "(I)Ljava/lang/Object;"⟩ prog_19_method_29_code 4 (Option.some (Jvm.ClassFile.FieldType.object "java/lang/Object"))) ∈ BIG := bgA (inT2 209 rfl) rfl
theorem wd_2_210 : (Jvm.Cond.methodLink "java/util/ArrayList" 144 ⟨"java/util/ArrayList", "fastRemove", "([Ljava/lang/Object;I)V"⟩) ∈ BIG := bgA (inT2 210 rfl) rfl
theorem wd_2_212 : (Jvm.Cond.instanceMethod ⟨"java/util/ArrayList", "fastRemove", "([Ljava/lang/Object;I)V"⟩) ∈ BIG := bgA (inT2 212 rfl) rfl
theorem wd_2_213 : (Jvm.Cond.code ⟨"java/util/ArrayList", "fastRemove", "([Ljava/lang/Object;I)V"⟩ prog_19_method_39_code 4 (Option.none : Option Jvm.ClassFile.FieldType)) ∈ BIG := bgA (inT2 213 rfl) rfl
theorem wd_2_214 : (Jvm.Cond.methodLink "java/util/ArrayList" 112 ⟨"java/lang/System", "arraycopy", "(Ljava/lang/Object;ILjava/lang/Object;II)V"⟩) ∈ BIG := bgA (inT2 214 rfl) rfl
theorem wd_2_215 : (Jvm.Cond.methodLink "TollLedgerLaw" 43 ⟨"TollLedger", "offer", "(IIIII)I"⟩) ∈ BIG := bgA (inT2 215 rfl) rfl
theorem wd_2_216 : (Jvm.Cond.instanceMethod ⟨"TollLedger", "offer", "(IIIII)I"⟩) ∈ BIG := bgA (inT2 216 rfl) rfl
theorem wd_2_217 : (Jvm.Cond.selects "TollLedger" ⟨"TollLedger", "offer", "(IIIII)I"⟩ ⟨"TollLedger", "offer", "(IIIII)I"⟩) ∈ BIG := bgA (inT2 217 rfl) rfl
theorem wd_2_218 : (Jvm.Cond.code ⟨"TollLedger", "offer", "(IIIII)I"⟩ prog_1_method_8_code 10 (Option.some Jvm.ClassFile.FieldType.int)) ∈ BIG := bgA (inT2 218 rfl) rfl
theorem wd_2_219 : (Jvm.Cond.methodLink "TollLedger" 135 ⟨"TollLedger$Taking", "planCrossing", "(III)V"⟩) ∈ BIG := bgA (inT2 219 rfl) rfl
theorem wd_2_220 : (Jvm.Cond.instanceMethod ⟨"TollLedger$Taking", "planCrossing", "(III)V"⟩) ∈ BIG := bgA (inT2 220 rfl) rfl
theorem wd_2_221 : (Jvm.Cond.selects "TollLedger$Taking" ⟨"TollLedger$Taking", "planCrossing", "(III)V"⟩ ⟨"TollLedger$Taking", "planCrossing", "(III)V"⟩) ∈ BIG := bgA (inT2 221 rfl) rfl
theorem wd_2_222 : (Jvm.Cond.code ⟨"TollLedger$Taking", "planCrossing", "(III)V"⟩ prog_9_method_4_code 9 (Option.none : Option Jvm.ClassFile.FieldType)) ∈ BIG := bgA (inT2 222 rfl) rfl
theorem wd_2_223 : (Jvm.Cond.methodLink "TollLedger$Taking" 76 ⟨"TollLedger$Taking", "isCrossed", "(LTollLedger$Offer;II)Z"⟩) ∈ BIG := bgA (inT2 223 rfl) rfl
theorem wd_2_224 : (Jvm.Cond.static ⟨"TollLedger$Taking", "isCrossed", "(LTollLedger$Offer;II)Z"⟩) ∈ BIG := bgA (inT2 224 rfl) rfl
theorem wd_2_225 : (Jvm.Cond.code ⟨"TollLedger$Taking", "isCrossed", "(LTollLedger$Offer;II)Z"⟩ prog_9_method_5_code 3 (Option.some Jvm.ClassFile.FieldType.boolean)) ∈ BIG := bgA (inT2 225 rfl) rfl
theorem wd_2_226 : (Jvm.Cond.methodLink "TollLedger$Taking" 100 ⟨"TollLedger$Offer", "mostFor", "(I)J"⟩) ∈ BIG := bgA (inT2 226 rfl) rfl
theorem wd_2_227 : (Jvm.Cond.instanceMethod ⟨"TollLedger$Offer", "mostFor", "(I)J"⟩) ∈ BIG := bgA (inT2 227 rfl) rfl
theorem wd_2_228 : (Jvm.Cond.selects "TollLedger$Offer" ⟨"TollLedger$Offer", "mostFor", "(I)J"⟩ ⟨"TollLedger$Offer", "mostFor", "(I)J"⟩) ∈ BIG := bgA (inT2 228 rfl) rfl
theorem wd_2_229 : (Jvm.Cond.code ⟨"TollLedger$Offer", "mostFor", "(I)J"⟩ prog_7_method_4_code 2 (Option.some Jvm.ClassFile.FieldType.long)) ∈ BIG := bgA (inT2 229 rfl) rfl
theorem wd_2_230 : (Jvm.Cond.methodLink "TollLedger$Taking" 104 ⟨"java/lang/Math", "min", "(JJ)J"⟩) ∈ BIG := bgA (inT2 230 rfl) rfl
theorem wd_2_231 : (Jvm.Cond.static ⟨"java/lang/Math", "min", "(JJ)J"⟩) ∈ BIG := bgA (inT2 231 rfl) rfl
theorem wd_2_232 : (Jvm.Cond.code ⟨"java/lang/Math", "min", "(JJ)J"⟩ prog_15_method_70_code 4 (Option.some Jvm.ClassFile.FieldType.long)) ∈ BIG := bgA (inT2 232 rfl) rfl
theorem wd_2_233 : (Jvm.Cond.methodLink "TollLedger" 141 ⟨"TollLedger$Taking", "countUnfunded", "()I"⟩) ∈ BIG := bgA (inT2 233 rfl) rfl
theorem wd_2_234 : (Jvm.Cond.instanceMethod ⟨"TollLedger$Taking", "countUnfunded", "()I"⟩) ∈ BIG := bgA (inT2 234 rfl) rfl
theorem wd_2_235 : (Jvm.Cond.selects "TollLedger$Taking" ⟨"TollLedger$Taking", "countUnfunded", "()I"⟩ ⟨"TollLedger$Taking", "countUnfunded", "()I"⟩) ∈ BIG := bgA (inT2 235 rfl) rfl
theorem wd_2_236 : (Jvm.Cond.code ⟨"TollLedger$Taking", "countUnfunded", "()I"⟩ prog_9_method_8_code 3 (Option.some Jvm.ClassFile.FieldType.int)) ∈ BIG := bgA (inT2 236 rfl) rfl
theorem wd_2_237 : (Jvm.Cond.methodLink "TollLedger" 145 ⟨"TollLedger", "canPlace", "(I)Z"⟩) ∈ BIG := bgA (inT2 237 rfl) rfl
theorem wd_2_239 : (Jvm.Cond.instanceMethod ⟨"TollLedger", "canPlace", "(I)Z"⟩) ∈ BIG := bgA (inT2 239 rfl) rfl
theorem wd_3_0 : (Jvm.Cond.code ⟨"TollLedger", "canPlace", "(I)Z"⟩ prog_1_method_26_code 2 (Option.some Jvm.ClassFile.FieldType.boolean)) ∈ BIG := bgA (inT3 0 rfl) rfl
theorem wd_3_1 : (Jvm.Cond.methodLink "TollLedger" 183 ⟨"java/util/ArrayList", "size", "()I"⟩) ∈ BIG := bgA (inT3 1 rfl) rfl
theorem wd_3_2 : (Jvm.Cond.methodLink "TollLedger" 154 ⟨"TollLedger$State", "addOffer", "(IIIII)V"⟩) ∈ BIG := bgA (inT3 2 rfl) rfl
theorem wd_3_3 : (Jvm.Cond.instanceMethod ⟨"TollLedger$State", "addOffer", "(IIIII)V"⟩) ∈ BIG := bgA (inT3 3 rfl) rfl
theorem wd_3_4 : (Jvm.Cond.selects "TollLedger$State" ⟨"TollLedger$State", "addOffer", "(IIIII)V"⟩ ⟨"TollLedger$State", "addOffer", "(IIIII)V"⟩) ∈ BIG := bgA (inT3 4 rfl) rfl
theorem wd_3_5 : (Jvm.Cond.code ⟨"TollLedger$State", "addOffer", "(IIIII)V"⟩ prog_8_method_12_code 7 (Option.none : Option Jvm.ClassFile.FieldType)) ∈ BIG := bgA (inT3 5 rfl) rfl
theorem wd_3_6 : (Jvm.Cond.instantiable "TollLedger$Offer" 6) ∈ BIG := bgA (inT3 6 rfl) rfl
theorem wd_3_8 : (Jvm.Cond.instanceMethod ⟨"TollLedger$Offer", "<init>", "()V"⟩) ∈ BIG := bgA (inT3 8 rfl) rfl
theorem wd_3_9 : (Jvm.Cond.code ⟨"TollLedger$Offer", "<init>", "()V"⟩ prog_7_method_1_code 1 (Option.none : Option Jvm.ClassFile.FieldType)) ∈ BIG := bgA (inT3 9 rfl) rfl
theorem wd_3_10 : (Jvm.Cond.methodLink "TollLedger$Offer" 1 ⟨"java/lang/Object", "<init>", "()V"⟩) ∈ BIG := bgA (inT3 10 rfl) rfl
theorem wd_3_11 : (Jvm.Cond.fieldLink "TollLedger$Offer" 16 "TollLedger$Offer" "id" "I") ∈ BIG := bgA (inT3 11 rfl) rfl
theorem wd_3_12 : (Jvm.Cond.fieldLink "TollLedger$State" 105 "TollLedger$Offer" "id" "I") ∈ BIG := bgA (inT3 12 rfl) rfl
theorem wd_3_13 : (Jvm.Cond.fieldLink "TollLedger" 241 "TollLedger$Offer" "id" "I") ∈ BIG := bgA (inT3 13 rfl) rfl
theorem wd_3_14 : (Jvm.Cond.fieldLink "TollLedger$State" 58 "TollLedger$Offer" "owner" "I") ∈ BIG := bgA (inT3 14 rfl) rfl
theorem wd_3_15 : (Jvm.Cond.fieldLink "TollLedger$Book" 36 "TollLedger$Offer" "owner" "I") ∈ BIG := bgA (inT3 15 rfl) rfl
theorem wd_3_16 : (Jvm.Cond.fieldLink "TollLedger$Taking" 83 "TollLedger$Offer" "owner" "I") ∈ BIG := bgA (inT3 16 rfl) rfl
theorem wd_3_17 : (Jvm.Cond.fieldLink "TollLedger$Offer" 19 "TollLedger$Offer" "owner" "I") ∈ BIG := bgA (inT3 17 rfl) rfl
theorem wd_3_18 : (Jvm.Cond.fieldLink "TollLedger" 174 "TollLedger$Offer" "owner" "I") ∈ BIG := bgA (inT3 18 rfl) rfl
theorem wd_3_19 : (Jvm.Cond.fieldLink "TollLedger$Book" 30 "TollLedger$Offer" "wants" "I") ∈ BIG := bgA (inT3 19 rfl) rfl
theorem wd_3_20 : (Jvm.Cond.fieldLink "TollLedger$Offer" 22 "TollLedger$Offer" "wants" "I") ∈ BIG := bgA (inT3 20 rfl) rfl
theorem wd_3_21 : (Jvm.Cond.fieldLink "TollLedger$State" 113 "TollLedger$Offer" "wants" "I") ∈ BIG := bgA (inT3 21 rfl) rfl
theorem wd_3_22 : (Jvm.Cond.fieldLink "TollLedger$Offer" 7 "TollLedger$Offer" "w" "I") ∈ BIG := bgA (inT3 22 rfl) rfl
theorem wd_3_23 : (Jvm.Cond.fieldLink "TollLedger$Taking" 107 "TollLedger$Offer" "w" "I") ∈ BIG := bgA (inT3 23 rfl) rfl
theorem wd_3_24 : (Jvm.Cond.fieldLink "TollLedger$State" 116 "TollLedger$Offer" "w" "I") ∈ BIG := bgA (inT3 24 rfl) rfl
theorem wd_3_25 : (Jvm.Cond.fieldLink "TollLedger" 244 "TollLedger$Offer" "w" "I") ∈ BIG := bgA (inT3 25 rfl) rfl
theorem wd_3_26 : (Jvm.Cond.fieldLink "TollLedger$Book" 33 "TollLedger$Offer" "gives" "I") ∈ BIG := bgA (inT3 26 rfl) rfl
theorem wd_3_27 : (Jvm.Cond.fieldLink "TollLedger$Offer" 25 "TollLedger$Offer" "gives" "I") ∈ BIG := bgA (inT3 27 rfl) rfl
theorem wd_3_28 : (Jvm.Cond.fieldLink "TollLedger$State" 119 "TollLedger$Offer" "gives" "I") ∈ BIG := bgA (inT3 28 rfl) rfl
theorem wd_3_29 : (Jvm.Cond.fieldLink "TollLedger$Offer" 13 "TollLedger$Offer" "g" "I") ∈ BIG := bgA (inT3 29 rfl) rfl
theorem wd_3_30 : (Jvm.Cond.fieldLink "TollLedger$Taking" 110 "TollLedger$Offer" "g" "I") ∈ BIG := bgA (inT3 30 rfl) rfl
theorem wd_3_31 : (Jvm.Cond.fieldLink "TollLedger$State" 122 "TollLedger$Offer" "g" "I") ∈ BIG := bgA (inT3 31 rfl) rfl
theorem wd_3_32 : (Jvm.Cond.fieldLink "TollLedger" 247 "TollLedger$Offer" "g" "I") ∈ BIG := bgA (inT3 32 rfl) rfl
theorem wd_3_46 : (Jvm.Cond.methodLink "TollLedger$State" 125 ⟨"java/util/ArrayList", "add", "(Ljava/lang/Object;)Z"⟩) ∈ BIG := bgA (inT3 46 rfl) rfl
theorem wd_3_47 : (Jvm.Cond.instanceMethod ⟨"java/util/ArrayList", "add", "(Ljava/lang/Object;)Z"⟩) ∈ BIG := bgA (inT3 47 rfl) rfl
theorem wd_3_48 : (Jvm.Cond.selects "java/util/ArrayList" ⟨"java/util/ArrayList", "add", "(Ljava/lang/Object;)Z"⟩ ⟨"java/util/ArrayList", "add", "(Ljava/lang/Object;)Z"⟩) ∈ BIG := bgA (inT3 48 rfl) rfl
theorem wd_3_49 : (Jvm.Cond.code ⟨"java/util/ArrayList", "add", "(Ljava/lang/Object;)Z"⟩ prog_19_method_25_code 2 (Option.some Jvm.ClassFile.FieldType.boolean)) ∈ BIG := bgA (inT3 49 rfl) rfl
theorem wd_3_50 : (Jvm.Cond.methodLink "java/util/ArrayList" 131 ⟨"java/util/ArrayList", "add", "(Ljava/lang/Object;[Ljava/lang/Object;I)V"⟩) ∈ BIG := bgA (inT3 50 rfl) rfl
theorem wd_3_52 : (Jvm.Cond.instanceMethod ⟨"java/util/ArrayList", "add", "(Ljava/lang/Object;[Ljava/lang/Object;I)V"⟩) ∈ BIG := bgA (inT3 52 rfl) rfl
theorem wd_3_53 : (Jvm.Cond.code ⟨"java/util/ArrayList", "add", "(Ljava/lang/Object;[Ljava/lang/Object;I)V"⟩ prog_19_method_24_code 4 (Option.none : Option Jvm.ClassFile.FieldType)) ∈ BIG := bgA (inT3 53 rfl) rfl
theorem wd_3_54 : (Jvm.Cond.methodLink "java/util/ArrayList" 129 ⟨"java/util/ArrayList", "grow", "()[Ljava/lang/Object;"⟩) ∈ BIG := bgA (inT3 54 rfl) rfl
theorem wd_3_56 : (Jvm.Cond.instanceMethod ⟨"java/util/ArrayList", "grow", "()[Ljava/lang/Object;"⟩) ∈ BIG := bgA (inT3 56 rfl) rfl
theorem wd_3_57 : (Jvm.Cond.code ⟨"java/util/ArrayList", "grow", "()[Ljava/lang/Object;"⟩ prog_19_method_7_code 1 (Option.some (Jvm.ClassFile.FieldType.array (Jvm.ClassFile.FieldType.object "java/lang/Object")))) ∈ BIG := bgA (inT3 57 rfl) rfl
theorem wd_3_58 : (Jvm.Cond.methodLink "java/util/ArrayList" 69 ⟨"java/util/ArrayList", "grow", "(I)[Ljava/lang/Object;"⟩) ∈ BIG := bgA (inT3 58 rfl) rfl
theorem wd_3_60 : (Jvm.Cond.instanceMethod ⟨"java/util/ArrayList", "grow", "(I)[Ljava/lang/Object;"⟩) ∈ BIG := bgA (inT3 60 rfl) rfl
theorem wd_3_61 : (Jvm.Cond.code ⟨"java/util/ArrayList", "grow", "(I)[Ljava/lang/Object;"⟩ prog_19_method_6_code 4 (Option.some (Jvm.ClassFile.FieldType.array (Jvm.ClassFile.FieldType.object "java/lang/Object")))) ∈ BIG := bgA (inT3 61 rfl) rfl
theorem wd_3_62 : (Jvm.Cond.methodLink "java/util/ArrayList" 73 ⟨"jdk/internal/util/ArraysSupport", "newLength", "(III)I"⟩) ∈ BIG := bgA (inT3 62 rfl) rfl
theorem wd_3_63 : (Jvm.Cond.static ⟨"jdk/internal/util/ArraysSupport", "newLength", "(III)I"⟩) ∈ BIG := bgA (inT3 63 rfl) rfl
theorem wd_3_64 : (Jvm.Cond.code ⟨"jdk/internal/util/ArraysSupport", "newLength", "(III)I"⟩ prog_26_method_27_code 4 (Option.some Jvm.ClassFile.FieldType.int)) ∈ BIG := bgA (inT3 64 rfl) rfl
theorem wd_3_65 : (Jvm.Cond.methodLink "jdk/internal/util/ArraysSupport" 194 ⟨"java/lang/Math", "max", "(II)I"⟩) ∈ BIG := bgA (inT3 65 rfl) rfl
theorem wd_3_66 : (Jvm.Cond.constant "jdk/internal/util/ArraysSupport" 200 (2147483639 : Int32)) ∈ BIG := bgA (inT3 66 rfl) rfl
theorem wd_3_67 : (Jvm.Cond.methodLink "jdk/internal/util/ArraysSupport" 201 ⟨"jdk/internal/util/ArraysSupport", "hugeLength", "(II)I"⟩) ∈ BIG := bgA (inT3 67 rfl) rfl
theorem wd_3_68 : (Jvm.Cond.static ⟨"jdk/internal/util/ArraysSupport", "hugeLength", "(II)I"⟩) ∈ BIG := bgA (inT3 68 rfl) rfl
theorem wd_3_69 : (Jvm.Cond.code ⟨"jdk/internal/util/ArraysSupport", "hugeLength", "(II)I"⟩ prog_26_method_28_code 3 (Option.some Jvm.ClassFile.FieldType.int)) ∈ BIG := bgA (inT3 69 rfl) rfl
theorem wd_3_70 : (Jvm.Cond.methodLink "java/util/ArrayList" 66 ⟨"java/util/Arrays", "copyOf", "([Ljava/lang/Object;I)[Ljava/lang/Object;"⟩) ∈ BIG := bgA (inT3 70 rfl) rfl
theorem wd_3_71 : (Jvm.Cond.static ⟨"java/util/Arrays", "copyOf", "([Ljava/lang/Object;I)[Ljava/lang/Object;"⟩) ∈ BIG := bgA (inT3 71 rfl) rfl
theorem wd_3_72 : (Jvm.Cond.code ⟨"java/util/Arrays", "copyOf", "([Ljava/lang/Object;I)[Ljava/lang/Object;"⟩ prog_20_method_119_code 2 (Option.some (Jvm.ClassFile.FieldType.array (Jvm.ClassFile.FieldType.object "java/lang/Object")))) ∈ BIG := bgA (inT3 72 rfl) rfl
theorem wd_3_73 : (Jvm.Cond.methodLink "java/util/Arrays" 86 ⟨"java/lang/Object", "getClass", "()Ljava/lang/Class;"⟩) ∈ BIG := bgA (inT3 73 rfl) rfl
theorem wd_3_74 : (Jvm.Cond.instanceMethod ⟨"java/lang/Object", "getClass", "()Ljava/lang/Class;"⟩) ∈ BIG := bgA (inT3 74 rfl) rfl
theorem wd_3_75 : (Jvm.Cond.sameMethod "java/lang/Object" "java/lang/Object" "getClass" "()Ljava/lang/Class;") ∈ BIG := bgA (inT3 75 rfl) rfl
theorem wd_3_76 : (Jvm.Cond.selects "TollLedger" ⟨"java/lang/Object", "getClass", "()Ljava/lang/Class;"⟩ ⟨"java/lang/Object", "getClass", "()Ljava/lang/Class;"⟩) ∈ BIG := bgA (inT3 76 rfl) rfl
theorem wd_3_77 : (Jvm.Cond.selects "TollLedger$Account" ⟨"java/lang/Object", "getClass", "()Ljava/lang/Class;"⟩ ⟨"java/lang/Object", "getClass", "()Ljava/lang/Class;"⟩) ∈ BIG := bgA (inT3 77 rfl) rfl
theorem wd_3_78 : (Jvm.Cond.selects "TollLedger$Book" ⟨"java/lang/Object", "getClass", "()Ljava/lang/Class;"⟩ ⟨"java/lang/Object", "getClass", "()Ljava/lang/Class;"⟩) ∈ BIG := bgA (inT3 78 rfl) rfl
theorem wd_3_79 : (Jvm.Cond.selects "TollLedger$Deposit" ⟨"java/lang/Object", "getClass", "()Ljava/lang/Class;"⟩ ⟨"java/lang/Object", "getClass", "()Ljava/lang/Class;"⟩) ∈ BIG := bgA (inT3 79 rfl) rfl
theorem wd_3_80 : (Jvm.Cond.selects "TollLedger$Leaves" ⟨"java/lang/Object", "getClass", "()Ljava/lang/Class;"⟩ ⟨"java/lang/Object", "getClass", "()Ljava/lang/Class;"⟩) ∈ BIG := bgA (inT3 80 rfl) rfl
theorem wd_3_81 : (Jvm.Cond.selects "TollLedger$Lines" ⟨"java/lang/Object", "getClass", "()Ljava/lang/Class;"⟩ ⟨"java/lang/Object", "getClass", "()Ljava/lang/Class;"⟩) ∈ BIG := bgA (inT3 81 rfl) rfl
theorem wd_3_82 : (Jvm.Cond.selects "TollLedger$Offer" ⟨"java/lang/Object", "getClass", "()Ljava/lang/Class;"⟩ ⟨"java/lang/Object", "getClass", "()Ljava/lang/Class;"⟩) ∈ BIG := bgA (inT3 82 rfl) rfl
theorem wd_3_83 : (Jvm.Cond.selects "TollLedger$State" ⟨"java/lang/Object", "getClass", "()Ljava/lang/Class;"⟩ ⟨"java/lang/Object", "getClass", "()Ljava/lang/Class;"⟩) ∈ BIG := bgA (inT3 83 rfl) rfl
theorem wd_3_84 : (Jvm.Cond.selects "TollLedger$Taking" ⟨"java/lang/Object", "getClass", "()Ljava/lang/Class;"⟩ ⟨"java/lang/Object", "getClass", "()Ljava/lang/Class;"⟩) ∈ BIG := bgA (inT3 84 rfl) rfl
theorem wd_3_85 : (Jvm.Cond.selects "TollLedgerModel" ⟨"java/lang/Object", "getClass", "()Ljava/lang/Class;"⟩ ⟨"java/lang/Object", "getClass", "()Ljava/lang/Class;"⟩) ∈ BIG := bgA (inT3 85 rfl) rfl
theorem wd_3_86 : (Jvm.Cond.selects "java/util/ArrayList" ⟨"java/lang/Object", "getClass", "()Ljava/lang/Class;"⟩ ⟨"java/lang/Object", "getClass", "()Ljava/lang/Class;"⟩) ∈ BIG := bgA (inT3 86 rfl) rfl
theorem wd_3_87 : (Jvm.Cond.native ⟨"java/lang/Object", "getClass", "()Ljava/lang/Class;"⟩) ∈ BIG := bgA (inT3 87 rfl) rfl
theorem wd_3_88 : (Jvm.Cond.methodLink "java/util/Arrays" 300 ⟨"java/util/Arrays", "copyOf", "([Ljava/lang/Object;ILjava/lang/Class;)[Ljava/lang/Object;"⟩) ∈ BIG := bgA (inT3 88 rfl) rfl
theorem wd_3_89 : (Jvm.Cond.static ⟨"java/util/Arrays", "copyOf", "([Ljava/lang/Object;ILjava/lang/Class;)[Ljava/lang/Object;"⟩) ∈ BIG := bgA (inT3 89 rfl) rfl
theorem wd_3_90 : (Jvm.Cond.code ⟨"java/util/Arrays", "copyOf", "([Ljava/lang/Object;ILjava/lang/Class;)[Ljava/lang/Object;"⟩ prog_20_method_120_code 4 (Option.some (Jvm.ClassFile.FieldType.array (Jvm.ClassFile.FieldType.object "java/lang/Object")))) ∈ BIG := bgA (inT3 90 rfl) rfl
theorem wd_3_91 : (Jvm.Cond.classLink "java/util/Arrays" 110 "[Ljava/lang/Object;") ∈ BIG := bgA (inT3 91 rfl) rfl
theorem wd_3_93 : (Jvm.Cond.classLink "java/util/Arrays" 2 "java/lang/Object") ∈ BIG := bgA (inT3 93 rfl) rfl
theorem wd_3_94 : (Jvm.Cond.methodLink "java/util/Arrays" 304 ⟨"java/lang/Math", "min", "(II)I"⟩) ∈ BIG := bgA (inT3 94 rfl) rfl
theorem wd_3_95 : (Jvm.Cond.methodLink "java/util/Arrays" 150 ⟨"java/lang/System", "arraycopy", "(Ljava/lang/Object;ILjava/lang/Object;II)V"⟩) ∈ BIG := bgA (inT3 95 rfl) rfl
theorem wd_3_96 : (Jvm.Cond.methodLink "java/util/ArrayList" 79 ⟨"java/lang/Math", "max", "(II)I"⟩) ∈ BIG := bgA (inT3 96 rfl) rfl
theorem wd_3_97 : (Jvm.Cond.classLink "java/util/ArrayList" 7 "java/lang/Object") ∈ BIG := bgA (inT3 97 rfl) rfl
theorem wd_3_98 : (Jvm.Cond.methodLink "TollLedgerLaw" 48 ⟨"TollLedger", "cancel", "(I)I"⟩) ∈ BIG := bgA (inT3 98 rfl) rfl
theorem wd_3_99 : (Jvm.Cond.instanceMethod ⟨"TollLedger", "cancel", "(I)I"⟩) ∈ BIG := bgA (inT3 99 rfl) rfl
theorem wd_3_100 : (Jvm.Cond.selects "TollLedger" ⟨"TollLedger", "cancel", "(I)I"⟩ ⟨"TollLedger", "cancel", "(I)I"⟩) ∈ BIG := bgA (inT3 100 rfl) rfl
theorem wd_3_101 : (Jvm.Cond.code ⟨"TollLedger", "cancel", "(I)I"⟩ prog_1_method_9_code 4 (Option.some Jvm.ClassFile.FieldType.int)) ∈ BIG := bgA (inT3 101 rfl) rfl
theorem wd_3_102 : (Jvm.Cond.methodLink "TollLedger" 158 ⟨"TollLedger$State", "placeOfOffer", "(I)I"⟩) ∈ BIG := bgA (inT3 102 rfl) rfl
theorem wd_3_103 : (Jvm.Cond.instanceMethod ⟨"TollLedger$State", "placeOfOffer", "(I)I"⟩) ∈ BIG := bgA (inT3 103 rfl) rfl
theorem wd_3_104 : (Jvm.Cond.selects "TollLedger$State" ⟨"TollLedger$State", "placeOfOffer", "(I)I"⟩ ⟨"TollLedger$State", "placeOfOffer", "(I)I"⟩) ∈ BIG := bgA (inT3 104 rfl) rfl
theorem wd_3_105 : (Jvm.Cond.code ⟨"TollLedger$State", "placeOfOffer", "(I)I"⟩ prog_8_method_10_code 3 (Option.some Jvm.ClassFile.FieldType.int)) ∈ BIG := bgA (inT3 105 rfl) rfl
theorem wd_3_106 : (Jvm.Cond.methodLink "TollLedger" 166 ⟨"java/util/ArrayList", "get", "(I)Ljava/lang/Object;"⟩) ∈ BIG := bgA (inT3 106 rfl) rfl
theorem wd_3_107 : (Jvm.Cond.classLink "TollLedger" 172 "TollLedger$Offer") ∈ BIG := bgA (inT3 107 rfl) rfl
theorem wd_3_108 : (Jvm.Cond.methodLink "TollLedger" 177 ⟨"java/util/ArrayList", "remove", "(I)Ljava/lang/Object;"⟩) ∈ BIG := bgA (inT3 108 rfl) rfl
theorem wd_3_109 : (Jvm.Cond.methodLink "TollLedgerLaw" 52 ⟨"TollLedger", "deposit", "(IIII)I"⟩) ∈ BIG := bgA (inT3 109 rfl) rfl
theorem wd_3_110 : (Jvm.Cond.instanceMethod ⟨"TollLedger", "deposit", "(IIII)I"⟩) ∈ BIG := bgA (inT3 110 rfl) rfl
theorem wd_3_111 : (Jvm.Cond.selects "TollLedger" ⟨"TollLedger", "deposit", "(IIII)I"⟩ ⟨"TollLedger", "deposit", "(IIII)I"⟩) ∈ BIG := bgA (inT3 111 rfl) rfl
theorem wd_3_112 : (Jvm.Cond.code ⟨"TollLedger", "deposit", "(IIII)I"⟩ prog_1_method_10_code 6 (Option.some Jvm.ClassFile.FieldType.int)) ∈ BIG := bgA (inT3 112 rfl) rfl
theorem wd_3_113 : (Jvm.Cond.methodLink "TollLedger" 186 ⟨"TollLedger$State", "addDeposit", "(IIIII)V"⟩) ∈ BIG := bgA (inT3 113 rfl) rfl
theorem wd_3_114 : (Jvm.Cond.instanceMethod ⟨"TollLedger$State", "addDeposit", "(IIIII)V"⟩) ∈ BIG := bgA (inT3 114 rfl) rfl
theorem wd_3_115 : (Jvm.Cond.selects "TollLedger$State" ⟨"TollLedger$State", "addDeposit", "(IIIII)V"⟩ ⟨"TollLedger$State", "addDeposit", "(IIIII)V"⟩) ∈ BIG := bgA (inT3 115 rfl) rfl
theorem wd_3_116 : (Jvm.Cond.code ⟨"TollLedger$State", "addDeposit", "(IIIII)V"⟩ prog_8_method_13_code 7 (Option.none : Option Jvm.ClassFile.FieldType)) ∈ BIG := bgA (inT3 116 rfl) rfl
theorem wd_3_117 : (Jvm.Cond.instantiable "TollLedger$Deposit" 6) ∈ BIG := bgA (inT3 117 rfl) rfl
theorem wd_3_119 : (Jvm.Cond.instanceMethod ⟨"TollLedger$Deposit", "<init>", "()V"⟩) ∈ BIG := bgA (inT3 119 rfl) rfl
theorem wd_3_120 : (Jvm.Cond.code ⟨"TollLedger$Deposit", "<init>", "()V"⟩ prog_4_method_1_code 1 (Option.none : Option Jvm.ClassFile.FieldType)) ∈ BIG := bgA (inT3 120 rfl) rfl
theorem wd_3_121 : (Jvm.Cond.methodLink "TollLedger$Deposit" 1 ⟨"java/lang/Object", "<init>", "()V"⟩) ∈ BIG := bgA (inT3 121 rfl) rfl
theorem wd_3_122 : (Jvm.Cond.fieldLink "TollLedger$Deposit" 7 "TollLedger$Deposit" "id" "I") ∈ BIG := bgA (inT3 122 rfl) rfl
theorem wd_3_123 : (Jvm.Cond.fieldLink "TollLedger$State" 108 "TollLedger$Deposit" "id" "I") ∈ BIG := bgA (inT3 123 rfl) rfl
theorem wd_3_124 : (Jvm.Cond.fieldLink "TollLedger$Deposit" 13 "TollLedger$Deposit" "from" "I") ∈ BIG := bgA (inT3 124 rfl) rfl
theorem wd_3_125 : (Jvm.Cond.fieldLink "TollLedger$State" 63 "TollLedger$Deposit" "from" "I") ∈ BIG := bgA (inT3 125 rfl) rfl
theorem wd_3_126 : (Jvm.Cond.fieldLink "TollLedger" 206 "TollLedger$Deposit" "from" "I") ∈ BIG := bgA (inT3 126 rfl) rfl
theorem wd_3_127 : (Jvm.Cond.fieldLink "TollLedger$Deposit" 16 "TollLedger$Deposit" "to" "I") ∈ BIG := bgA (inT3 127 rfl) rfl
theorem wd_3_128 : (Jvm.Cond.fieldLink "TollLedger" 203 "TollLedger$Deposit" "to" "I") ∈ BIG := bgA (inT3 128 rfl) rfl
theorem wd_3_129 : (Jvm.Cond.fieldLink "TollLedger$State" 133 "TollLedger$Deposit" "to" "I") ∈ BIG := bgA (inT3 129 rfl) rfl
theorem wd_3_130 : (Jvm.Cond.fieldLink "TollLedger$Deposit" 19 "TollLedger$Deposit" "coins" "I") ∈ BIG := bgA (inT3 130 rfl) rfl
theorem wd_3_131 : (Jvm.Cond.fieldLink "TollLedger" 209 "TollLedger$Deposit" "coins" "I") ∈ BIG := bgA (inT3 131 rfl) rfl
theorem wd_3_132 : (Jvm.Cond.fieldLink "TollLedger$State" 136 "TollLedger$Deposit" "coins" "I") ∈ BIG := bgA (inT3 132 rfl) rfl
theorem wd_3_133 : (Jvm.Cond.fieldLink "TollLedger$Deposit" 22 "TollLedger$Deposit" "after" "I") ∈ BIG := bgA (inT3 133 rfl) rfl
theorem wd_3_134 : (Jvm.Cond.fieldLink "TollLedger" 197 "TollLedger$Deposit" "after" "I") ∈ BIG := bgA (inT3 134 rfl) rfl
theorem wd_3_135 : (Jvm.Cond.fieldLink "TollLedger$State" 137 "TollLedger$Deposit" "after" "I") ∈ BIG := bgA (inT3 135 rfl) rfl
theorem wd_3_136 : (Jvm.Cond.fieldLink "TollLedger$Deposit" 25 "TollLedger$Deposit" "until" "I") ∈ BIG := bgA (inT3 136 rfl) rfl
theorem wd_3_137 : (Jvm.Cond.fieldLink "TollLedger" 200 "TollLedger$Deposit" "until" "I") ∈ BIG := bgA (inT3 137 rfl) rfl
theorem wd_3_138 : (Jvm.Cond.fieldLink "TollLedger$State" 140 "TollLedger$Deposit" "until" "I") ∈ BIG := bgA (inT3 138 rfl) rfl
theorem wd_3_152 : (Jvm.Cond.methodLink "TollLedgerLaw" 57 ⟨"TollLedger", "settle", "(I)I"⟩) ∈ BIG := bgA (inT3 152 rfl) rfl
theorem wd_3_153 : (Jvm.Cond.instanceMethod ⟨"TollLedger", "settle", "(I)I"⟩) ∈ BIG := bgA (inT3 153 rfl) rfl
theorem wd_3_154 : (Jvm.Cond.selects "TollLedger" ⟨"TollLedger", "settle", "(I)I"⟩ ⟨"TollLedger", "settle", "(I)I"⟩) ∈ BIG := bgA (inT3 154 rfl) rfl
theorem wd_3_155 : (Jvm.Cond.code ⟨"TollLedger", "settle", "(I)I"⟩ prog_1_method_11_code 5 (Option.some Jvm.ClassFile.FieldType.int)) ∈ BIG := bgA (inT3 155 rfl) rfl
theorem wd_3_156 : (Jvm.Cond.methodLink "TollLedger" 189 ⟨"TollLedger$State", "placeOfDeposit", "(I)I"⟩) ∈ BIG := bgA (inT3 156 rfl) rfl
theorem wd_3_157 : (Jvm.Cond.instanceMethod ⟨"TollLedger$State", "placeOfDeposit", "(I)I"⟩) ∈ BIG := bgA (inT3 157 rfl) rfl
theorem wd_3_158 : (Jvm.Cond.selects "TollLedger$State" ⟨"TollLedger$State", "placeOfDeposit", "(I)I"⟩ ⟨"TollLedger$State", "placeOfDeposit", "(I)I"⟩) ∈ BIG := bgA (inT3 158 rfl) rfl
theorem wd_3_159 : (Jvm.Cond.code ⟨"TollLedger$State", "placeOfDeposit", "(I)I"⟩ prog_8_method_11_code 3 (Option.some Jvm.ClassFile.FieldType.int)) ∈ BIG := bgA (inT3 159 rfl) rfl
theorem wd_3_160 : (Jvm.Cond.classLink "TollLedger" 192 "TollLedger$Deposit") ∈ BIG := bgA (inT3 160 rfl) rfl
theorem wd_3_161 : (Jvm.Cond.methodLink "TollLedgerLaw" 61 ⟨"TollLedger", "tick", "(I)I"⟩) ∈ BIG := bgA (inT3 161 rfl) rfl
theorem wd_3_162 : (Jvm.Cond.instanceMethod ⟨"TollLedger", "tick", "(I)I"⟩) ∈ BIG := bgA (inT3 162 rfl) rfl
theorem wd_3_163 : (Jvm.Cond.selects "TollLedger" ⟨"TollLedger", "tick", "(I)I"⟩ ⟨"TollLedger", "tick", "(I)I"⟩) ∈ BIG := bgA (inT3 163 rfl) rfl
theorem wd_3_164 : (Jvm.Cond.code ⟨"TollLedger", "tick", "(I)I"⟩ prog_1_method_12_code 2 (Option.some Jvm.ClassFile.FieldType.int)) ∈ BIG := bgA (inT3 164 rfl) rfl
theorem wd_3_165 : (Jvm.Cond.methodLink "TollLedgerLaw" 65 ⟨"TollLedger", "account", "(II)I"⟩) ∈ BIG := bgA (inT3 165 rfl) rfl
theorem wd_3_166 : (Jvm.Cond.instanceMethod ⟨"TollLedger", "account", "(II)I"⟩) ∈ BIG := bgA (inT3 166 rfl) rfl
theorem wd_3_167 : (Jvm.Cond.selects "TollLedger" ⟨"TollLedger", "account", "(II)I"⟩ ⟨"TollLedger", "account", "(II)I"⟩) ∈ BIG := bgA (inT3 167 rfl) rfl
theorem wd_3_168 : (Jvm.Cond.code ⟨"TollLedger", "account", "(II)I"⟩ prog_1_method_13_code 3 (Option.some Jvm.ClassFile.FieldType.int)) ∈ BIG := bgA (inT3 168 rfl) rfl
theorem wd_3_169 : (Jvm.Cond.methodLink "TollLedger" 216 ⟨"TollLedger$State", "piecesOf", "(I)I"⟩) ∈ BIG := bgA (inT3 169 rfl) rfl
theorem wd_3_170 : (Jvm.Cond.methodLink "TollLedgerLaw" 69 ⟨"TollLedger", "balance", "(III)I"⟩) ∈ BIG := bgA (inT3 170 rfl) rfl
theorem wd_3_171 : (Jvm.Cond.instanceMethod ⟨"TollLedger", "balance", "(III)I"⟩) ∈ BIG := bgA (inT3 171 rfl) rfl
theorem wd_3_172 : (Jvm.Cond.selects "TollLedger" ⟨"TollLedger", "balance", "(III)I"⟩ ⟨"TollLedger", "balance", "(III)I"⟩) ∈ BIG := bgA (inT3 172 rfl) rfl
theorem wd_3_173 : (Jvm.Cond.code ⟨"TollLedger", "balance", "(III)I"⟩ prog_1_method_14_code 4 (Option.some Jvm.ClassFile.FieldType.int)) ∈ BIG := bgA (inT3 173 rfl) rfl
theorem wd_3_174 : (Jvm.Cond.methodLink "TollLedger" 219 ⟨"TollLedger", "isLine", "(III)Z"⟩) ∈ BIG := bgA (inT3 174 rfl) rfl
theorem wd_3_175 : (Jvm.Cond.static ⟨"TollLedger", "isLine", "(III)Z"⟩) ∈ BIG := bgA (inT3 175 rfl) rfl
theorem wd_3_176 : (Jvm.Cond.code ⟨"TollLedger", "isLine", "(III)Z"⟩ prog_1_method_32_code 3 (Option.some Jvm.ClassFile.FieldType.boolean)) ∈ BIG := bgA (inT3 176 rfl) rfl
theorem wd_3_177 : (Jvm.Cond.methodLink "TollLedgerLaw" 73 ⟨"TollLedger", "limit", "(III)I"⟩) ∈ BIG := bgA (inT3 177 rfl) rfl
theorem wd_3_178 : (Jvm.Cond.instanceMethod ⟨"TollLedger", "limit", "(III)I"⟩) ∈ BIG := bgA (inT3 178 rfl) rfl
theorem wd_3_179 : (Jvm.Cond.selects "TollLedger" ⟨"TollLedger", "limit", "(III)I"⟩ ⟨"TollLedger", "limit", "(III)I"⟩) ∈ BIG := bgA (inT3 179 rfl) rfl
theorem wd_3_180 : (Jvm.Cond.code ⟨"TollLedger", "limit", "(III)I"⟩ prog_1_method_15_code 5 (Option.some Jvm.ClassFile.FieldType.int)) ∈ BIG := bgA (inT3 180 rfl) rfl
theorem wd_3_181 : (Jvm.Cond.methodLink "TollLedgerLaw" 77 ⟨"TollLedger", "funds", "(II)I"⟩) ∈ BIG := bgA (inT3 181 rfl) rfl
theorem wd_3_182 : (Jvm.Cond.instanceMethod ⟨"TollLedger", "funds", "(II)I"⟩) ∈ BIG := bgA (inT3 182 rfl) rfl
theorem wd_3_183 : (Jvm.Cond.selects "TollLedger" ⟨"TollLedger", "funds", "(II)I"⟩ ⟨"TollLedger", "funds", "(II)I"⟩) ∈ BIG := bgA (inT3 183 rfl) rfl
theorem wd_3_184 : (Jvm.Cond.code ⟨"TollLedger", "funds", "(II)I"⟩ prog_1_method_16_code 3 (Option.some Jvm.ClassFile.FieldType.int)) ∈ BIG := bgA (inT3 184 rfl) rfl
theorem wd_3_185 : (Jvm.Cond.methodLink "TollLedgerLaw" 81 ⟨"TollLedger", "book", "(III)I"⟩) ∈ BIG := bgA (inT3 185 rfl) rfl
theorem wd_3_186 : (Jvm.Cond.instanceMethod ⟨"TollLedger", "book", "(III)I"⟩) ∈ BIG := bgA (inT3 186 rfl) rfl
theorem wd_3_187 : (Jvm.Cond.selects "TollLedger" ⟨"TollLedger", "book", "(III)I"⟩ ⟨"TollLedger", "book", "(III)I"⟩) ∈ BIG := bgA (inT3 187 rfl) rfl
theorem wd_3_188 : (Jvm.Cond.code ⟨"TollLedger", "book", "(III)I"⟩ prog_1_method_17_code 4 (Option.some Jvm.ClassFile.FieldType.int)) ∈ BIG := bgA (inT3 188 rfl) rfl
theorem wd_3_189 : (Jvm.Cond.methodLink "TollLedger" 229 ⟨"TollLedger$Book", "gather", "(Ljava/util/ArrayList;III)V"⟩) ∈ BIG := bgA (inT3 189 rfl) rfl
theorem wd_3_190 : (Jvm.Cond.methodLink "TollLedgerLaw" 85 ⟨"TollLedger", "offerOf", "(II)I"⟩) ∈ BIG := bgA (inT3 190 rfl) rfl
theorem wd_3_191 : (Jvm.Cond.instanceMethod ⟨"TollLedger", "offerOf", "(II)I"⟩) ∈ BIG := bgA (inT3 191 rfl) rfl
theorem wd_3_192 : (Jvm.Cond.selects "TollLedger" ⟨"TollLedger", "offerOf", "(II)I"⟩ ⟨"TollLedger", "offerOf", "(II)I"⟩) ∈ BIG := bgA (inT3 192 rfl) rfl
theorem wd_3_193 : (Jvm.Cond.code ⟨"TollLedger", "offerOf", "(II)I"⟩ prog_1_method_18_code 5 (Option.some Jvm.ClassFile.FieldType.int)) ∈ BIG := bgA (inT3 193 rfl) rfl
theorem wd_3_194 : (Jvm.Cond.methodLink "TollLedgerLaw" 89 ⟨"TollLedger", "depositOf", "(I)I"⟩) ∈ BIG := bgA (inT3 194 rfl) rfl
theorem wd_3_195 : (Jvm.Cond.instanceMethod ⟨"TollLedger", "depositOf", "(I)I"⟩) ∈ BIG := bgA (inT3 195 rfl) rfl
theorem wd_3_196 : (Jvm.Cond.selects "TollLedger" ⟨"TollLedger", "depositOf", "(I)I"⟩ ⟨"TollLedger", "depositOf", "(I)I"⟩) ∈ BIG := bgA (inT3 196 rfl) rfl
theorem wd_3_197 : (Jvm.Cond.code ⟨"TollLedger", "depositOf", "(I)I"⟩ prog_1_method_19_code 3 (Option.some Jvm.ClassFile.FieldType.int)) ∈ BIG := bgA (inT3 197 rfl) rfl
theorem wd_3_198 : (Jvm.Cond.methodLink "TollLedgerLaw" 93 ⟨"TollLedger", "burnt", "()I"⟩) ∈ BIG := bgA (inT3 198 rfl) rfl
theorem wd_3_199 : (Jvm.Cond.instanceMethod ⟨"TollLedger", "burnt", "()I"⟩) ∈ BIG := bgA (inT3 199 rfl) rfl
theorem wd_3_200 : (Jvm.Cond.selects "TollLedger" ⟨"TollLedger", "burnt", "()I"⟩ ⟨"TollLedger", "burnt", "()I"⟩) ∈ BIG := bgA (inT3 200 rfl) rfl
theorem wd_3_201 : (Jvm.Cond.code ⟨"TollLedger", "burnt", "()I"⟩ prog_1_method_20_code 1 (Option.some Jvm.ClassFile.FieldType.int)) ∈ BIG := bgA (inT3 201 rfl) rfl
theorem wd_3_202 : (Jvm.Cond.methodLink "TollLedgerLaw" 98 ⟨"TollLedger", "root", "()I"⟩) ∈ BIG := bgA (inT3 202 rfl) rfl
theorem wd_3_203 : (Jvm.Cond.instanceMethod ⟨"TollLedger", "root", "()I"⟩) ∈ BIG := bgA (inT3 203 rfl) rfl
theorem wd_3_204 : (Jvm.Cond.selects "TollLedger" ⟨"TollLedger", "root", "()I"⟩ ⟨"TollLedger", "root", "()I"⟩) ∈ BIG := bgA (inT3 204 rfl) rfl
theorem wd_3_205 : (Jvm.Cond.code ⟨"TollLedger", "root", "()I"⟩ prog_1_method_21_code 1 (Option.some Jvm.ClassFile.FieldType.int)) ∈ BIG := bgA (inT3 205 rfl) rfl
theorem wd_3_206 : (Jvm.Cond.methodLink "TollLedger" 253 ⟨"TollLedger$Leaves", "fill", "(LTollLedger$State;)V"⟩) ∈ BIG := bgA (inT3 206 rfl) rfl
theorem wd_3_207 : (Jvm.Cond.instanceMethod ⟨"TollLedger$Leaves", "fill", "(LTollLedger$State;)V"⟩) ∈ BIG := bgA (inT3 207 rfl) rfl
theorem wd_3_208 : (Jvm.Cond.selects "TollLedger$Leaves" ⟨"TollLedger$Leaves", "fill", "(LTollLedger$State;)V"⟩ ⟨"TollLedger$Leaves", "fill", "(LTollLedger$State;)V"⟩) ∈ BIG := bgA (inT3 208 rfl) rfl
theorem wd_3_209 : (Jvm.Cond.code ⟨"TollLedger$Leaves", "fill", "(LTollLedger$State;)V"⟩ prog_5_method_2_code 3 (Option.none : Option Jvm.ClassFile.FieldType)) ∈ BIG := bgA (inT3 209 rfl) rfl
theorem wd_3_210 : (Jvm.Cond.methodLink "TollLedger$Leaves" 15 ⟨"java/util/Arrays", "fill", "([II)V"⟩) ∈ BIG := bgA (inT3 210 rfl) rfl
theorem wd_3_211 : (Jvm.Cond.static ⟨"java/util/Arrays", "fill", "([II)V"⟩) ∈ BIG := bgA (inT3 211 rfl) rfl
theorem wd_3_212 : (Jvm.Cond.code ⟨"java/util/Arrays", "fill", "([II)V"⟩ prog_20_method_103_code 4 (Option.none : Option Jvm.ClassFile.FieldType)) ∈ BIG := bgA (inT3 212 rfl) rfl
theorem wd_3_213 : (Jvm.Cond.methodLink "TollLedger$Leaves" 27 ⟨"TollLedger$Account", "leaf", "()I"⟩) ∈ BIG := bgA (inT3 213 rfl) rfl
theorem wd_3_214 : (Jvm.Cond.instanceMethod ⟨"TollLedger$Account", "leaf", "()I"⟩) ∈ BIG := bgA (inT3 214 rfl) rfl
theorem wd_3_215 : (Jvm.Cond.selects "TollLedger$Account" ⟨"TollLedger$Account", "leaf", "()I"⟩ ⟨"TollLedger$Account", "leaf", "()I"⟩) ∈ BIG := bgA (inT3 215 rfl) rfl
theorem wd_3_216 : (Jvm.Cond.code ⟨"TollLedger$Account", "leaf", "()I"⟩ prog_2_method_2_code 1 (Option.some Jvm.ClassFile.FieldType.int)) ∈ BIG := bgA (inT3 216 rfl) rfl
theorem wd_3_217 : (Jvm.Cond.constant "TollLedger$Account" 20 (300007 : Int32)) ∈ BIG := bgA (inT3 217 rfl) rfl
theorem wd_3_218 : (Jvm.Cond.methodLink "TollLedger$Leaves" 37 ⟨"TollLedger$Leaves", "fillLines", "(LTollLedger$Lines;)V"⟩) ∈ BIG := bgA (inT3 218 rfl) rfl
theorem wd_3_220 : (Jvm.Cond.instanceMethod ⟨"TollLedger$Leaves", "fillLines", "(LTollLedger$Lines;)V"⟩) ∈ BIG := bgA (inT3 220 rfl) rfl
theorem wd_3_221 : (Jvm.Cond.code ⟨"TollLedger$Leaves", "fillLines", "(LTollLedger$Lines;)V"⟩ prog_5_method_3_code 5 (Option.none : Option Jvm.ClassFile.FieldType)) ∈ BIG := bgA (inT3 221 rfl) rfl
theorem wd_3_222 : (Jvm.Cond.methodLink "TollLedger$Leaves" 63 ⟨"TollLedger$Lines", "leaf", "(III)I"⟩) ∈ BIG := bgA (inT3 222 rfl) rfl
theorem wd_3_223 : (Jvm.Cond.instanceMethod ⟨"TollLedger$Lines", "leaf", "(III)I"⟩) ∈ BIG := bgA (inT3 223 rfl) rfl
theorem wd_3_224 : (Jvm.Cond.selects "TollLedger$Lines" ⟨"TollLedger$Lines", "leaf", "(III)I"⟩ ⟨"TollLedger$Lines", "leaf", "(III)I"⟩) ∈ BIG := bgA (inT3 224 rfl) rfl
theorem wd_3_225 : (Jvm.Cond.code ⟨"TollLedger$Lines", "leaf", "(III)I"⟩ prog_6_method_7_code 6 (Option.some Jvm.ClassFile.FieldType.int)) ∈ BIG := bgA (inT3 225 rfl) rfl
theorem wd_3_226 : (Jvm.Cond.constant "TollLedger$Lines" 30 (1000003 : Int32)) ∈ BIG := bgA (inT3 226 rfl) rfl
theorem wd_3_227 : (Jvm.Cond.constant "TollLedger$Lines" 31 (2000003 : Int32)) ∈ BIG := bgA (inT3 227 rfl) rfl
theorem wd_3_228 : (Jvm.Cond.methodLink "TollLedger$Leaves" 45 ⟨"java/util/ArrayList", "size", "()I"⟩) ∈ BIG := bgA (inT3 228 rfl) rfl
theorem wd_3_229 : (Jvm.Cond.methodLink "TollLedger$Leaves" 50 ⟨"java/util/ArrayList", "get", "(I)Ljava/lang/Object;"⟩) ∈ BIG := bgA (inT3 229 rfl) rfl
theorem wd_3_230 : (Jvm.Cond.classLink "TollLedger$Leaves" 54 "TollLedger$Offer") ∈ BIG := bgA (inT3 230 rfl) rfl
theorem wd_3_231 : (Jvm.Cond.methodLink "TollLedger$Leaves" 56 ⟨"TollLedger$Offer", "leaf", "()I"⟩) ∈ BIG := bgA (inT3 231 rfl) rfl
theorem wd_3_232 : (Jvm.Cond.instanceMethod ⟨"TollLedger$Offer", "leaf", "()I"⟩) ∈ BIG := bgA (inT3 232 rfl) rfl
theorem wd_3_233 : (Jvm.Cond.selects "TollLedger$Offer" ⟨"TollLedger$Offer", "leaf", "()I"⟩ ⟨"TollLedger$Offer", "leaf", "()I"⟩) ∈ BIG := bgA (inT3 233 rfl) rfl
theorem wd_3_234 : (Jvm.Cond.code ⟨"TollLedger$Offer", "leaf", "()I"⟩ prog_7_method_5_code 1 (Option.some Jvm.ClassFile.FieldType.int)) ∈ BIG := bgA (inT3 234 rfl) rfl
theorem wd_3_235 : (Jvm.Cond.constant "TollLedger$Offer" 28 (100003 : Int32)) ∈ BIG := bgA (inT3 235 rfl) rfl
theorem wd_3_236 : (Jvm.Cond.classLink "TollLedger$Leaves" 60 "TollLedger$Deposit") ∈ BIG := bgA (inT3 236 rfl) rfl
theorem wd_3_237 : (Jvm.Cond.methodLink "TollLedger$Leaves" 62 ⟨"TollLedger$Deposit", "leaf", "()I"⟩) ∈ BIG := bgA (inT3 237 rfl) rfl
theorem wd_3_238 : (Jvm.Cond.instanceMethod ⟨"TollLedger$Deposit", "leaf", "()I"⟩) ∈ BIG := bgA (inT3 238 rfl) rfl
theorem wd_3_239 : (Jvm.Cond.selects "TollLedger$Deposit" ⟨"TollLedger$Deposit", "leaf", "()I"⟩ ⟨"TollLedger$Deposit", "leaf", "()I"⟩) ∈ BIG := bgA (inT3 239 rfl) rfl
theorem wd_4_0 : (Jvm.Cond.code ⟨"TollLedger$Deposit", "leaf", "()I"⟩ prog_4_method_2_code 1 (Option.some Jvm.ClassFile.FieldType.int)) ∈ BIG := bgA (inT4 0 rfl) rfl
theorem wd_4_1 : (Jvm.Cond.methodLink "TollLedger" 256 ⟨"TollLedger$Leaves", "fold", "()I"⟩) ∈ BIG := bgA (inT4 1 rfl) rfl
theorem wd_4_2 : (Jvm.Cond.instanceMethod ⟨"TollLedger$Leaves", "fold", "()I"⟩) ∈ BIG := bgA (inT4 2 rfl) rfl
theorem wd_4_3 : (Jvm.Cond.selects "TollLedger$Leaves" ⟨"TollLedger$Leaves", "fold", "()I"⟩ ⟨"TollLedger$Leaves", "fold", "()I"⟩) ∈ BIG := bgA (inT4 3 rfl) rfl
theorem wd_4_4 : (Jvm.Cond.code ⟨"TollLedger$Leaves", "fold", "()I"⟩ prog_5_method_4_code 3 (Option.some Jvm.ClassFile.FieldType.int)) ∈ BIG := bgA (inT4 4 rfl) rfl
theorem wd_4_5 : (Jvm.Cond.methodLink "TollLedger$Leaves" 68 ⟨"TollLedger$Leaves", "inner", "(I)I"⟩) ∈ BIG := bgA (inT4 5 rfl) rfl
theorem wd_4_7 : (Jvm.Cond.instanceMethod ⟨"TollLedger$Leaves", "inner", "(I)I"⟩) ∈ BIG := bgA (inT4 7 rfl) rfl
theorem wd_4_8 : (Jvm.Cond.code ⟨"TollLedger$Leaves", "inner", "(I)I"⟩ prog_5_method_5_code 4 (Option.some Jvm.ClassFile.FieldType.int)) ∈ BIG := bgA (inT4 8 rfl) rfl
theorem wd_4_9 : (Jvm.Cond.methodLink "TollLedger$Leaves" 72 ⟨"TollLedger$Leaves", "mix", "(II)I"⟩) ∈ BIG := bgA (inT4 9 rfl) rfl
theorem wd_4_10 : (Jvm.Cond.static ⟨"TollLedger$Leaves", "mix", "(II)I"⟩) ∈ BIG := bgA (inT4 10 rfl) rfl
theorem wd_4_11 : (Jvm.Cond.code ⟨"TollLedger$Leaves", "mix", "(II)I"⟩ prog_5_method_6_code 3 (Option.some Jvm.ClassFile.FieldType.int)) ∈ BIG := bgA (inT4 11 rfl) rfl
theorem wd_4_12 : (Jvm.Cond.classLink "TollLedgerLaw" 10 "TollLedgerModel") ∈ BIG := bgA (inT4 12 rfl) rfl
theorem wd_4_13 : (Jvm.Cond.instantiable "TollLedgerModel" 39) ∈ BIG := bgA (inT4 13 rfl) rfl
theorem wd_4_14 : (Jvm.Cond.methodLink "TollLedgerLaw" 12 ⟨"TollLedgerModel", "<init>", "()V"⟩) ∈ BIG := bgA (inT4 14 rfl) rfl
theorem wd_4_15 : (Jvm.Cond.instanceMethod ⟨"TollLedgerModel", "<init>", "()V"⟩) ∈ BIG := bgA (inT4 15 rfl) rfl
theorem wd_4_16 : (Jvm.Cond.code ⟨"TollLedgerModel", "<init>", "()V"⟩ prog_11_method_1_code 1 (Option.none : Option Jvm.ClassFile.FieldType)) ∈ BIG := bgA (inT4 16 rfl) rfl
theorem wd_4_17 : (Jvm.Cond.methodLink "TollLedgerModel" 1 ⟨"java/lang/Object", "<init>", "()V"⟩) ∈ BIG := bgA (inT4 17 rfl) rfl
theorem wd_4_18 : (Jvm.Cond.constant "TollLedgerModel" 72 (1000000 : Int32)) ∈ BIG := bgA (inT4 18 rfl) rfl
theorem wd_4_19 : (Jvm.Cond.fieldLink "TollLedgerModel" 7 "TollLedgerModel" "exists" "[Z") ∈ BIG := bgA (inT4 19 rfl) rfl
theorem wd_4_20 : (Jvm.Cond.fieldLink "TollLedgerModel" 13 "TollLedgerModel" "coins" "[I") ∈ BIG := bgA (inT4 20 rfl) rfl
theorem wd_4_21 : (Jvm.Cond.fieldLink "TollLedgerModel" 17 "TollLedgerModel" "numbers" "[I") ∈ BIG := bgA (inT4 21 rfl) rfl
theorem wd_4_22 : (Jvm.Cond.fieldLink "TollLedgerModel" 20 "TollLedgerModel" "rates" "[I") ∈ BIG := bgA (inT4 22 rfl) rfl
theorem wd_4_23 : (Jvm.Cond.fieldLink "TollLedgerModel" 23 "TollLedgerModel" "balances" "[I") ∈ BIG := bgA (inT4 23 rfl) rfl
theorem wd_4_24 : (Jvm.Cond.fieldLink "TollLedgerModel" 26 "TollLedgerModel" "limits" "[I") ∈ BIG := bgA (inT4 24 rfl) rfl
theorem wd_4_25 : (Jvm.Cond.fieldLink "TollLedgerModel" 29 "TollLedgerModel" "quiets" "[Z") ∈ BIG := bgA (inT4 25 rfl) rfl
theorem wd_4_26 : (Jvm.Cond.fieldLink "TollLedgerModel" 110 "TollLedgerModel" "offers" "I") ∈ BIG := bgA (inT4 26 rfl) rfl
theorem wd_4_27 : (Jvm.Cond.fieldLink "TollLedgerModel" 218 "TollLedgerModel" "lastOffer" "I") ∈ BIG := bgA (inT4 27 rfl) rfl
theorem wd_4_28 : (Jvm.Cond.fieldLink "TollLedgerModel" 32 "TollLedgerModel" "offerId" "[I") ∈ BIG := bgA (inT4 28 rfl) rfl
theorem wd_4_29 : (Jvm.Cond.fieldLink "TollLedgerModel" 35 "TollLedgerModel" "ownerOf" "[I") ∈ BIG := bgA (inT4 29 rfl) rfl
theorem wd_4_30 : (Jvm.Cond.fieldLink "TollLedgerModel" 38 "TollLedgerModel" "wantsOf" "[I") ∈ BIG := bgA (inT4 30 rfl) rfl
theorem wd_4_31 : (Jvm.Cond.fieldLink "TollLedgerModel" 41 "TollLedgerModel" "givesOf" "[I") ∈ BIG := bgA (inT4 31 rfl) rfl
theorem wd_4_32 : (Jvm.Cond.fieldLink "TollLedgerModel" 44 "TollLedgerModel" "wOf" "[I") ∈ BIG := bgA (inT4 32 rfl) rfl
theorem wd_4_33 : (Jvm.Cond.fieldLink "TollLedgerModel" 47 "TollLedgerModel" "gOf" "[I") ∈ BIG := bgA (inT4 33 rfl) rfl
theorem wd_4_34 : (Jvm.Cond.fieldLink "TollLedgerModel" 113 "TollLedgerModel" "deposits" "I") ∈ BIG := bgA (inT4 34 rfl) rfl
theorem wd_4_35 : (Jvm.Cond.fieldLink "TollLedgerModel" 224 "TollLedgerModel" "lastDeposit" "I") ∈ BIG := bgA (inT4 35 rfl) rfl
theorem wd_4_36 : (Jvm.Cond.fieldLink "TollLedgerModel" 50 "TollLedgerModel" "depositId" "[I") ∈ BIG := bgA (inT4 36 rfl) rfl
theorem wd_4_37 : (Jvm.Cond.fieldLink "TollLedgerModel" 53 "TollLedgerModel" "fromOf" "[I") ∈ BIG := bgA (inT4 37 rfl) rfl
theorem wd_4_38 : (Jvm.Cond.fieldLink "TollLedgerModel" 56 "TollLedgerModel" "toOf" "[I") ∈ BIG := bgA (inT4 38 rfl) rfl
theorem wd_4_39 : (Jvm.Cond.fieldLink "TollLedgerModel" 59 "TollLedgerModel" "heldOf" "[I") ∈ BIG := bgA (inT4 39 rfl) rfl
theorem wd_4_40 : (Jvm.Cond.fieldLink "TollLedgerModel" 62 "TollLedgerModel" "afterOf" "[I") ∈ BIG := bgA (inT4 40 rfl) rfl
theorem wd_4_41 : (Jvm.Cond.fieldLink "TollLedgerModel" 65 "TollLedgerModel" "untilOf" "[I") ∈ BIG := bgA (inT4 41 rfl) rfl
theorem wd_4_42 : (Jvm.Cond.fieldLink "TollLedgerModel" 68 "TollLedgerModel" "me" "I") ∈ BIG := bgA (inT4 42 rfl) rfl
theorem wd_4_43 : (Jvm.Cond.fieldLink "TollLedgerModel" 131 "TollLedgerModel" "myNumber" "I") ∈ BIG := bgA (inT4 43 rfl) rfl
theorem wd_4_44 : (Jvm.Cond.fieldLink "TollLedgerModel" 143 "TollLedgerModel" "spendAsset" "I") ∈ BIG := bgA (inT4 44 rfl) rfl
theorem wd_4_45 : (Jvm.Cond.fieldLink "TollLedgerModel" 73 "TollLedgerModel" "spendMost" "I") ∈ BIG := bgA (inT4 45 rfl) rfl
theorem wd_4_46 : (Jvm.Cond.fieldLink "TollLedgerModel" 146 "TollLedgerModel" "partly" "Z") ∈ BIG := bgA (inT4 46 rfl) rfl
theorem wd_4_47 : (Jvm.Cond.fieldLink "TollLedgerModel" 230 "TollLedgerModel" "clock" "I") ∈ BIG := bgA (inT4 47 rfl) rfl
theorem wd_4_48 : (Jvm.Cond.fieldLink "TollLedgerModel" 134 "TollLedgerModel" "burned" "I") ∈ BIG := bgA (inT4 48 rfl) rfl
theorem wd_4_49 : (Jvm.Cond.fieldLink "TollLedgerModel" 76 "TollLedgerModel" "taken" "[I") ∈ BIG := bgA (inT4 49 rfl) rfl
theorem wd_4_50 : (Jvm.Cond.fieldLink "TollLedgerModel" 79 "TollLedgerModel" "prices" "[I") ∈ BIG := bgA (inT4 50 rfl) rfl
theorem wd_4_51 : (Jvm.Cond.fieldLink "TollLedgerModel" 82 "TollLedgerModel" "seen" "[Z") ∈ BIG := bgA (inT4 51 rfl) rfl
theorem wd_4_52 : (Jvm.Cond.fieldLink "TollLedgerModel" 85 "TollLedgerModel" "gone" "[Z") ∈ BIG := bgA (inT4 52 rfl) rfl
theorem wd_4_53 : (Jvm.Cond.fieldLink "TollLedgerModel" 88 "TollLedgerModel" "spent" "[J") ∈ BIG := bgA (inT4 53 rfl) rfl
theorem wd_4_54 : (Jvm.Cond.fieldLink "TollLedgerModel" 177 "TollLedgerModel" "got" "I") ∈ BIG := bgA (inT4 54 rfl) rfl
theorem wd_4_55 : (Jvm.Cond.fieldLink "TollLedgerModel" 180 "TollLedgerModel" "priceSum" "J") ∈ BIG := bgA (inT4 55 rfl) rfl
theorem wd_4_56 : (Jvm.Cond.fieldLink "TollLedgerModel" 173 "TollLedgerModel" "costSum" "J") ∈ BIG := bgA (inT4 56 rfl) rfl
theorem wd_4_57 : (Jvm.Cond.fieldLink "TollLedgerModel" 92 "TollLedgerModel" "inner" "[I") ∈ BIG := bgA (inT4 57 rfl) rfl
theorem wd_4_137 : (Jvm.Cond.arrayClass Jvm.ClassFile.FieldType.long) ∈ BIG := bgA (inT4 137 rfl) rfl
theorem wd_4_138 : (Jvm.Cond.methodLink "TollLedgerLaw" 17 ⟨"TollLedgerModel", "by", "(II)Z"⟩) ∈ BIG := bgA (inT4 138 rfl) rfl
theorem wd_4_139 : (Jvm.Cond.instanceMethod ⟨"TollLedgerModel", "by", "(II)Z"⟩) ∈ BIG := bgA (inT4 139 rfl) rfl
theorem wd_4_140 : (Jvm.Cond.selects "TollLedgerModel" ⟨"TollLedgerModel", "by", "(II)Z"⟩ ⟨"TollLedgerModel", "by", "(II)Z"⟩) ∈ BIG := bgA (inT4 140 rfl) rfl
theorem wd_4_141 : (Jvm.Cond.code ⟨"TollLedgerModel", "by", "(II)Z"⟩ prog_11_method_15_code 3 (Option.some Jvm.ClassFile.FieldType.boolean)) ∈ BIG := bgA (inT4 141 rfl) rfl
theorem wd_4_142 : (Jvm.Cond.methodLink "TollLedgerModel" 137 ⟨"TollLedgerModel", "isAccount", "(I)Z"⟩) ∈ BIG := bgA (inT4 142 rfl) rfl
theorem wd_4_143 : (Jvm.Cond.static ⟨"TollLedgerModel", "isAccount", "(I)Z"⟩) ∈ BIG := bgA (inT4 143 rfl) rfl
theorem wd_4_144 : (Jvm.Cond.code ⟨"TollLedgerModel", "isAccount", "(I)Z"⟩ prog_11_method_2_code 1 (Option.some Jvm.ClassFile.FieldType.boolean)) ∈ BIG := bgA (inT4 144 rfl) rfl
theorem wd_4_145 : (Jvm.Cond.methodLink "TollLedgerLaw" 37 ⟨"TollLedgerModel", "spend", "(IIZ)Z"⟩) ∈ BIG := bgA (inT4 145 rfl) rfl
theorem wd_4_146 : (Jvm.Cond.instanceMethod ⟨"TollLedgerModel", "spend", "(IIZ)Z"⟩) ∈ BIG := bgA (inT4 146 rfl) rfl
theorem wd_4_147 : (Jvm.Cond.selects "TollLedgerModel" ⟨"TollLedgerModel", "spend", "(IIZ)Z"⟩ ⟨"TollLedgerModel", "spend", "(IIZ)Z"⟩) ∈ BIG := bgA (inT4 147 rfl) rfl
theorem wd_4_148 : (Jvm.Cond.code ⟨"TollLedgerModel", "spend", "(IIZ)Z"⟩ prog_11_method_16_code 4 (Option.some Jvm.ClassFile.FieldType.boolean)) ∈ BIG := bgA (inT4 148 rfl) rfl
theorem wd_4_149 : (Jvm.Cond.methodLink "TollLedgerModel" 140 ⟨"TollLedgerModel", "isAsset", "(I)Z"⟩) ∈ BIG := bgA (inT4 149 rfl) rfl
theorem wd_4_150 : (Jvm.Cond.static ⟨"TollLedgerModel", "isAsset", "(I)Z"⟩) ∈ BIG := bgA (inT4 150 rfl) rfl
theorem wd_4_151 : (Jvm.Cond.code ⟨"TollLedgerModel", "isAsset", "(I)Z"⟩ prog_11_method_3_code 1 (Option.some Jvm.ClassFile.FieldType.boolean)) ∈ BIG := bgA (inT4 151 rfl) rfl
theorem wd_4_152 : (Jvm.Cond.methodLink "TollLedgerLaw" 22 ⟨"TollLedgerModel", "send", "(II)I"⟩) ∈ BIG := bgA (inT4 152 rfl) rfl
theorem wd_4_153 : (Jvm.Cond.instanceMethod ⟨"TollLedgerModel", "send", "(II)I"⟩) ∈ BIG := bgA (inT4 153 rfl) rfl
theorem wd_4_154 : (Jvm.Cond.selects "TollLedgerModel" ⟨"TollLedgerModel", "send", "(II)I"⟩ ⟨"TollLedgerModel", "send", "(II)I"⟩) ∈ BIG := bgA (inT4 154 rfl) rfl
theorem wd_4_155 : (Jvm.Cond.code ⟨"TollLedgerModel", "send", "(II)I"⟩ prog_11_method_17_code 4 (Option.some Jvm.ClassFile.FieldType.int)) ∈ BIG := bgA (inT4 155 rfl) rfl
theorem wd_4_156 : (Jvm.Cond.methodLink "TollLedgerModel" 150 ⟨"TollLedgerModel", "begin", "(Z)I"⟩) ∈ BIG := bgA (inT4 156 rfl) rfl
theorem wd_4_158 : (Jvm.Cond.instanceMethod ⟨"TollLedgerModel", "begin", "(Z)I"⟩) ∈ BIG := bgA (inT4 158 rfl) rfl
theorem wd_4_159 : (Jvm.Cond.code ⟨"TollLedgerModel", "begin", "(Z)I"⟩ prog_11_method_14_code 2 (Option.some Jvm.ClassFile.FieldType.int)) ∈ BIG := bgA (inT4 159 rfl) rfl
theorem wd_4_160 : (Jvm.Cond.methodLink "TollLedgerModel" 154 ⟨"TollLedgerModel", "fundsIn", "(II)I"⟩) ∈ BIG := bgA (inT4 160 rfl) rfl
theorem wd_4_162 : (Jvm.Cond.instanceMethod ⟨"TollLedgerModel", "fundsIn", "(II)I"⟩) ∈ BIG := bgA (inT4 162 rfl) rfl
theorem wd_4_163 : (Jvm.Cond.code ⟨"TollLedgerModel", "fundsIn", "(II)I"⟩ prog_11_method_11_code 4 (Option.some Jvm.ClassFile.FieldType.int)) ∈ BIG := bgA (inT4 163 rfl) rfl
theorem wd_4_164 : (Jvm.Cond.methodLink "TollLedgerModel" 95 ⟨"TollLedgerModel", "issuerOf", "(I)I"⟩) ∈ BIG := bgA (inT4 164 rfl) rfl
theorem wd_4_165 : (Jvm.Cond.static ⟨"TollLedgerModel", "issuerOf", "(I)I"⟩) ∈ BIG := bgA (inT4 165 rfl) rfl
theorem wd_4_166 : (Jvm.Cond.code ⟨"TollLedgerModel", "issuerOf", "(I)I"⟩ prog_11_method_6_code 1 (Option.some Jvm.ClassFile.FieldType.int)) ∈ BIG := bgA (inT4 166 rfl) rfl
theorem wd_4_167 : (Jvm.Cond.constant "TollLedgerModel" 119 (1000000000 : Int32)) ∈ BIG := bgA (inT4 167 rfl) rfl
theorem wd_4_168 : (Jvm.Cond.methodLink "TollLedgerModel" 120 ⟨"TollLedgerModel", "reserve", "(I)I"⟩) ∈ BIG := bgA (inT4 168 rfl) rfl
theorem wd_4_170 : (Jvm.Cond.instanceMethod ⟨"TollLedgerModel", "reserve", "(I)I"⟩) ∈ BIG := bgA (inT4 170 rfl) rfl
theorem wd_4_171 : (Jvm.Cond.code ⟨"TollLedgerModel", "reserve", "(I)I"⟩ prog_11_method_10_code 2 (Option.some Jvm.ClassFile.FieldType.int)) ∈ BIG := bgA (inT4 171 rfl) rfl
theorem wd_4_172 : (Jvm.Cond.methodLink "TollLedgerModel" 116 ⟨"TollLedgerModel", "pieces", "(I)I"⟩) ∈ BIG := bgA (inT4 172 rfl) rfl
theorem wd_4_174 : (Jvm.Cond.instanceMethod ⟨"TollLedgerModel", "pieces", "(I)I"⟩) ∈ BIG := bgA (inT4 174 rfl) rfl
theorem wd_4_175 : (Jvm.Cond.code ⟨"TollLedgerModel", "pieces", "(I)I"⟩ prog_11_method_9_code 4 (Option.some Jvm.ClassFile.FieldType.int)) ∈ BIG := bgA (inT4 175 rfl) rfl
theorem wd_4_176 : (Jvm.Cond.methodLink "TollLedgerModel" 106 ⟨"TollLedgerModel", "owns", "(I)Z"⟩) ∈ BIG := bgA (inT4 176 rfl) rfl
theorem wd_4_178 : (Jvm.Cond.instanceMethod ⟨"TollLedgerModel", "owns", "(I)Z"⟩) ∈ BIG := bgA (inT4 178 rfl) rfl
theorem wd_4_179 : (Jvm.Cond.code ⟨"TollLedgerModel", "owns", "(I)Z"⟩ prog_11_method_8_code 2 (Option.some Jvm.ClassFile.FieldType.boolean)) ∈ BIG := bgA (inT4 179 rfl) rfl
theorem wd_4_180 : (Jvm.Cond.methodLink "TollLedgerModel" 123 ⟨"TollLedgerModel", "holding", "(II)I"⟩) ∈ BIG := bgA (inT4 180 rfl) rfl
theorem wd_4_181 : (Jvm.Cond.static ⟨"TollLedgerModel", "holding", "(II)I"⟩) ∈ BIG := bgA (inT4 181 rfl) rfl
theorem wd_4_182 : (Jvm.Cond.code ⟨"TollLedgerModel", "holding", "(II)I"⟩ prog_11_method_7_code 4 (Option.some Jvm.ClassFile.FieldType.int)) ∈ BIG := bgA (inT4 182 rfl) rfl
theorem wd_4_183 : (Jvm.Cond.methodLink "TollLedgerModel" 99 ⟨"TollLedgerModel", "currencyOf", "(I)I"⟩) ∈ BIG := bgA (inT4 183 rfl) rfl
theorem wd_4_184 : (Jvm.Cond.static ⟨"TollLedgerModel", "currencyOf", "(I)I"⟩) ∈ BIG := bgA (inT4 184 rfl) rfl
theorem wd_4_185 : (Jvm.Cond.code ⟨"TollLedgerModel", "currencyOf", "(I)I"⟩ prog_11_method_5_code 1 (Option.some Jvm.ClassFile.FieldType.int)) ∈ BIG := bgA (inT4 185 rfl) rfl
theorem wd_4_186 : (Jvm.Cond.methodLink "TollLedgerModel" 102 ⟨"TollLedgerModel", "line", "(III)I"⟩) ∈ BIG := bgA (inT4 186 rfl) rfl
theorem wd_4_187 : (Jvm.Cond.static ⟨"TollLedgerModel", "line", "(III)I"⟩) ∈ BIG := bgA (inT4 187 rfl) rfl
theorem wd_4_188 : (Jvm.Cond.code ⟨"TollLedgerModel", "line", "(III)I"⟩ prog_11_method_4_code 3 (Option.some Jvm.ClassFile.FieldType.int)) ∈ BIG := bgA (inT4 188 rfl) rfl
theorem wd_4_189 : (Jvm.Cond.methodLink "TollLedgerLaw" 27 ⟨"TollLedgerModel", "trust", "(IIIZ)I"⟩) ∈ BIG := bgA (inT4 189 rfl) rfl
theorem wd_4_190 : (Jvm.Cond.instanceMethod ⟨"TollLedgerModel", "trust", "(IIIZ)I"⟩) ∈ BIG := bgA (inT4 190 rfl) rfl
theorem wd_4_191 : (Jvm.Cond.selects "TollLedgerModel" ⟨"TollLedgerModel", "trust", "(IIIZ)I"⟩ ⟨"TollLedgerModel", "trust", "(IIIZ)I"⟩) ∈ BIG := bgA (inT4 191 rfl) rfl
theorem wd_4_192 : (Jvm.Cond.code ⟨"TollLedgerModel", "trust", "(IIIZ)I"⟩ prog_11_method_18_code 9 (Option.some Jvm.ClassFile.FieldType.int)) ∈ BIG := bgA (inT4 192 rfl) rfl
theorem wd_4_193 : (Jvm.Cond.constant "TollLedgerModel" 157 (100000 : Int32)) ∈ BIG := bgA (inT4 193 rfl) rfl
theorem wd_4_194 : (Jvm.Cond.methodLink "TollLedgerLaw" 32 ⟨"TollLedgerModel", "rate", "(I)I"⟩) ∈ BIG := bgA (inT4 194 rfl) rfl
theorem wd_4_195 : (Jvm.Cond.instanceMethod ⟨"TollLedgerModel", "rate", "(I)I"⟩) ∈ BIG := bgA (inT4 195 rfl) rfl
theorem wd_4_196 : (Jvm.Cond.selects "TollLedgerModel" ⟨"TollLedgerModel", "rate", "(I)I"⟩ ⟨"TollLedgerModel", "rate", "(I)I"⟩) ∈ BIG := bgA (inT4 196 rfl) rfl
theorem wd_4_197 : (Jvm.Cond.code ⟨"TollLedgerModel", "rate", "(I)I"⟩ prog_11_method_19_code 3 (Option.some Jvm.ClassFile.FieldType.int)) ∈ BIG := bgA (inT4 197 rfl) rfl
theorem wd_4_198 : (Jvm.Cond.methodLink "TollLedgerLaw" 42 ⟨"TollLedgerModel", "pay", "(III)I"⟩) ∈ BIG := bgA (inT4 198 rfl) rfl
theorem wd_4_199 : (Jvm.Cond.instanceMethod ⟨"TollLedgerModel", "pay", "(III)I"⟩) ∈ BIG := bgA (inT4 199 rfl) rfl
theorem wd_4_200 : (Jvm.Cond.selects "TollLedgerModel" ⟨"TollLedgerModel", "pay", "(III)I"⟩ ⟨"TollLedgerModel", "pay", "(III)I"⟩) ∈ BIG := bgA (inT4 200 rfl) rfl
theorem wd_4_201 : (Jvm.Cond.code ⟨"TollLedgerModel", "pay", "(III)I"⟩ prog_11_method_30_code 9 (Option.some Jvm.ClassFile.FieldType.int)) ∈ BIG := bgA (inT4 201 rfl) rfl
theorem wd_4_202 : (Jvm.Cond.methodLink "TollLedgerModel" 208 ⟨"TollLedgerModel", "spending", "(III)J"⟩) ∈ BIG := bgA (inT4 202 rfl) rfl
theorem wd_4_204 : (Jvm.Cond.instanceMethod ⟨"TollLedgerModel", "spending", "(III)J"⟩) ∈ BIG := bgA (inT4 204 rfl) rfl
theorem wd_4_205 : (Jvm.Cond.code ⟨"TollLedgerModel", "spending", "(III)J"⟩ prog_11_method_29_code 10 (Option.some Jvm.ClassFile.FieldType.long)) ∈ BIG := bgA (inT4 205 rfl) rfl
theorem wd_4_206 : (Jvm.Cond.constantLong "TollLedgerModel" 202 (-1 : Int64)) ∈ BIG := bgA (inT4 206 rfl) rfl
theorem wd_4_207 : (Jvm.Cond.methodLink "TollLedgerModel" 166 ⟨"TollLedgerModel", "costOf", "(JIII)J"⟩) ∈ BIG := bgA (inT4 207 rfl) rfl
theorem wd_4_209 : (Jvm.Cond.instanceMethod ⟨"TollLedgerModel", "costOf", "(JIII)J"⟩) ∈ BIG := bgA (inT4 209 rfl) rfl
theorem wd_4_210 : (Jvm.Cond.code ⟨"TollLedgerModel", "costOf", "(JIII)J"⟩ prog_11_method_12_code 6 (Option.some Jvm.ClassFile.FieldType.long)) ∈ BIG := bgA (inT4 210 rfl) rfl
theorem wd_4_211 : (Jvm.Cond.constantLong "TollLedgerModel" 127 (999 : Int64)) ∈ BIG := bgA (inT4 211 rfl) rfl
theorem wd_4_212 : (Jvm.Cond.constantLong "TollLedgerModel" 129 (1000 : Int64)) ∈ BIG := bgA (inT4 212 rfl) rfl
theorem wd_4_213 : (Jvm.Cond.methodLink "TollLedgerModel" 204 ⟨"TollLedgerModel", "take", "(IIIJJJ)V"⟩) ∈ BIG := bgA (inT4 213 rfl) rfl
theorem wd_4_215 : (Jvm.Cond.instanceMethod ⟨"TollLedgerModel", "take", "(IIIJJJ)V"⟩) ∈ BIG := bgA (inT4 215 rfl) rfl
theorem wd_4_216 : (Jvm.Cond.code ⟨"TollLedgerModel", "take", "(IIIJJJ)V"⟩ prog_11_method_25_code 16 (Option.none : Option Jvm.ClassFile.FieldType)) ∈ BIG := bgA (inT4 216 rfl) rfl
theorem wd_4_217 : (Jvm.Cond.methodLink "TollLedgerModel" 183 ⟨"TollLedgerModel", "nextOf", "(III)I"⟩) ∈ BIG := bgA (inT4 217 rfl) rfl
theorem wd_4_219 : (Jvm.Cond.instanceMethod ⟨"TollLedgerModel", "nextOf", "(III)I"⟩) ∈ BIG := bgA (inT4 219 rfl) rfl
theorem wd_4_220 : (Jvm.Cond.code ⟨"TollLedgerModel", "nextOf", "(III)I"⟩ prog_11_method_22_code 7 (Option.some Jvm.ClassFile.FieldType.int)) ∈ BIG := bgA (inT4 220 rfl) rfl
theorem wd_4_221 : (Jvm.Cond.methodLink "TollLedgerModel" 158 ⟨"TollLedgerModel", "inBook", "(III)Z"⟩) ∈ BIG := bgA (inT4 221 rfl) rfl
theorem wd_4_223 : (Jvm.Cond.instanceMethod ⟨"TollLedgerModel", "inBook", "(III)Z"⟩) ∈ BIG := bgA (inT4 223 rfl) rfl
theorem wd_4_224 : (Jvm.Cond.code ⟨"TollLedgerModel", "inBook", "(III)Z"⟩ prog_11_method_20_code 4 (Option.some Jvm.ClassFile.FieldType.boolean)) ∈ BIG := bgA (inT4 224 rfl) rfl
theorem wd_4_225 : (Jvm.Cond.methodLink "TollLedgerModel" 162 ⟨"TollLedgerModel", "ahead", "(II)Z"⟩) ∈ BIG := bgA (inT4 225 rfl) rfl
theorem wd_4_227 : (Jvm.Cond.instanceMethod ⟨"TollLedgerModel", "ahead", "(II)Z"⟩) ∈ BIG := bgA (inT4 227 rfl) rfl
theorem wd_4_228 : (Jvm.Cond.code ⟨"TollLedgerModel", "ahead", "(II)Z"⟩ prog_11_method_21_code 7 (Option.some Jvm.ClassFile.FieldType.boolean)) ∈ BIG := bgA (inT4 228 rfl) rfl
theorem wd_4_229 : (Jvm.Cond.methodLink "TollLedgerModel" 186 ⟨"TollLedgerModel", "canTake", "(IIIIJJ)Z"⟩) ∈ BIG := bgA (inT4 229 rfl) rfl
theorem wd_4_231 : (Jvm.Cond.instanceMethod ⟨"TollLedgerModel", "canTake", "(IIIIJJ)Z"⟩) ∈ BIG := bgA (inT4 231 rfl) rfl
theorem wd_4_232 : (Jvm.Cond.code ⟨"TollLedgerModel", "canTake", "(IIIIJJ)Z"⟩ prog_11_method_24_code 11 (Option.some Jvm.ClassFile.FieldType.boolean)) ∈ BIG := bgA (inT4 232 rfl) rfl
theorem wd_4_233 : (Jvm.Cond.methodLink "TollLedgerModel" 170 ⟨"TollLedgerModel", "priceOf", "(II)I"⟩) ∈ BIG := bgA (inT4 233 rfl) rfl
theorem wd_4_235 : (Jvm.Cond.instanceMethod ⟨"TollLedgerModel", "priceOf", "(II)I"⟩) ∈ BIG := bgA (inT4 235 rfl) rfl
theorem wd_4_236 : (Jvm.Cond.code ⟨"TollLedgerModel", "priceOf", "(II)I"⟩ prog_11_method_23_code 3 (Option.some Jvm.ClassFile.FieldType.int)) ∈ BIG := bgA (inT4 236 rfl) rfl
theorem wd_4_237 : (Jvm.Cond.methodLink "TollLedgerModel" 190 ⟨"TollLedgerModel", "note", "(IIII)V"⟩) ∈ BIG := bgA (inT4 237 rfl) rfl
theorem wd_4_239 : (Jvm.Cond.instanceMethod ⟨"TollLedgerModel", "note", "(IIII)V"⟩) ∈ BIG := bgA (inT4 239 rfl) rfl
theorem wd_5_0 : (Jvm.Cond.code ⟨"TollLedgerModel", "note", "(IIII)V"⟩ prog_11_method_26_code 6 (Option.none : Option Jvm.ClassFile.FieldType)) ∈ BIG := bgA (inT5 0 rfl) rfl
theorem wd_5_1 : (Jvm.Cond.methodLink "TollLedgerModel" 212 ⟨"TollLedgerModel", "carryOut", "(II)V"⟩) ∈ BIG := bgA (inT5 1 rfl) rfl
theorem wd_5_3 : (Jvm.Cond.instanceMethod ⟨"TollLedgerModel", "carryOut", "(II)V"⟩) ∈ BIG := bgA (inT5 3 rfl) rfl
theorem wd_5_4 : (Jvm.Cond.code ⟨"TollLedgerModel", "carryOut", "(II)V"⟩ prog_11_method_27_code 7 (Option.none : Option Jvm.ClassFile.FieldType)) ∈ BIG := bgA (inT5 4 rfl) rfl
theorem wd_5_5 : (Jvm.Cond.methodLink "TollLedgerModel" 194 ⟨"TollLedgerModel", "change", "(IIJ)V"⟩) ∈ BIG := bgA (inT5 5 rfl) rfl
theorem wd_5_7 : (Jvm.Cond.instanceMethod ⟨"TollLedgerModel", "change", "(IIJ)V"⟩) ∈ BIG := bgA (inT5 7 rfl) rfl
theorem wd_5_8 : (Jvm.Cond.code ⟨"TollLedgerModel", "change", "(IIJ)V"⟩ prog_11_method_13_code 7 (Option.none : Option Jvm.ClassFile.FieldType)) ∈ BIG := bgA (inT5 8 rfl) rfl
theorem wd_5_9 : (Jvm.Cond.methodLink "TollLedgerModel" 198 ⟨"TollLedgerModel", "moveOffer", "(II)V"⟩) ∈ BIG := bgA (inT5 9 rfl) rfl
theorem wd_5_11 : (Jvm.Cond.instanceMethod ⟨"TollLedgerModel", "moveOffer", "(II)V"⟩) ∈ BIG := bgA (inT5 11 rfl) rfl
theorem wd_5_12 : (Jvm.Cond.code ⟨"TollLedgerModel", "moveOffer", "(II)V"⟩ prog_11_method_28_code 3 (Option.none : Option Jvm.ClassFile.FieldType)) ∈ BIG := bgA (inT5 12 rfl) rfl
theorem wd_5_13 : (Jvm.Cond.methodLink "TollLedgerLaw" 47 ⟨"TollLedgerModel", "offer", "(IIIII)I"⟩) ∈ BIG := bgA (inT5 13 rfl) rfl
theorem wd_5_14 : (Jvm.Cond.instanceMethod ⟨"TollLedgerModel", "offer", "(IIIII)I"⟩) ∈ BIG := bgA (inT5 14 rfl) rfl
theorem wd_5_15 : (Jvm.Cond.selects "TollLedgerModel" ⟨"TollLedgerModel", "offer", "(IIIII)I"⟩ ⟨"TollLedgerModel", "offer", "(IIIII)I"⟩) ∈ BIG := bgA (inT5 15 rfl) rfl
theorem wd_5_16 : (Jvm.Cond.code ⟨"TollLedgerModel", "offer", "(IIIII)I"⟩ prog_11_method_31_code 12 (Option.some Jvm.ClassFile.FieldType.int)) ∈ BIG := bgA (inT5 16 rfl) rfl
theorem wd_5_17 : (Jvm.Cond.methodLink "TollLedgerModel" 215 ⟨"TollLedgerModel", "place", "(IIII)V"⟩) ∈ BIG := bgA (inT5 17 rfl) rfl
theorem wd_5_19 : (Jvm.Cond.instanceMethod ⟨"TollLedgerModel", "place", "(IIII)V"⟩) ∈ BIG := bgA (inT5 19 rfl) rfl
theorem wd_5_20 : (Jvm.Cond.code ⟨"TollLedgerModel", "place", "(IIII)V"⟩ prog_11_method_32_code 5 (Option.none : Option Jvm.ClassFile.FieldType)) ∈ BIG := bgA (inT5 20 rfl) rfl
theorem wd_5_21 : (Jvm.Cond.methodLink "TollLedgerLaw" 51 ⟨"TollLedgerModel", "cancel", "(I)I"⟩) ∈ BIG := bgA (inT5 21 rfl) rfl
theorem wd_5_22 : (Jvm.Cond.instanceMethod ⟨"TollLedgerModel", "cancel", "(I)I"⟩) ∈ BIG := bgA (inT5 22 rfl) rfl
theorem wd_5_23 : (Jvm.Cond.selects "TollLedgerModel" ⟨"TollLedgerModel", "cancel", "(I)I"⟩ ⟨"TollLedgerModel", "cancel", "(I)I"⟩) ∈ BIG := bgA (inT5 23 rfl) rfl
theorem wd_5_24 : (Jvm.Cond.code ⟨"TollLedgerModel", "cancel", "(I)I"⟩ prog_11_method_34_code 5 (Option.some Jvm.ClassFile.FieldType.int)) ∈ BIG := bgA (inT5 24 rfl) rfl
theorem wd_5_25 : (Jvm.Cond.methodLink "TollLedgerModel" 221 ⟨"TollLedgerModel", "findOffer", "(I)I"⟩) ∈ BIG := bgA (inT5 25 rfl) rfl
theorem wd_5_27 : (Jvm.Cond.instanceMethod ⟨"TollLedgerModel", "findOffer", "(I)I"⟩) ∈ BIG := bgA (inT5 27 rfl) rfl
theorem wd_5_28 : (Jvm.Cond.code ⟨"TollLedgerModel", "findOffer", "(I)I"⟩ prog_11_method_33_code 4 (Option.some Jvm.ClassFile.FieldType.int)) ∈ BIG := bgA (inT5 28 rfl) rfl
theorem wd_5_29 : (Jvm.Cond.methodLink "TollLedgerLaw" 56 ⟨"TollLedgerModel", "deposit", "(IIII)I"⟩) ∈ BIG := bgA (inT5 29 rfl) rfl
theorem wd_5_30 : (Jvm.Cond.instanceMethod ⟨"TollLedgerModel", "deposit", "(IIII)I"⟩) ∈ BIG := bgA (inT5 30 rfl) rfl
theorem wd_5_31 : (Jvm.Cond.selects "TollLedgerModel" ⟨"TollLedgerModel", "deposit", "(IIII)I"⟩ ⟨"TollLedgerModel", "deposit", "(IIII)I"⟩) ∈ BIG := bgA (inT5 31 rfl) rfl
theorem wd_5_32 : (Jvm.Cond.code ⟨"TollLedgerModel", "deposit", "(IIII)I"⟩ prog_11_method_35_code 6 (Option.some Jvm.ClassFile.FieldType.int)) ∈ BIG := bgA (inT5 32 rfl) rfl
theorem wd_5_33 : (Jvm.Cond.methodLink "TollLedgerLaw" 60 ⟨"TollLedgerModel", "settle", "(I)I"⟩) ∈ BIG := bgA (inT5 33 rfl) rfl
theorem wd_5_34 : (Jvm.Cond.instanceMethod ⟨"TollLedgerModel", "settle", "(I)I"⟩) ∈ BIG := bgA (inT5 34 rfl) rfl
theorem wd_5_35 : (Jvm.Cond.selects "TollLedgerModel" ⟨"TollLedgerModel", "settle", "(I)I"⟩ ⟨"TollLedgerModel", "settle", "(I)I"⟩) ∈ BIG := bgA (inT5 35 rfl) rfl
theorem wd_5_36 : (Jvm.Cond.code ⟨"TollLedgerModel", "settle", "(I)I"⟩ prog_11_method_37_code 6 (Option.some Jvm.ClassFile.FieldType.int)) ∈ BIG := bgA (inT5 36 rfl) rfl
theorem wd_5_37 : (Jvm.Cond.methodLink "TollLedgerModel" 227 ⟨"TollLedgerModel", "findDeposit", "(I)I"⟩) ∈ BIG := bgA (inT5 37 rfl) rfl
theorem wd_5_39 : (Jvm.Cond.instanceMethod ⟨"TollLedgerModel", "findDeposit", "(I)I"⟩) ∈ BIG := bgA (inT5 39 rfl) rfl
theorem wd_5_40 : (Jvm.Cond.code ⟨"TollLedgerModel", "findDeposit", "(I)I"⟩ prog_11_method_36_code 4 (Option.some Jvm.ClassFile.FieldType.int)) ∈ BIG := bgA (inT5 40 rfl) rfl
theorem wd_5_41 : (Jvm.Cond.methodLink "TollLedgerLaw" 64 ⟨"TollLedgerModel", "tick", "(I)I"⟩) ∈ BIG := bgA (inT5 41 rfl) rfl
theorem wd_5_42 : (Jvm.Cond.instanceMethod ⟨"TollLedgerModel", "tick", "(I)I"⟩) ∈ BIG := bgA (inT5 42 rfl) rfl
theorem wd_5_43 : (Jvm.Cond.selects "TollLedgerModel" ⟨"TollLedgerModel", "tick", "(I)I"⟩ ⟨"TollLedgerModel", "tick", "(I)I"⟩) ∈ BIG := bgA (inT5 43 rfl) rfl
theorem wd_5_44 : (Jvm.Cond.code ⟨"TollLedgerModel", "tick", "(I)I"⟩ prog_11_method_38_code 2 (Option.some Jvm.ClassFile.FieldType.int)) ∈ BIG := bgA (inT5 44 rfl) rfl
theorem wd_5_45 : (Jvm.Cond.methodLink "TollLedgerLaw" 68 ⟨"TollLedgerModel", "account", "(II)I"⟩) ∈ BIG := bgA (inT5 45 rfl) rfl
theorem wd_5_46 : (Jvm.Cond.instanceMethod ⟨"TollLedgerModel", "account", "(II)I"⟩) ∈ BIG := bgA (inT5 46 rfl) rfl
theorem wd_5_47 : (Jvm.Cond.selects "TollLedgerModel" ⟨"TollLedgerModel", "account", "(II)I"⟩ ⟨"TollLedgerModel", "account", "(II)I"⟩) ∈ BIG := bgA (inT5 47 rfl) rfl
theorem wd_5_48 : (Jvm.Cond.code ⟨"TollLedgerModel", "account", "(II)I"⟩ prog_11_method_39_code 3 (Option.some Jvm.ClassFile.FieldType.int)) ∈ BIG := bgA (inT5 48 rfl) rfl
theorem wd_5_49 : (Jvm.Cond.methodLink "TollLedgerLaw" 72 ⟨"TollLedgerModel", "balance", "(III)I"⟩) ∈ BIG := bgA (inT5 49 rfl) rfl
theorem wd_5_50 : (Jvm.Cond.instanceMethod ⟨"TollLedgerModel", "balance", "(III)I"⟩) ∈ BIG := bgA (inT5 50 rfl) rfl
theorem wd_5_51 : (Jvm.Cond.selects "TollLedgerModel" ⟨"TollLedgerModel", "balance", "(III)I"⟩ ⟨"TollLedgerModel", "balance", "(III)I"⟩) ∈ BIG := bgA (inT5 51 rfl) rfl
theorem wd_5_52 : (Jvm.Cond.code ⟨"TollLedgerModel", "balance", "(III)I"⟩ prog_11_method_41_code 4 (Option.some Jvm.ClassFile.FieldType.int)) ∈ BIG := bgA (inT5 52 rfl) rfl
theorem wd_5_53 : (Jvm.Cond.methodLink "TollLedgerModel" 233 ⟨"TollLedgerModel", "isLine", "(III)Z"⟩) ∈ BIG := bgA (inT5 53 rfl) rfl
theorem wd_5_54 : (Jvm.Cond.static ⟨"TollLedgerModel", "isLine", "(III)Z"⟩) ∈ BIG := bgA (inT5 54 rfl) rfl
theorem wd_5_55 : (Jvm.Cond.code ⟨"TollLedgerModel", "isLine", "(III)Z"⟩ prog_11_method_40_code 3 (Option.some Jvm.ClassFile.FieldType.boolean)) ∈ BIG := bgA (inT5 55 rfl) rfl
theorem wd_5_56 : (Jvm.Cond.methodLink "TollLedgerLaw" 76 ⟨"TollLedgerModel", "limit", "(III)I"⟩) ∈ BIG := bgA (inT5 56 rfl) rfl
theorem wd_5_57 : (Jvm.Cond.instanceMethod ⟨"TollLedgerModel", "limit", "(III)I"⟩) ∈ BIG := bgA (inT5 57 rfl) rfl
theorem wd_5_58 : (Jvm.Cond.selects "TollLedgerModel" ⟨"TollLedgerModel", "limit", "(III)I"⟩ ⟨"TollLedgerModel", "limit", "(III)I"⟩) ∈ BIG := bgA (inT5 58 rfl) rfl
theorem wd_5_59 : (Jvm.Cond.code ⟨"TollLedgerModel", "limit", "(III)I"⟩ prog_11_method_42_code 5 (Option.some Jvm.ClassFile.FieldType.int)) ∈ BIG := bgA (inT5 59 rfl) rfl
theorem wd_5_60 : (Jvm.Cond.methodLink "TollLedgerLaw" 80 ⟨"TollLedgerModel", "funds", "(II)I"⟩) ∈ BIG := bgA (inT5 60 rfl) rfl
theorem wd_5_61 : (Jvm.Cond.instanceMethod ⟨"TollLedgerModel", "funds", "(II)I"⟩) ∈ BIG := bgA (inT5 61 rfl) rfl
theorem wd_5_62 : (Jvm.Cond.selects "TollLedgerModel" ⟨"TollLedgerModel", "funds", "(II)I"⟩ ⟨"TollLedgerModel", "funds", "(II)I"⟩) ∈ BIG := bgA (inT5 62 rfl) rfl
theorem wd_5_63 : (Jvm.Cond.code ⟨"TollLedgerModel", "funds", "(II)I"⟩ prog_11_method_43_code 3 (Option.some Jvm.ClassFile.FieldType.int)) ∈ BIG := bgA (inT5 63 rfl) rfl
theorem wd_5_64 : (Jvm.Cond.methodLink "TollLedgerLaw" 84 ⟨"TollLedgerModel", "book", "(III)I"⟩) ∈ BIG := bgA (inT5 64 rfl) rfl
theorem wd_5_65 : (Jvm.Cond.instanceMethod ⟨"TollLedgerModel", "book", "(III)I"⟩) ∈ BIG := bgA (inT5 65 rfl) rfl
theorem wd_5_66 : (Jvm.Cond.selects "TollLedgerModel" ⟨"TollLedgerModel", "book", "(III)I"⟩ ⟨"TollLedgerModel", "book", "(III)I"⟩) ∈ BIG := bgA (inT5 66 rfl) rfl
theorem wd_5_67 : (Jvm.Cond.code ⟨"TollLedgerModel", "book", "(III)I"⟩ prog_11_method_44_code 6 (Option.some Jvm.ClassFile.FieldType.int)) ∈ BIG := bgA (inT5 67 rfl) rfl
theorem wd_5_68 : (Jvm.Cond.methodLink "TollLedgerLaw" 88 ⟨"TollLedgerModel", "offerOf", "(II)I"⟩) ∈ BIG := bgA (inT5 68 rfl) rfl
theorem wd_5_69 : (Jvm.Cond.instanceMethod ⟨"TollLedgerModel", "offerOf", "(II)I"⟩) ∈ BIG := bgA (inT5 69 rfl) rfl
theorem wd_5_70 : (Jvm.Cond.selects "TollLedgerModel" ⟨"TollLedgerModel", "offerOf", "(II)I"⟩ ⟨"TollLedgerModel", "offerOf", "(II)I"⟩) ∈ BIG := bgA (inT5 70 rfl) rfl
theorem wd_5_71 : (Jvm.Cond.code ⟨"TollLedgerModel", "offerOf", "(II)I"⟩ prog_11_method_45_code 4 (Option.some Jvm.ClassFile.FieldType.int)) ∈ BIG := bgA (inT5 71 rfl) rfl
theorem wd_5_72 : (Jvm.Cond.methodLink "TollLedgerLaw" 92 ⟨"TollLedgerModel", "depositOf", "(I)I"⟩) ∈ BIG := bgA (inT5 72 rfl) rfl
theorem wd_5_73 : (Jvm.Cond.instanceMethod ⟨"TollLedgerModel", "depositOf", "(I)I"⟩) ∈ BIG := bgA (inT5 73 rfl) rfl
theorem wd_5_74 : (Jvm.Cond.selects "TollLedgerModel" ⟨"TollLedgerModel", "depositOf", "(I)I"⟩ ⟨"TollLedgerModel", "depositOf", "(I)I"⟩) ∈ BIG := bgA (inT5 74 rfl) rfl
theorem wd_5_75 : (Jvm.Cond.code ⟨"TollLedgerModel", "depositOf", "(I)I"⟩ prog_11_method_46_code 3 (Option.some Jvm.ClassFile.FieldType.int)) ∈ BIG := bgA (inT5 75 rfl) rfl
theorem wd_5_76 : (Jvm.Cond.methodLink "TollLedgerLaw" 97 ⟨"TollLedgerModel", "burnt", "()I"⟩) ∈ BIG := bgA (inT5 76 rfl) rfl
theorem wd_5_77 : (Jvm.Cond.instanceMethod ⟨"TollLedgerModel", "burnt", "()I"⟩) ∈ BIG := bgA (inT5 77 rfl) rfl
theorem wd_5_78 : (Jvm.Cond.selects "TollLedgerModel" ⟨"TollLedgerModel", "burnt", "()I"⟩ ⟨"TollLedgerModel", "burnt", "()I"⟩) ∈ BIG := bgA (inT5 78 rfl) rfl
theorem wd_5_79 : (Jvm.Cond.code ⟨"TollLedgerModel", "burnt", "()I"⟩ prog_11_method_47_code 1 (Option.some Jvm.ClassFile.FieldType.int)) ∈ BIG := bgA (inT5 79 rfl) rfl
theorem wd_5_80 : (Jvm.Cond.methodLink "TollLedgerLaw" 101 ⟨"TollLedgerModel", "root", "()I"⟩) ∈ BIG := bgA (inT5 80 rfl) rfl
theorem wd_5_81 : (Jvm.Cond.instanceMethod ⟨"TollLedgerModel", "root", "()I"⟩) ∈ BIG := bgA (inT5 81 rfl) rfl
theorem wd_5_82 : (Jvm.Cond.selects "TollLedgerModel" ⟨"TollLedgerModel", "root", "()I"⟩ ⟨"TollLedgerModel", "root", "()I"⟩) ∈ BIG := bgA (inT5 82 rfl) rfl
theorem wd_5_83 : (Jvm.Cond.code ⟨"TollLedgerModel", "root", "()I"⟩ prog_11_method_51_code 5 (Option.some Jvm.ClassFile.FieldType.int)) ∈ BIG := bgA (inT5 83 rfl) rfl
theorem wd_5_84 : (Jvm.Cond.methodLink "TollLedgerModel" 243 ⟨"TollLedgerModel", "leaf", "(I)I"⟩) ∈ BIG := bgA (inT5 84 rfl) rfl
theorem wd_5_86 : (Jvm.Cond.instanceMethod ⟨"TollLedgerModel", "leaf", "(I)I"⟩) ∈ BIG := bgA (inT5 86 rfl) rfl
theorem wd_5_87 : (Jvm.Cond.code ⟨"TollLedgerModel", "leaf", "(I)I"⟩ prog_11_method_50_code 3 (Option.some Jvm.ClassFile.FieldType.int)) ∈ BIG := bgA (inT5 87 rfl) rfl
theorem wd_5_88 : (Jvm.Cond.constant "TollLedgerModel" 238 (300007 : Int32)) ∈ BIG := bgA (inT5 88 rfl) rfl
theorem wd_5_89 : (Jvm.Cond.methodLink "TollLedgerModel" 239 ⟨"TollLedgerModel", "lineLeaf", "(I)I"⟩) ∈ BIG := bgA (inT5 89 rfl) rfl
theorem wd_5_91 : (Jvm.Cond.instanceMethod ⟨"TollLedgerModel", "lineLeaf", "(I)I"⟩) ∈ BIG := bgA (inT5 91 rfl) rfl
theorem wd_5_92 : (Jvm.Cond.code ⟨"TollLedgerModel", "lineLeaf", "(I)I"⟩ prog_11_method_49_code 9 (Option.some Jvm.ClassFile.FieldType.int)) ∈ BIG := bgA (inT5 92 rfl) rfl
theorem wd_5_93 : (Jvm.Cond.constant "TollLedgerModel" 236 (1000003 : Int32)) ∈ BIG := bgA (inT5 93 rfl) rfl
theorem wd_5_94 : (Jvm.Cond.constant "TollLedgerModel" 237 (2000003 : Int32)) ∈ BIG := bgA (inT5 94 rfl) rfl
theorem wd_5_95 : (Jvm.Cond.constant "TollLedgerModel" 242 (100003 : Int32)) ∈ BIG := bgA (inT5 95 rfl) rfl
theorem wd_5_96 : (Jvm.Cond.methodLink "TollLedgerModel" 246 ⟨"TollLedgerModel", "join", "(II)I"⟩) ∈ BIG := bgA (inT5 96 rfl) rfl
theorem wd_5_97 : (Jvm.Cond.static ⟨"TollLedgerModel", "join", "(II)I"⟩) ∈ BIG := bgA (inT5 97 rfl) rfl
theorem wd_5_98 : (Jvm.Cond.code ⟨"TollLedgerModel", "join", "(II)I"⟩ prog_11_method_48_code 3 (Option.some Jvm.ClassFile.FieldType.int)) ∈ BIG := bgA (inT5 98 rfl) rfl
theorem wd_5_101 : (Jvm.Cond.sameMethod "[Ljava/lang/Object;" "java/lang/Object" "getClass" "()Ljava/lang/Class;") ∈ BIG := bgA (inT5 101 rfl) rfl
theorem wd_5_102 : (Jvm.Cond.selects "[Ljava/lang/Object;" ⟨"java/lang/Object", "getClass", "()Ljava/lang/Class;"⟩ ⟨"java/lang/Object", "getClass", "()Ljava/lang/Class;"⟩) ∈ BIG := bgA (inT5 102 rfl) rfl
theorem wp_0 : Cond.selects "TollLedger" ⟨"TollLedger", "isOther", "(I)Z"⟩ ⟨"TollLedger", "isOther", "(I)Z"⟩ ∈ BIG := bgA (inP (q := (⟨"TollLedger", "isOther", "(I)Z"⟩, 10)) 0 rfl) rfl
theorem wp_1 : Cond.selects "TollLedger" ⟨"TollLedger", "charge", "(Z)I"⟩ ⟨"TollLedger", "charge", "(Z)I"⟩ ∈ BIG := bgA (inP (q := (⟨"TollLedger", "charge", "(Z)I"⟩, 10)) 1 rfl) rfl
theorem wp_2 : Cond.selects "TollLedger$State" ⟨"TollLedger$State", "reserveOf", "(I)I"⟩ ⟨"TollLedger$State", "reserveOf", "(I)I"⟩ ∈ BIG := bgA (inP (q := (⟨"TollLedger$State", "reserveOf", "(I)I"⟩, 6)) 2 rfl) rfl
theorem wp_3 : Cond.selects "TollLedger$Book" ⟨"TollLedger$Book", "insert", "(LTollLedger$Offer;)V"⟩ ⟨"TollLedger$Book", "insert", "(LTollLedger$Offer;)V"⟩ ∈ BIG := bgA (inP (q := (⟨"TollLedger$Book", "insert", "(LTollLedger$Offer;)V"⟩, 2)) 3 rfl) rfl
theorem wp_4 : Cond.selects "TollLedger" ⟨"TollLedger", "greatestDelivery", "(IIII)I"⟩ ⟨"TollLedger", "greatestDelivery", "(IIII)I"⟩ ∈ BIG := bgA (inP (q := (⟨"TollLedger", "greatestDelivery", "(IIII)I"⟩, 10)) 4 rfl) rfl
theorem wp_5 : Cond.selects "TollLedger" ⟨"TollLedger", "spendingFor", "(IIII)I"⟩ ⟨"TollLedger", "spendingFor", "(IIII)I"⟩ ∈ BIG := bgA (inP (q := (⟨"TollLedger", "spendingFor", "(IIII)I"⟩, 10)) 5 rfl) rfl
theorem wp_6 : Cond.selects "TollLedger$State" ⟨"TollLedger$State", "tollRate", "(III)I"⟩ ⟨"TollLedger$State", "tollRate", "(III)I"⟩ ∈ BIG := bgA (inP (q := (⟨"TollLedger$State", "tollRate", "(III)I"⟩, 6)) 6 rfl) rfl
theorem wp_7 : Cond.selects "TollLedger" ⟨"TollLedger", "isHushed", "(II)Z"⟩ ⟨"TollLedger", "isHushed", "(II)Z"⟩ ∈ BIG := bgA (inP (q := (⟨"TollLedger", "isHushed", "(II)Z"⟩, 10)) 7 rfl) rfl
theorem wp_8 : Cond.selects "TollLedger$Taking" ⟨"TollLedger$Taking", "startPlan", "()V"⟩ ⟨"TollLedger$Taking", "startPlan", "()V"⟩ ∈ BIG := bgA (inP (q := (⟨"TollLedger$Taking", "startPlan", "()V"⟩, 13)) 8 rfl) rfl
theorem wp_9 : Cond.selects "TollLedger$Taking" ⟨"TollLedger$Taking", "goThrough", "(II)V"⟩ ⟨"TollLedger$Taking", "goThrough", "(II)V"⟩ ∈ BIG := bgA (inP (q := (⟨"TollLedger$Taking", "goThrough", "(II)V"⟩, 13)) 9 rfl) rfl
theorem wp_10 : Cond.selects "java/util/ArrayList" ⟨"java/util/ArrayList", "fastRemove", "([Ljava/lang/Object;I)V"⟩ ⟨"java/util/ArrayList", "fastRemove", "([Ljava/lang/Object;I)V"⟩ ∈ BIG := bgA (inP (q := (⟨"java/util/ArrayList", "fastRemove", "([Ljava/lang/Object;I)V"⟩, 3)) 10 rfl) rfl
theorem wp_11 : Cond.selects "TollLedger" ⟨"TollLedger", "canPlace", "(I)Z"⟩ ⟨"TollLedger", "canPlace", "(I)Z"⟩ ∈ BIG := bgA (inP (q := (⟨"TollLedger", "canPlace", "(I)Z"⟩, 10)) 11 rfl) rfl
theorem wp_12 : Cond.selects "java/util/ArrayList" ⟨"java/util/ArrayList", "add", "(Ljava/lang/Object;[Ljava/lang/Object;I)V"⟩ ⟨"java/util/ArrayList", "add", "(Ljava/lang/Object;[Ljava/lang/Object;I)V"⟩ ∈ BIG := bgA (inP (q := (⟨"java/util/ArrayList", "add", "(Ljava/lang/Object;[Ljava/lang/Object;I)V"⟩, 3)) 12 rfl) rfl
theorem wp_13 : Cond.selects "java/util/ArrayList" ⟨"java/util/ArrayList", "grow", "()[Ljava/lang/Object;"⟩ ⟨"java/util/ArrayList", "grow", "()[Ljava/lang/Object;"⟩ ∈ BIG := bgA (inP (q := (⟨"java/util/ArrayList", "grow", "()[Ljava/lang/Object;"⟩, 3)) 13 rfl) rfl
theorem wp_14 : Cond.selects "java/util/ArrayList" ⟨"java/util/ArrayList", "grow", "(I)[Ljava/lang/Object;"⟩ ⟨"java/util/ArrayList", "grow", "(I)[Ljava/lang/Object;"⟩ ∈ BIG := bgA (inP (q := (⟨"java/util/ArrayList", "grow", "(I)[Ljava/lang/Object;"⟩, 3)) 14 rfl) rfl
theorem wp_15 : Cond.selects "TollLedger$Leaves" ⟨"TollLedger$Leaves", "fillLines", "(LTollLedger$Lines;)V"⟩ ⟨"TollLedger$Leaves", "fillLines", "(LTollLedger$Lines;)V"⟩ ∈ BIG := bgA (inP (q := (⟨"TollLedger$Leaves", "fillLines", "(LTollLedger$Lines;)V"⟩, 1)) 15 rfl) rfl
theorem wp_16 : Cond.selects "TollLedger$Leaves" ⟨"TollLedger$Leaves", "inner", "(I)I"⟩ ⟨"TollLedger$Leaves", "inner", "(I)I"⟩ ∈ BIG := bgA (inP (q := (⟨"TollLedger$Leaves", "inner", "(I)I"⟩, 1)) 16 rfl) rfl
theorem wp_17 : Cond.selects "TollLedgerModel" ⟨"TollLedgerModel", "begin", "(Z)I"⟩ ⟨"TollLedgerModel", "begin", "(Z)I"⟩ ∈ BIG := bgA (inP (q := (⟨"TollLedgerModel", "begin", "(Z)I"⟩, 39)) 17 rfl) rfl
theorem wp_18 : Cond.selects "TollLedgerModel" ⟨"TollLedgerModel", "fundsIn", "(II)I"⟩ ⟨"TollLedgerModel", "fundsIn", "(II)I"⟩ ∈ BIG := bgA (inP (q := (⟨"TollLedgerModel", "fundsIn", "(II)I"⟩, 39)) 18 rfl) rfl
theorem wp_19 : Cond.selects "TollLedgerModel" ⟨"TollLedgerModel", "reserve", "(I)I"⟩ ⟨"TollLedgerModel", "reserve", "(I)I"⟩ ∈ BIG := bgA (inP (q := (⟨"TollLedgerModel", "reserve", "(I)I"⟩, 39)) 19 rfl) rfl
theorem wp_20 : Cond.selects "TollLedgerModel" ⟨"TollLedgerModel", "pieces", "(I)I"⟩ ⟨"TollLedgerModel", "pieces", "(I)I"⟩ ∈ BIG := bgA (inP (q := (⟨"TollLedgerModel", "pieces", "(I)I"⟩, 39)) 20 rfl) rfl
theorem wp_21 : Cond.selects "TollLedgerModel" ⟨"TollLedgerModel", "owns", "(I)Z"⟩ ⟨"TollLedgerModel", "owns", "(I)Z"⟩ ∈ BIG := bgA (inP (q := (⟨"TollLedgerModel", "owns", "(I)Z"⟩, 39)) 21 rfl) rfl
theorem wp_22 : Cond.selects "TollLedgerModel" ⟨"TollLedgerModel", "spending", "(III)J"⟩ ⟨"TollLedgerModel", "spending", "(III)J"⟩ ∈ BIG := bgA (inP (q := (⟨"TollLedgerModel", "spending", "(III)J"⟩, 39)) 22 rfl) rfl
theorem wp_23 : Cond.selects "TollLedgerModel" ⟨"TollLedgerModel", "costOf", "(JIII)J"⟩ ⟨"TollLedgerModel", "costOf", "(JIII)J"⟩ ∈ BIG := bgA (inP (q := (⟨"TollLedgerModel", "costOf", "(JIII)J"⟩, 39)) 23 rfl) rfl
theorem wp_24 : Cond.selects "TollLedgerModel" ⟨"TollLedgerModel", "take", "(IIIJJJ)V"⟩ ⟨"TollLedgerModel", "take", "(IIIJJJ)V"⟩ ∈ BIG := bgA (inP (q := (⟨"TollLedgerModel", "take", "(IIIJJJ)V"⟩, 39)) 24 rfl) rfl
theorem wp_25 : Cond.selects "TollLedgerModel" ⟨"TollLedgerModel", "nextOf", "(III)I"⟩ ⟨"TollLedgerModel", "nextOf", "(III)I"⟩ ∈ BIG := bgA (inP (q := (⟨"TollLedgerModel", "nextOf", "(III)I"⟩, 39)) 25 rfl) rfl
theorem wp_26 : Cond.selects "TollLedgerModel" ⟨"TollLedgerModel", "inBook", "(III)Z"⟩ ⟨"TollLedgerModel", "inBook", "(III)Z"⟩ ∈ BIG := bgA (inP (q := (⟨"TollLedgerModel", "inBook", "(III)Z"⟩, 39)) 26 rfl) rfl
theorem wp_27 : Cond.selects "TollLedgerModel" ⟨"TollLedgerModel", "ahead", "(II)Z"⟩ ⟨"TollLedgerModel", "ahead", "(II)Z"⟩ ∈ BIG := bgA (inP (q := (⟨"TollLedgerModel", "ahead", "(II)Z"⟩, 39)) 27 rfl) rfl
theorem wp_28 : Cond.selects "TollLedgerModel" ⟨"TollLedgerModel", "canTake", "(IIIIJJ)Z"⟩ ⟨"TollLedgerModel", "canTake", "(IIIIJJ)Z"⟩ ∈ BIG := bgA (inP (q := (⟨"TollLedgerModel", "canTake", "(IIIIJJ)Z"⟩, 39)) 28 rfl) rfl
theorem wp_29 : Cond.selects "TollLedgerModel" ⟨"TollLedgerModel", "priceOf", "(II)I"⟩ ⟨"TollLedgerModel", "priceOf", "(II)I"⟩ ∈ BIG := bgA (inP (q := (⟨"TollLedgerModel", "priceOf", "(II)I"⟩, 39)) 29 rfl) rfl
theorem wp_30 : Cond.selects "TollLedgerModel" ⟨"TollLedgerModel", "note", "(IIII)V"⟩ ⟨"TollLedgerModel", "note", "(IIII)V"⟩ ∈ BIG := bgA (inP (q := (⟨"TollLedgerModel", "note", "(IIII)V"⟩, 39)) 30 rfl) rfl
theorem wp_31 : Cond.selects "TollLedgerModel" ⟨"TollLedgerModel", "carryOut", "(II)V"⟩ ⟨"TollLedgerModel", "carryOut", "(II)V"⟩ ∈ BIG := bgA (inP (q := (⟨"TollLedgerModel", "carryOut", "(II)V"⟩, 39)) 31 rfl) rfl
theorem wp_32 : Cond.selects "TollLedgerModel" ⟨"TollLedgerModel", "change", "(IIJ)V"⟩ ⟨"TollLedgerModel", "change", "(IIJ)V"⟩ ∈ BIG := bgA (inP (q := (⟨"TollLedgerModel", "change", "(IIJ)V"⟩, 39)) 32 rfl) rfl
theorem wp_33 : Cond.selects "TollLedgerModel" ⟨"TollLedgerModel", "moveOffer", "(II)V"⟩ ⟨"TollLedgerModel", "moveOffer", "(II)V"⟩ ∈ BIG := bgA (inP (q := (⟨"TollLedgerModel", "moveOffer", "(II)V"⟩, 39)) 33 rfl) rfl
theorem wp_34 : Cond.selects "TollLedgerModel" ⟨"TollLedgerModel", "place", "(IIII)V"⟩ ⟨"TollLedgerModel", "place", "(IIII)V"⟩ ∈ BIG := bgA (inP (q := (⟨"TollLedgerModel", "place", "(IIII)V"⟩, 39)) 34 rfl) rfl
theorem wp_35 : Cond.selects "TollLedgerModel" ⟨"TollLedgerModel", "findOffer", "(I)I"⟩ ⟨"TollLedgerModel", "findOffer", "(I)I"⟩ ∈ BIG := bgA (inP (q := (⟨"TollLedgerModel", "findOffer", "(I)I"⟩, 39)) 35 rfl) rfl
theorem wp_36 : Cond.selects "TollLedgerModel" ⟨"TollLedgerModel", "findDeposit", "(I)I"⟩ ⟨"TollLedgerModel", "findDeposit", "(I)I"⟩ ∈ BIG := bgA (inP (q := (⟨"TollLedgerModel", "findDeposit", "(I)I"⟩, 39)) 36 rfl) rfl
theorem wp_37 : Cond.selects "TollLedgerModel" ⟨"TollLedgerModel", "leaf", "(I)I"⟩ ⟨"TollLedgerModel", "leaf", "(I)I"⟩ ∈ BIG := bgA (inP (q := (⟨"TollLedgerModel", "leaf", "(I)I"⟩, 39)) 37 rfl) rfl
theorem wp_38 : Cond.selects "TollLedgerModel" ⟨"TollLedgerModel", "lineLeaf", "(I)I"⟩ ⟨"TollLedgerModel", "lineLeaf", "(I)I"⟩ ∈ BIG := bgA (inP (q := (⟨"TollLedgerModel", "lineLeaf", "(I)I"⟩, 39)) 38 rfl) rfl
theorem gdV {cd c : Cond} {own : String} {ix : Nat} {Cn : String} {y : MethodName} (h1 : Cond.methodLink own ix y ∈ BIG) (h2 : Cond.instanceMethod y ∈ BIG) (h3 : Cond.selects Cn y y ∈ BIG) (h4 : Cond.initialized Cn ∈ BIG) (h5 : c ∈ BIG) : GoodIn (cd :: BIG) (wsV own ix Cn y (c :: BIG)) := by
  intro w hw
  have hw : w ∈ BIG := by
    simp only [wsV, List.cons_append, List.nil_append, List.mem_cons] at hw
    rcases hw with rfl | rfl | rfl | rfl | rfl | hw <;> assumption
  exact ⟨List.mem_cons_of_mem _ hw, good_of_word (bgG hw)⟩
theorem gdS {cd c : Cond} {own : String} {ix : Nat} {y : MethodName} (h1 : Cond.methodLink own ix y ∈ BIG) (h2 : Cond.static y ∈ BIG) (h4 : Cond.initialized y.cls ∈ BIG) (h5 : c ∈ BIG) : GoodIn (cd :: BIG) (va_wsS own ix y (c :: BIG)) := by
  intro w hw
  have hw : w ∈ BIG := by
    simp only [va_wsS, List.cons_append, List.nil_append, List.mem_cons] at hw
    rcases hw with rfl | rfl | rfl | rfl | hw <;> assumption
  exact ⟨List.mem_cons_of_mem _ hw, good_of_word (bgG hw)⟩
theorem gdN {cd c : Cond} (h5 : c ∈ BIG) : GoodIn (cd :: BIG) (c :: BIG) := by
  intro w hw
  have hw : w ∈ BIG := by
    rcases List.mem_cons.mp hw with rfl | hw <;> assumption
  exact ⟨List.mem_cons_of_mem _ hw, good_of_word (bgG hw)⟩
theorem wm_min : Cond.code Lib.Math.min.name Lib.Math.min.code 2 (some .int) ∈ BIG := bgA (inT2 143 rfl) rfl
theorem wm_max : Cond.code Lib.Math.max.name Lib.Math.max.code 2 (some .int) ∈ BIG := bgA (inT2 76 rfl) rfl
theorem wm_minL : Cond.code Lib.MathLoose.min_long.x Lib.MathLoose.min_long.code 4 (some .long) ∈ BIG := bgA (inT2 232 rfl) rfl
theorem hy_TL_init : y_TL_init.cls = "TollLedger" ∧ y_TL_init.cls ≠ "java/lang/invoke/MethodHandle" ∧ y_TL_init.cls ≠ "java/lang/invoke/VarHandle" ∧ (parseMethodDescriptor y_TL_init.desc).map (fun d => d.parameters.length) = some 0 := by decide +kernel
theorem hy_OJ_init : y_OJ_init.cls = "java/lang/Object" ∧ y_OJ_init.cls ≠ "java/lang/invoke/MethodHandle" ∧ y_OJ_init.cls ≠ "java/lang/invoke/VarHandle" ∧ (parseMethodDescriptor y_OJ_init.desc).map (fun d => d.parameters.length) = some 0 := by decide +kernel
theorem hy_ST_init : y_ST_init.cls = "TollLedger$State" ∧ y_ST_init.cls ≠ "java/lang/invoke/MethodHandle" ∧ y_ST_init.cls ≠ "java/lang/invoke/VarHandle" ∧ (parseMethodDescriptor y_ST_init.desc).map (fun d => d.parameters.length) = some 0 := by decide +kernel
theorem hy_LN_init : y_LN_init.cls = "TollLedger$Lines" ∧ y_LN_init.cls ≠ "java/lang/invoke/MethodHandle" ∧ y_LN_init.cls ≠ "java/lang/invoke/VarHandle" ∧ (parseMethodDescriptor y_LN_init.desc).map (fun d => d.parameters.length) = some 0 := by decide +kernel
theorem hy_AL_init : y_AL_init.cls = "java/util/ArrayList" ∧ y_AL_init.cls ≠ "java/lang/invoke/MethodHandle" ∧ y_AL_init.cls ≠ "java/lang/invoke/VarHandle" ∧ (parseMethodDescriptor y_AL_init.desc).map (fun d => d.parameters.length) = some 0 := by decide +kernel
theorem hy_AB_init : y_AB_init.cls = "java/util/AbstractList" ∧ y_AB_init.cls ≠ "java/lang/invoke/MethodHandle" ∧ y_AB_init.cls ≠ "java/lang/invoke/VarHandle" ∧ (parseMethodDescriptor y_AB_init.desc).map (fun d => d.parameters.length) = some 0 := by decide +kernel
theorem hy_AX_init : y_AX_init.cls = "java/util/AbstractCollection" ∧ y_AX_init.cls ≠ "java/lang/invoke/MethodHandle" ∧ y_AX_init.cls ≠ "java/lang/invoke/VarHandle" ∧ (parseMethodDescriptor y_AX_init.desc).map (fun d => d.parameters.length) = some 0 := by decide +kernel
theorem hy_AC_init : y_AC_init.cls = "TollLedger$Account" ∧ y_AC_init.cls ≠ "java/lang/invoke/MethodHandle" ∧ y_AC_init.cls ≠ "java/lang/invoke/VarHandle" ∧ (parseMethodDescriptor y_AC_init.desc).map (fun d => d.parameters.length) = some 0 := by decide +kernel
theorem hy_TK_init : y_TK_init.cls = "TollLedger$Taking" ∧ y_TK_init.cls ≠ "java/lang/invoke/MethodHandle" ∧ y_TK_init.cls ≠ "java/lang/invoke/VarHandle" ∧ (parseMethodDescriptor y_TK_init.desc).map (fun d => d.parameters.length) = some 1 := by decide +kernel
theorem hy_BK_init : y_BK_init.cls = "TollLedger$Book" ∧ y_BK_init.cls ≠ "java/lang/invoke/MethodHandle" ∧ y_BK_init.cls ≠ "java/lang/invoke/VarHandle" ∧ (parseMethodDescriptor y_BK_init.desc).map (fun d => d.parameters.length) = some 0 := by decide +kernel
theorem hy_LV_init : y_LV_init.cls = "TollLedger$Leaves" ∧ y_LV_init.cls ≠ "java/lang/invoke/MethodHandle" ∧ y_LV_init.cls ≠ "java/lang/invoke/VarHandle" ∧ (parseMethodDescriptor y_LV_init.desc).map (fun d => d.parameters.length) = some 0 := by decide +kernel
theorem hy_TL_by : y_TL_by.cls = "TollLedger" ∧ y_TL_by.cls ≠ "java/lang/invoke/MethodHandle" ∧ y_TL_by.cls ≠ "java/lang/invoke/VarHandle" ∧ (parseMethodDescriptor y_TL_by.desc).map (fun d => d.parameters.length) = some 2 := by decide +kernel
theorem hy_TL_isAccount : y_TL_isAccount.cls ≠ "java/lang/invoke/MethodHandle" ∧ y_TL_isAccount.cls ≠ "java/lang/invoke/VarHandle" ∧ (parseMethodDescriptor y_TL_isAccount.desc).map (fun d => d.parameters.length) = some 1 := by decide +kernel
theorem hy_TL_isWithin : y_TL_isWithin.cls ≠ "java/lang/invoke/MethodHandle" ∧ y_TL_isWithin.cls ≠ "java/lang/invoke/VarHandle" ∧ (parseMethodDescriptor y_TL_isWithin.desc).map (fun d => d.parameters.length) = some 3 := by decide +kernel
theorem hy_TL_send : y_TL_send.cls = "TollLedger" ∧ y_TL_send.cls ≠ "java/lang/invoke/MethodHandle" ∧ y_TL_send.cls ≠ "java/lang/invoke/VarHandle" ∧ (parseMethodDescriptor y_TL_send.desc).map (fun d => d.parameters.length) = some 2 := by decide +kernel
theorem hy_TL_isOther : y_TL_isOther.cls = "TollLedger" ∧ y_TL_isOther.cls ≠ "java/lang/invoke/MethodHandle" ∧ y_TL_isOther.cls ≠ "java/lang/invoke/VarHandle" ∧ (parseMethodDescriptor y_TL_isOther.desc).map (fun d => d.parameters.length) = some 1 := by decide +kernel
theorem hy_TL_charge : y_TL_charge.cls = "TollLedger" ∧ y_TL_charge.cls ≠ "java/lang/invoke/MethodHandle" ∧ y_TL_charge.cls ≠ "java/lang/invoke/VarHandle" ∧ (parseMethodDescriptor y_TL_charge.desc).map (fun d => d.parameters.length) = some 1 := by decide +kernel
theorem hy_ST_fundsOf : y_ST_fundsOf.cls = "TollLedger$State" ∧ y_ST_fundsOf.cls ≠ "java/lang/invoke/MethodHandle" ∧ y_ST_fundsOf.cls ≠ "java/lang/invoke/VarHandle" ∧ (parseMethodDescriptor y_ST_fundsOf.desc).map (fun d => d.parameters.length) = some 2 := by decide +kernel
theorem hy_ST_reserveOf : y_ST_reserveOf.cls = "TollLedger$State" ∧ y_ST_reserveOf.cls ≠ "java/lang/invoke/MethodHandle" ∧ y_ST_reserveOf.cls ≠ "java/lang/invoke/VarHandle" ∧ (parseMethodDescriptor y_ST_reserveOf.desc).map (fun d => d.parameters.length) = some 1 := by decide +kernel
theorem hy_ST_piecesOf : y_ST_piecesOf.cls = "TollLedger$State" ∧ y_ST_piecesOf.cls ≠ "java/lang/invoke/MethodHandle" ∧ y_ST_piecesOf.cls ≠ "java/lang/invoke/VarHandle" ∧ (parseMethodDescriptor y_ST_piecesOf.desc).map (fun d => d.parameters.length) = some 1 := by decide +kernel
theorem hy_LN_piecesOf : y_LN_piecesOf.cls = "TollLedger$Lines" ∧ y_LN_piecesOf.cls ≠ "java/lang/invoke/MethodHandle" ∧ y_LN_piecesOf.cls ≠ "java/lang/invoke/VarHandle" ∧ (parseMethodDescriptor y_LN_piecesOf.desc).map (fun d => d.parameters.length) = some 1 := by decide +kernel
theorem hy_LN_side : y_LN_side.cls ≠ "java/lang/invoke/MethodHandle" ∧ y_LN_side.cls ≠ "java/lang/invoke/VarHandle" ∧ (parseMethodDescriptor y_LN_side.desc).map (fun d => d.parameters.length) = some 3 := by decide +kernel
theorem hy_LN_isPiece : y_LN_isPiece.cls = "TollLedger$Lines" ∧ y_LN_isPiece.cls ≠ "java/lang/invoke/MethodHandle" ∧ y_LN_isPiece.cls ≠ "java/lang/invoke/VarHandle" ∧ (parseMethodDescriptor y_LN_isPiece.desc).map (fun d => d.parameters.length) = some 1 := by decide +kernel
theorem hy_AL_size : y_AL_size.cls = "java/util/ArrayList" ∧ y_AL_size.cls ≠ "java/lang/invoke/MethodHandle" ∧ y_AL_size.cls ≠ "java/lang/invoke/VarHandle" ∧ (parseMethodDescriptor y_AL_size.desc).map (fun d => d.parameters.length) = some 0 := by decide +kernel
theorem hy_AL_get : y_AL_get.cls = "java/util/ArrayList" ∧ y_AL_get.cls ≠ "java/lang/invoke/MethodHandle" ∧ y_AL_get.cls ≠ "java/lang/invoke/VarHandle" ∧ (parseMethodDescriptor y_AL_get.desc).map (fun d => d.parameters.length) = some 1 := by decide +kernel
theorem hy_OB_checkIndex : y_OB_checkIndex.cls ≠ "java/lang/invoke/MethodHandle" ∧ y_OB_checkIndex.cls ≠ "java/lang/invoke/VarHandle" ∧ (parseMethodDescriptor y_OB_checkIndex.desc).map (fun d => d.parameters.length) = some 2 := by decide +kernel
theorem hy_PC_checkIndex : y_PC_checkIndex.cls ≠ "java/lang/invoke/MethodHandle" ∧ y_PC_checkIndex.cls ≠ "java/lang/invoke/VarHandle" ∧ (parseMethodDescriptor y_PC_checkIndex.desc).map (fun d => d.parameters.length) = some 3 := by decide +kernel
theorem hy_AL_elementData : y_AL_elementData.cls = "java/util/ArrayList" ∧ y_AL_elementData.cls ≠ "java/lang/invoke/MethodHandle" ∧ y_AL_elementData.cls ≠ "java/lang/invoke/VarHandle" ∧ (parseMethodDescriptor y_AL_elementData.desc).map (fun d => d.parameters.length) = some 1 := by decide +kernel
theorem hy_MT_max : y_MT_max.cls ≠ "java/lang/invoke/MethodHandle" ∧ y_MT_max.cls ≠ "java/lang/invoke/VarHandle" ∧ (parseMethodDescriptor y_MT_max.desc).map (fun d => d.parameters.length) = some 2 := by decide +kernel
theorem hy_TL_issuerOf : y_TL_issuerOf.cls ≠ "java/lang/invoke/MethodHandle" ∧ y_TL_issuerOf.cls ≠ "java/lang/invoke/VarHandle" ∧ (parseMethodDescriptor y_TL_issuerOf.desc).map (fun d => d.parameters.length) = some 1 := by decide +kernel
theorem hy_TL_currencyOf : y_TL_currencyOf.cls ≠ "java/lang/invoke/MethodHandle" ∧ y_TL_currencyOf.cls ≠ "java/lang/invoke/VarHandle" ∧ (parseMethodDescriptor y_TL_currencyOf.desc).map (fun d => d.parameters.length) = some 1 := by decide +kernel
theorem hy_ST_change : y_ST_change.cls = "TollLedger$State" ∧ y_ST_change.cls ≠ "java/lang/invoke/MethodHandle" ∧ y_ST_change.cls ≠ "java/lang/invoke/VarHandle" ∧ (parseMethodDescriptor y_ST_change.desc).map (fun d => d.parameters.length) = some 3 := by decide +kernel
theorem hy_LN_grow : y_LN_grow.cls = "TollLedger$Lines" ∧ y_LN_grow.cls ≠ "java/lang/invoke/MethodHandle" ∧ y_LN_grow.cls ≠ "java/lang/invoke/VarHandle" ∧ (parseMethodDescriptor y_LN_grow.desc).map (fun d => d.parameters.length) = some 4 := by decide +kernel
theorem hy_TL_trust : y_TL_trust.cls = "TollLedger" ∧ y_TL_trust.cls ≠ "java/lang/invoke/MethodHandle" ∧ y_TL_trust.cls ≠ "java/lang/invoke/VarHandle" ∧ (parseMethodDescriptor y_TL_trust.desc).map (fun d => d.parameters.length) = some 4 := by decide +kernel
theorem hy_TL_isCurrency : y_TL_isCurrency.cls ≠ "java/lang/invoke/MethodHandle" ∧ y_TL_isCurrency.cls ≠ "java/lang/invoke/VarHandle" ∧ (parseMethodDescriptor y_TL_isCurrency.desc).map (fun d => d.parameters.length) = some 1 := by decide +kernel
theorem hy_ST_affordsOneMore : y_ST_affordsOneMore.cls = "TollLedger$State" ∧ y_ST_affordsOneMore.cls ≠ "java/lang/invoke/MethodHandle" ∧ y_ST_affordsOneMore.cls ≠ "java/lang/invoke/VarHandle" ∧ (parseMethodDescriptor y_ST_affordsOneMore.desc).map (fun d => d.parameters.length) = some 2 := by decide +kernel
theorem hy_TL_rate : y_TL_rate.cls = "TollLedger" ∧ y_TL_rate.cls ≠ "java/lang/invoke/MethodHandle" ∧ y_TL_rate.cls ≠ "java/lang/invoke/VarHandle" ∧ (parseMethodDescriptor y_TL_rate.desc).map (fun d => d.parameters.length) = some 1 := by decide +kernel
theorem hy_TL_spend : y_TL_spend.cls = "TollLedger" ∧ y_TL_spend.cls ≠ "java/lang/invoke/MethodHandle" ∧ y_TL_spend.cls ≠ "java/lang/invoke/VarHandle" ∧ (parseMethodDescriptor y_TL_spend.desc).map (fun d => d.parameters.length) = some 3 := by decide +kernel
theorem hy_TL_isAsset : y_TL_isAsset.cls ≠ "java/lang/invoke/MethodHandle" ∧ y_TL_isAsset.cls ≠ "java/lang/invoke/VarHandle" ∧ (parseMethodDescriptor y_TL_isAsset.desc).map (fun d => d.parameters.length) = some 1 := by decide +kernel
theorem hy_TL_pay : y_TL_pay.cls = "TollLedger" ∧ y_TL_pay.cls ≠ "java/lang/invoke/MethodHandle" ∧ y_TL_pay.cls ≠ "java/lang/invoke/VarHandle" ∧ (parseMethodDescriptor y_TL_pay.desc).map (fun d => d.parameters.length) = some 3 := by decide +kernel
theorem hy_TK_open : y_TK_open.cls = "TollLedger$Taking" ∧ y_TK_open.cls ≠ "java/lang/invoke/MethodHandle" ∧ y_TK_open.cls ≠ "java/lang/invoke/VarHandle" ∧ (parseMethodDescriptor y_TK_open.desc).map (fun d => d.parameters.length) = some 3 := by decide +kernel
theorem hy_BK_gather : y_BK_gather.cls = "TollLedger$Book" ∧ y_BK_gather.cls ≠ "java/lang/invoke/MethodHandle" ∧ y_BK_gather.cls ≠ "java/lang/invoke/VarHandle" ∧ (parseMethodDescriptor y_BK_gather.desc).map (fun d => d.parameters.length) = some 4 := by decide +kernel
theorem hy_BK_insert : y_BK_insert.cls = "TollLedger$Book" ∧ y_BK_insert.cls ≠ "java/lang/invoke/MethodHandle" ∧ y_BK_insert.cls ≠ "java/lang/invoke/VarHandle" ∧ (parseMethodDescriptor y_BK_insert.desc).map (fun d => d.parameters.length) = some 1 := by decide +kernel
theorem hy_OF_isBetterThan : y_OF_isBetterThan.cls = "TollLedger$Offer" ∧ y_OF_isBetterThan.cls ≠ "java/lang/invoke/MethodHandle" ∧ y_OF_isBetterThan.cls ≠ "java/lang/invoke/VarHandle" ∧ (parseMethodDescriptor y_OF_isBetterThan.desc).map (fun d => d.parameters.length) = some 1 := by decide +kernel
theorem hy_MT_min : y_MT_min.cls ≠ "java/lang/invoke/MethodHandle" ∧ y_MT_min.cls ≠ "java/lang/invoke/VarHandle" ∧ (parseMethodDescriptor y_MT_min.desc).map (fun d => d.parameters.length) = some 2 := by decide +kernel
theorem hy_TL_greatestDelivery : y_TL_greatestDelivery.cls = "TollLedger" ∧ y_TL_greatestDelivery.cls ≠ "java/lang/invoke/MethodHandle" ∧ y_TL_greatestDelivery.cls ≠ "java/lang/invoke/VarHandle" ∧ (parseMethodDescriptor y_TL_greatestDelivery.desc).map (fun d => d.parameters.length) = some 4 := by decide +kernel
theorem hy_TL_spendingFor : y_TL_spendingFor.cls = "TollLedger" ∧ y_TL_spendingFor.cls ≠ "java/lang/invoke/MethodHandle" ∧ y_TL_spendingFor.cls ≠ "java/lang/invoke/VarHandle" ∧ (parseMethodDescriptor y_TL_spendingFor.desc).map (fun d => d.parameters.length) = some 4 := by decide +kernel
theorem hy_LN_hasRoom : y_LN_hasRoom.cls = "TollLedger$Lines" ∧ y_LN_hasRoom.cls ≠ "java/lang/invoke/MethodHandle" ∧ y_LN_hasRoom.cls ≠ "java/lang/invoke/VarHandle" ∧ (parseMethodDescriptor y_LN_hasRoom.desc).map (fun d => d.parameters.length) = some 2 := by decide +kernel
theorem hy_ST_costOf : y_ST_costOf.cls = "TollLedger$State" ∧ y_ST_costOf.cls ≠ "java/lang/invoke/MethodHandle" ∧ y_ST_costOf.cls ≠ "java/lang/invoke/VarHandle" ∧ (parseMethodDescriptor y_ST_costOf.desc).map (fun d => d.parameters.length) = some 4 := by decide +kernel
theorem hy_ST_tollRate : y_ST_tollRate.cls = "TollLedger$State" ∧ y_ST_tollRate.cls ≠ "java/lang/invoke/MethodHandle" ∧ y_ST_tollRate.cls ≠ "java/lang/invoke/VarHandle" ∧ (parseMethodDescriptor y_ST_tollRate.desc).map (fun d => d.parameters.length) = some 3 := by decide +kernel
theorem hy_TL_isHushed : y_TL_isHushed.cls = "TollLedger" ∧ y_TL_isHushed.cls ≠ "java/lang/invoke/MethodHandle" ∧ y_TL_isHushed.cls ≠ "java/lang/invoke/VarHandle" ∧ (parseMethodDescriptor y_TL_isHushed.desc).map (fun d => d.parameters.length) = some 2 := by decide +kernel
theorem hy_TK_planAll : y_TK_planAll.cls = "TollLedger$Taking" ∧ y_TK_planAll.cls ≠ "java/lang/invoke/MethodHandle" ∧ y_TK_planAll.cls ≠ "java/lang/invoke/VarHandle" ∧ (parseMethodDescriptor y_TK_planAll.desc).map (fun d => d.parameters.length) = some 1 := by decide +kernel
theorem hy_TK_startPlan : y_TK_startPlan.cls = "TollLedger$Taking" ∧ y_TK_startPlan.cls ≠ "java/lang/invoke/MethodHandle" ∧ y_TK_startPlan.cls ≠ "java/lang/invoke/VarHandle" ∧ (parseMethodDescriptor y_TK_startPlan.desc).map (fun d => d.parameters.length) = some 0 := by decide +kernel
theorem hy_TK_goThrough : y_TK_goThrough.cls = "TollLedger$Taking" ∧ y_TK_goThrough.cls ≠ "java/lang/invoke/MethodHandle" ∧ y_TK_goThrough.cls ≠ "java/lang/invoke/VarHandle" ∧ (parseMethodDescriptor y_TK_goThrough.desc).map (fun d => d.parameters.length) = some 2 := by decide +kernel
theorem hy_ST_mostMovable : y_ST_mostMovable.cls = "TollLedger$State" ∧ y_ST_mostMovable.cls ≠ "java/lang/invoke/MethodHandle" ∧ y_ST_mostMovable.cls ≠ "java/lang/invoke/VarHandle" ∧ (parseMethodDescriptor y_ST_mostMovable.desc).map (fun d => d.parameters.length) = some 4 := by decide +kernel
theorem hy_OF_priceOf : y_OF_priceOf.cls = "TollLedger$Offer" ∧ y_OF_priceOf.cls ≠ "java/lang/invoke/MethodHandle" ∧ y_OF_priceOf.cls ≠ "java/lang/invoke/VarHandle" ∧ (parseMethodDescriptor y_OF_priceOf.desc).map (fun d => d.parameters.length) = some 1 := by decide +kernel
theorem hy_TK_carryOut : y_TK_carryOut.cls = "TollLedger$Taking" ∧ y_TK_carryOut.cls ≠ "java/lang/invoke/MethodHandle" ∧ y_TK_carryOut.cls ≠ "java/lang/invoke/VarHandle" ∧ (parseMethodDescriptor y_TK_carryOut.desc).map (fun d => d.parameters.length) = some 0 := by decide +kernel
theorem hy_ST_dropSpentOffers : y_ST_dropSpentOffers.cls = "TollLedger$State" ∧ y_ST_dropSpentOffers.cls ≠ "java/lang/invoke/MethodHandle" ∧ y_ST_dropSpentOffers.cls ≠ "java/lang/invoke/VarHandle" ∧ (parseMethodDescriptor y_ST_dropSpentOffers.desc).map (fun d => d.parameters.length) = some 0 := by decide +kernel
theorem hy_AL_remove : y_AL_remove.cls = "java/util/ArrayList" ∧ y_AL_remove.cls ≠ "java/lang/invoke/MethodHandle" ∧ y_AL_remove.cls ≠ "java/lang/invoke/VarHandle" ∧ (parseMethodDescriptor y_AL_remove.desc).map (fun d => d.parameters.length) = some 1 := by decide +kernel
theorem hy_AL_fastRemove : y_AL_fastRemove.cls = "java/util/ArrayList" ∧ y_AL_fastRemove.cls ≠ "java/lang/invoke/MethodHandle" ∧ y_AL_fastRemove.cls ≠ "java/lang/invoke/VarHandle" ∧ (parseMethodDescriptor y_AL_fastRemove.desc).map (fun d => d.parameters.length) = some 2 := by decide +kernel
theorem hy_TL_offer : y_TL_offer.cls = "TollLedger" ∧ y_TL_offer.cls ≠ "java/lang/invoke/MethodHandle" ∧ y_TL_offer.cls ≠ "java/lang/invoke/VarHandle" ∧ (parseMethodDescriptor y_TL_offer.desc).map (fun d => d.parameters.length) = some 5 := by decide +kernel
theorem hy_TK_planCrossing : y_TK_planCrossing.cls = "TollLedger$Taking" ∧ y_TK_planCrossing.cls ≠ "java/lang/invoke/MethodHandle" ∧ y_TK_planCrossing.cls ≠ "java/lang/invoke/VarHandle" ∧ (parseMethodDescriptor y_TK_planCrossing.desc).map (fun d => d.parameters.length) = some 3 := by decide +kernel
theorem hy_TK_isCrossed : y_TK_isCrossed.cls ≠ "java/lang/invoke/MethodHandle" ∧ y_TK_isCrossed.cls ≠ "java/lang/invoke/VarHandle" ∧ (parseMethodDescriptor y_TK_isCrossed.desc).map (fun d => d.parameters.length) = some 3 := by decide +kernel
theorem hy_OF_mostFor : y_OF_mostFor.cls = "TollLedger$Offer" ∧ y_OF_mostFor.cls ≠ "java/lang/invoke/MethodHandle" ∧ y_OF_mostFor.cls ≠ "java/lang/invoke/VarHandle" ∧ (parseMethodDescriptor y_OF_mostFor.desc).map (fun d => d.parameters.length) = some 1 := by decide +kernel
theorem hy_MT_minL : y_MT_minL.cls ≠ "java/lang/invoke/MethodHandle" ∧ y_MT_minL.cls ≠ "java/lang/invoke/VarHandle" ∧ (parseMethodDescriptor y_MT_minL.desc).map (fun d => d.parameters.length) = some 2 := by decide +kernel
theorem hy_TK_countUnfunded : y_TK_countUnfunded.cls = "TollLedger$Taking" ∧ y_TK_countUnfunded.cls ≠ "java/lang/invoke/MethodHandle" ∧ y_TK_countUnfunded.cls ≠ "java/lang/invoke/VarHandle" ∧ (parseMethodDescriptor y_TK_countUnfunded.desc).map (fun d => d.parameters.length) = some 0 := by decide +kernel
theorem hy_TL_canPlace : y_TL_canPlace.cls = "TollLedger" ∧ y_TL_canPlace.cls ≠ "java/lang/invoke/MethodHandle" ∧ y_TL_canPlace.cls ≠ "java/lang/invoke/VarHandle" ∧ (parseMethodDescriptor y_TL_canPlace.desc).map (fun d => d.parameters.length) = some 1 := by decide +kernel
theorem hy_ST_addOffer : y_ST_addOffer.cls = "TollLedger$State" ∧ y_ST_addOffer.cls ≠ "java/lang/invoke/MethodHandle" ∧ y_ST_addOffer.cls ≠ "java/lang/invoke/VarHandle" ∧ (parseMethodDescriptor y_ST_addOffer.desc).map (fun d => d.parameters.length) = some 5 := by decide +kernel
theorem hy_OF_init : y_OF_init.cls = "TollLedger$Offer" ∧ y_OF_init.cls ≠ "java/lang/invoke/MethodHandle" ∧ y_OF_init.cls ≠ "java/lang/invoke/VarHandle" ∧ (parseMethodDescriptor y_OF_init.desc).map (fun d => d.parameters.length) = some 0 := by decide +kernel
theorem hy_AL_add : y_AL_add.cls = "java/util/ArrayList" ∧ y_AL_add.cls ≠ "java/lang/invoke/MethodHandle" ∧ y_AL_add.cls ≠ "java/lang/invoke/VarHandle" ∧ (parseMethodDescriptor y_AL_add.desc).map (fun d => d.parameters.length) = some 1 := by decide +kernel
theorem hy_AL_add3 : y_AL_add3.cls = "java/util/ArrayList" ∧ y_AL_add3.cls ≠ "java/lang/invoke/MethodHandle" ∧ y_AL_add3.cls ≠ "java/lang/invoke/VarHandle" ∧ (parseMethodDescriptor y_AL_add3.desc).map (fun d => d.parameters.length) = some 3 := by decide +kernel
theorem hy_AL_grow : y_AL_grow.cls = "java/util/ArrayList" ∧ y_AL_grow.cls ≠ "java/lang/invoke/MethodHandle" ∧ y_AL_grow.cls ≠ "java/lang/invoke/VarHandle" ∧ (parseMethodDescriptor y_AL_grow.desc).map (fun d => d.parameters.length) = some 0 := by decide +kernel
theorem hy_AL_grow1 : y_AL_grow1.cls = "java/util/ArrayList" ∧ y_AL_grow1.cls ≠ "java/lang/invoke/MethodHandle" ∧ y_AL_grow1.cls ≠ "java/lang/invoke/VarHandle" ∧ (parseMethodDescriptor y_AL_grow1.desc).map (fun d => d.parameters.length) = some 1 := by decide +kernel
theorem hy_AS_newLength : y_AS_newLength.cls ≠ "java/lang/invoke/MethodHandle" ∧ y_AS_newLength.cls ≠ "java/lang/invoke/VarHandle" ∧ (parseMethodDescriptor y_AS_newLength.desc).map (fun d => d.parameters.length) = some 3 := by decide +kernel
theorem hy_AS_hugeLength : y_AS_hugeLength.cls ≠ "java/lang/invoke/MethodHandle" ∧ y_AS_hugeLength.cls ≠ "java/lang/invoke/VarHandle" ∧ (parseMethodDescriptor y_AS_hugeLength.desc).map (fun d => d.parameters.length) = some 2 := by decide +kernel
theorem hy_AR_copyOf : y_AR_copyOf.cls ≠ "java/lang/invoke/MethodHandle" ∧ y_AR_copyOf.cls ≠ "java/lang/invoke/VarHandle" ∧ (parseMethodDescriptor y_AR_copyOf.desc).map (fun d => d.parameters.length) = some 2 := by decide +kernel
theorem hy_AR_copyOf3 : y_AR_copyOf3.cls ≠ "java/lang/invoke/MethodHandle" ∧ y_AR_copyOf3.cls ≠ "java/lang/invoke/VarHandle" ∧ (parseMethodDescriptor y_AR_copyOf3.desc).map (fun d => d.parameters.length) = some 3 := by decide +kernel
theorem hy_TL_cancel : y_TL_cancel.cls = "TollLedger" ∧ y_TL_cancel.cls ≠ "java/lang/invoke/MethodHandle" ∧ y_TL_cancel.cls ≠ "java/lang/invoke/VarHandle" ∧ (parseMethodDescriptor y_TL_cancel.desc).map (fun d => d.parameters.length) = some 1 := by decide +kernel
theorem hy_ST_placeOfOffer : y_ST_placeOfOffer.cls = "TollLedger$State" ∧ y_ST_placeOfOffer.cls ≠ "java/lang/invoke/MethodHandle" ∧ y_ST_placeOfOffer.cls ≠ "java/lang/invoke/VarHandle" ∧ (parseMethodDescriptor y_ST_placeOfOffer.desc).map (fun d => d.parameters.length) = some 1 := by decide +kernel
theorem hy_TL_deposit : y_TL_deposit.cls = "TollLedger" ∧ y_TL_deposit.cls ≠ "java/lang/invoke/MethodHandle" ∧ y_TL_deposit.cls ≠ "java/lang/invoke/VarHandle" ∧ (parseMethodDescriptor y_TL_deposit.desc).map (fun d => d.parameters.length) = some 4 := by decide +kernel
theorem hy_ST_addDeposit : y_ST_addDeposit.cls = "TollLedger$State" ∧ y_ST_addDeposit.cls ≠ "java/lang/invoke/MethodHandle" ∧ y_ST_addDeposit.cls ≠ "java/lang/invoke/VarHandle" ∧ (parseMethodDescriptor y_ST_addDeposit.desc).map (fun d => d.parameters.length) = some 5 := by decide +kernel
theorem hy_DP_init : y_DP_init.cls = "TollLedger$Deposit" ∧ y_DP_init.cls ≠ "java/lang/invoke/MethodHandle" ∧ y_DP_init.cls ≠ "java/lang/invoke/VarHandle" ∧ (parseMethodDescriptor y_DP_init.desc).map (fun d => d.parameters.length) = some 0 := by decide +kernel
theorem hy_TL_settle : y_TL_settle.cls = "TollLedger" ∧ y_TL_settle.cls ≠ "java/lang/invoke/MethodHandle" ∧ y_TL_settle.cls ≠ "java/lang/invoke/VarHandle" ∧ (parseMethodDescriptor y_TL_settle.desc).map (fun d => d.parameters.length) = some 1 := by decide +kernel
theorem hy_ST_placeOfDeposit : y_ST_placeOfDeposit.cls = "TollLedger$State" ∧ y_ST_placeOfDeposit.cls ≠ "java/lang/invoke/MethodHandle" ∧ y_ST_placeOfDeposit.cls ≠ "java/lang/invoke/VarHandle" ∧ (parseMethodDescriptor y_ST_placeOfDeposit.desc).map (fun d => d.parameters.length) = some 1 := by decide +kernel
theorem hy_TL_tick : y_TL_tick.cls = "TollLedger" ∧ y_TL_tick.cls ≠ "java/lang/invoke/MethodHandle" ∧ y_TL_tick.cls ≠ "java/lang/invoke/VarHandle" ∧ (parseMethodDescriptor y_TL_tick.desc).map (fun d => d.parameters.length) = some 1 := by decide +kernel
theorem hy_TL_account : y_TL_account.cls = "TollLedger" ∧ y_TL_account.cls ≠ "java/lang/invoke/MethodHandle" ∧ y_TL_account.cls ≠ "java/lang/invoke/VarHandle" ∧ (parseMethodDescriptor y_TL_account.desc).map (fun d => d.parameters.length) = some 2 := by decide +kernel
theorem hy_TL_balance : y_TL_balance.cls = "TollLedger" ∧ y_TL_balance.cls ≠ "java/lang/invoke/MethodHandle" ∧ y_TL_balance.cls ≠ "java/lang/invoke/VarHandle" ∧ (parseMethodDescriptor y_TL_balance.desc).map (fun d => d.parameters.length) = some 3 := by decide +kernel
theorem hy_TL_isLine : y_TL_isLine.cls ≠ "java/lang/invoke/MethodHandle" ∧ y_TL_isLine.cls ≠ "java/lang/invoke/VarHandle" ∧ (parseMethodDescriptor y_TL_isLine.desc).map (fun d => d.parameters.length) = some 3 := by decide +kernel
theorem hy_TL_limit : y_TL_limit.cls = "TollLedger" ∧ y_TL_limit.cls ≠ "java/lang/invoke/MethodHandle" ∧ y_TL_limit.cls ≠ "java/lang/invoke/VarHandle" ∧ (parseMethodDescriptor y_TL_limit.desc).map (fun d => d.parameters.length) = some 3 := by decide +kernel
theorem hy_TL_funds : y_TL_funds.cls = "TollLedger" ∧ y_TL_funds.cls ≠ "java/lang/invoke/MethodHandle" ∧ y_TL_funds.cls ≠ "java/lang/invoke/VarHandle" ∧ (parseMethodDescriptor y_TL_funds.desc).map (fun d => d.parameters.length) = some 2 := by decide +kernel
theorem hy_TL_book : y_TL_book.cls = "TollLedger" ∧ y_TL_book.cls ≠ "java/lang/invoke/MethodHandle" ∧ y_TL_book.cls ≠ "java/lang/invoke/VarHandle" ∧ (parseMethodDescriptor y_TL_book.desc).map (fun d => d.parameters.length) = some 3 := by decide +kernel
theorem hy_TL_offerOf : y_TL_offerOf.cls = "TollLedger" ∧ y_TL_offerOf.cls ≠ "java/lang/invoke/MethodHandle" ∧ y_TL_offerOf.cls ≠ "java/lang/invoke/VarHandle" ∧ (parseMethodDescriptor y_TL_offerOf.desc).map (fun d => d.parameters.length) = some 2 := by decide +kernel
theorem hy_TL_depositOf : y_TL_depositOf.cls = "TollLedger" ∧ y_TL_depositOf.cls ≠ "java/lang/invoke/MethodHandle" ∧ y_TL_depositOf.cls ≠ "java/lang/invoke/VarHandle" ∧ (parseMethodDescriptor y_TL_depositOf.desc).map (fun d => d.parameters.length) = some 1 := by decide +kernel
theorem hy_TL_burnt : y_TL_burnt.cls = "TollLedger" ∧ y_TL_burnt.cls ≠ "java/lang/invoke/MethodHandle" ∧ y_TL_burnt.cls ≠ "java/lang/invoke/VarHandle" ∧ (parseMethodDescriptor y_TL_burnt.desc).map (fun d => d.parameters.length) = some 0 := by decide +kernel
theorem hy_TL_root : y_TL_root.cls = "TollLedger" ∧ y_TL_root.cls ≠ "java/lang/invoke/MethodHandle" ∧ y_TL_root.cls ≠ "java/lang/invoke/VarHandle" ∧ (parseMethodDescriptor y_TL_root.desc).map (fun d => d.parameters.length) = some 0 := by decide +kernel
theorem hy_LV_fill : y_LV_fill.cls = "TollLedger$Leaves" ∧ y_LV_fill.cls ≠ "java/lang/invoke/MethodHandle" ∧ y_LV_fill.cls ≠ "java/lang/invoke/VarHandle" ∧ (parseMethodDescriptor y_LV_fill.desc).map (fun d => d.parameters.length) = some 1 := by decide +kernel
theorem hy_AR_fill : y_AR_fill.cls ≠ "java/lang/invoke/MethodHandle" ∧ y_AR_fill.cls ≠ "java/lang/invoke/VarHandle" ∧ (parseMethodDescriptor y_AR_fill.desc).map (fun d => d.parameters.length) = some 2 := by decide +kernel
theorem hy_AC_leaf : y_AC_leaf.cls = "TollLedger$Account" ∧ y_AC_leaf.cls ≠ "java/lang/invoke/MethodHandle" ∧ y_AC_leaf.cls ≠ "java/lang/invoke/VarHandle" ∧ (parseMethodDescriptor y_AC_leaf.desc).map (fun d => d.parameters.length) = some 0 := by decide +kernel
theorem hy_LV_fillLines : y_LV_fillLines.cls = "TollLedger$Leaves" ∧ y_LV_fillLines.cls ≠ "java/lang/invoke/MethodHandle" ∧ y_LV_fillLines.cls ≠ "java/lang/invoke/VarHandle" ∧ (parseMethodDescriptor y_LV_fillLines.desc).map (fun d => d.parameters.length) = some 1 := by decide +kernel
theorem hy_LN_leaf : y_LN_leaf.cls = "TollLedger$Lines" ∧ y_LN_leaf.cls ≠ "java/lang/invoke/MethodHandle" ∧ y_LN_leaf.cls ≠ "java/lang/invoke/VarHandle" ∧ (parseMethodDescriptor y_LN_leaf.desc).map (fun d => d.parameters.length) = some 3 := by decide +kernel
theorem hy_OF_leaf : y_OF_leaf.cls = "TollLedger$Offer" ∧ y_OF_leaf.cls ≠ "java/lang/invoke/MethodHandle" ∧ y_OF_leaf.cls ≠ "java/lang/invoke/VarHandle" ∧ (parseMethodDescriptor y_OF_leaf.desc).map (fun d => d.parameters.length) = some 0 := by decide +kernel
theorem hy_DP_leaf : y_DP_leaf.cls = "TollLedger$Deposit" ∧ y_DP_leaf.cls ≠ "java/lang/invoke/MethodHandle" ∧ y_DP_leaf.cls ≠ "java/lang/invoke/VarHandle" ∧ (parseMethodDescriptor y_DP_leaf.desc).map (fun d => d.parameters.length) = some 0 := by decide +kernel
theorem hy_LV_fold : y_LV_fold.cls = "TollLedger$Leaves" ∧ y_LV_fold.cls ≠ "java/lang/invoke/MethodHandle" ∧ y_LV_fold.cls ≠ "java/lang/invoke/VarHandle" ∧ (parseMethodDescriptor y_LV_fold.desc).map (fun d => d.parameters.length) = some 0 := by decide +kernel
theorem hy_LV_inner : y_LV_inner.cls = "TollLedger$Leaves" ∧ y_LV_inner.cls ≠ "java/lang/invoke/MethodHandle" ∧ y_LV_inner.cls ≠ "java/lang/invoke/VarHandle" ∧ (parseMethodDescriptor y_LV_inner.desc).map (fun d => d.parameters.length) = some 1 := by decide +kernel
theorem hy_LV_mix : y_LV_mix.cls ≠ "java/lang/invoke/MethodHandle" ∧ y_LV_mix.cls ≠ "java/lang/invoke/VarHandle" ∧ (parseMethodDescriptor y_LV_mix.desc).map (fun d => d.parameters.length) = some 2 := by decide +kernel
theorem hy_MD_init : y_MD_init.cls = "TollLedgerModel" ∧ y_MD_init.cls ≠ "java/lang/invoke/MethodHandle" ∧ y_MD_init.cls ≠ "java/lang/invoke/VarHandle" ∧ (parseMethodDescriptor y_MD_init.desc).map (fun d => d.parameters.length) = some 0 := by decide +kernel
theorem hy_MD_by : y_MD_by.cls = "TollLedgerModel" ∧ y_MD_by.cls ≠ "java/lang/invoke/MethodHandle" ∧ y_MD_by.cls ≠ "java/lang/invoke/VarHandle" ∧ (parseMethodDescriptor y_MD_by.desc).map (fun d => d.parameters.length) = some 2 := by decide +kernel
theorem hy_MD_isAccount : y_MD_isAccount.cls ≠ "java/lang/invoke/MethodHandle" ∧ y_MD_isAccount.cls ≠ "java/lang/invoke/VarHandle" ∧ (parseMethodDescriptor y_MD_isAccount.desc).map (fun d => d.parameters.length) = some 1 := by decide +kernel
theorem hy_MD_spend : y_MD_spend.cls = "TollLedgerModel" ∧ y_MD_spend.cls ≠ "java/lang/invoke/MethodHandle" ∧ y_MD_spend.cls ≠ "java/lang/invoke/VarHandle" ∧ (parseMethodDescriptor y_MD_spend.desc).map (fun d => d.parameters.length) = some 3 := by decide +kernel
theorem hy_MD_isAsset : y_MD_isAsset.cls ≠ "java/lang/invoke/MethodHandle" ∧ y_MD_isAsset.cls ≠ "java/lang/invoke/VarHandle" ∧ (parseMethodDescriptor y_MD_isAsset.desc).map (fun d => d.parameters.length) = some 1 := by decide +kernel
theorem hy_MD_send : y_MD_send.cls = "TollLedgerModel" ∧ y_MD_send.cls ≠ "java/lang/invoke/MethodHandle" ∧ y_MD_send.cls ≠ "java/lang/invoke/VarHandle" ∧ (parseMethodDescriptor y_MD_send.desc).map (fun d => d.parameters.length) = some 2 := by decide +kernel
theorem hy_MD_begin : y_MD_begin.cls = "TollLedgerModel" ∧ y_MD_begin.cls ≠ "java/lang/invoke/MethodHandle" ∧ y_MD_begin.cls ≠ "java/lang/invoke/VarHandle" ∧ (parseMethodDescriptor y_MD_begin.desc).map (fun d => d.parameters.length) = some 1 := by decide +kernel
theorem hy_MD_fundsIn : y_MD_fundsIn.cls = "TollLedgerModel" ∧ y_MD_fundsIn.cls ≠ "java/lang/invoke/MethodHandle" ∧ y_MD_fundsIn.cls ≠ "java/lang/invoke/VarHandle" ∧ (parseMethodDescriptor y_MD_fundsIn.desc).map (fun d => d.parameters.length) = some 2 := by decide +kernel
theorem hy_MD_issuerOf : y_MD_issuerOf.cls ≠ "java/lang/invoke/MethodHandle" ∧ y_MD_issuerOf.cls ≠ "java/lang/invoke/VarHandle" ∧ (parseMethodDescriptor y_MD_issuerOf.desc).map (fun d => d.parameters.length) = some 1 := by decide +kernel
theorem hy_MD_reserve : y_MD_reserve.cls = "TollLedgerModel" ∧ y_MD_reserve.cls ≠ "java/lang/invoke/MethodHandle" ∧ y_MD_reserve.cls ≠ "java/lang/invoke/VarHandle" ∧ (parseMethodDescriptor y_MD_reserve.desc).map (fun d => d.parameters.length) = some 1 := by decide +kernel
theorem hy_MD_pieces : y_MD_pieces.cls = "TollLedgerModel" ∧ y_MD_pieces.cls ≠ "java/lang/invoke/MethodHandle" ∧ y_MD_pieces.cls ≠ "java/lang/invoke/VarHandle" ∧ (parseMethodDescriptor y_MD_pieces.desc).map (fun d => d.parameters.length) = some 1 := by decide +kernel
theorem hy_MD_owns : y_MD_owns.cls = "TollLedgerModel" ∧ y_MD_owns.cls ≠ "java/lang/invoke/MethodHandle" ∧ y_MD_owns.cls ≠ "java/lang/invoke/VarHandle" ∧ (parseMethodDescriptor y_MD_owns.desc).map (fun d => d.parameters.length) = some 1 := by decide +kernel
theorem hy_MD_holding : y_MD_holding.cls ≠ "java/lang/invoke/MethodHandle" ∧ y_MD_holding.cls ≠ "java/lang/invoke/VarHandle" ∧ (parseMethodDescriptor y_MD_holding.desc).map (fun d => d.parameters.length) = some 2 := by decide +kernel
theorem hy_MD_currencyOf : y_MD_currencyOf.cls ≠ "java/lang/invoke/MethodHandle" ∧ y_MD_currencyOf.cls ≠ "java/lang/invoke/VarHandle" ∧ (parseMethodDescriptor y_MD_currencyOf.desc).map (fun d => d.parameters.length) = some 1 := by decide +kernel
theorem hy_MD_line : y_MD_line.cls ≠ "java/lang/invoke/MethodHandle" ∧ y_MD_line.cls ≠ "java/lang/invoke/VarHandle" ∧ (parseMethodDescriptor y_MD_line.desc).map (fun d => d.parameters.length) = some 3 := by decide +kernel
theorem hy_MD_trust : y_MD_trust.cls = "TollLedgerModel" ∧ y_MD_trust.cls ≠ "java/lang/invoke/MethodHandle" ∧ y_MD_trust.cls ≠ "java/lang/invoke/VarHandle" ∧ (parseMethodDescriptor y_MD_trust.desc).map (fun d => d.parameters.length) = some 4 := by decide +kernel
theorem hy_MD_rate : y_MD_rate.cls = "TollLedgerModel" ∧ y_MD_rate.cls ≠ "java/lang/invoke/MethodHandle" ∧ y_MD_rate.cls ≠ "java/lang/invoke/VarHandle" ∧ (parseMethodDescriptor y_MD_rate.desc).map (fun d => d.parameters.length) = some 1 := by decide +kernel
theorem hy_MD_pay : y_MD_pay.cls = "TollLedgerModel" ∧ y_MD_pay.cls ≠ "java/lang/invoke/MethodHandle" ∧ y_MD_pay.cls ≠ "java/lang/invoke/VarHandle" ∧ (parseMethodDescriptor y_MD_pay.desc).map (fun d => d.parameters.length) = some 3 := by decide +kernel
theorem hy_MD_spending : y_MD_spending.cls = "TollLedgerModel" ∧ y_MD_spending.cls ≠ "java/lang/invoke/MethodHandle" ∧ y_MD_spending.cls ≠ "java/lang/invoke/VarHandle" ∧ (parseMethodDescriptor y_MD_spending.desc).map (fun d => d.parameters.length) = some 3 := by decide +kernel
theorem hy_MD_costOf : y_MD_costOf.cls = "TollLedgerModel" ∧ y_MD_costOf.cls ≠ "java/lang/invoke/MethodHandle" ∧ y_MD_costOf.cls ≠ "java/lang/invoke/VarHandle" ∧ (parseMethodDescriptor y_MD_costOf.desc).map (fun d => d.parameters.length) = some 4 := by decide +kernel
theorem hy_MD_take : y_MD_take.cls = "TollLedgerModel" ∧ y_MD_take.cls ≠ "java/lang/invoke/MethodHandle" ∧ y_MD_take.cls ≠ "java/lang/invoke/VarHandle" ∧ (parseMethodDescriptor y_MD_take.desc).map (fun d => d.parameters.length) = some 6 := by decide +kernel
theorem hy_MD_nextOf : y_MD_nextOf.cls = "TollLedgerModel" ∧ y_MD_nextOf.cls ≠ "java/lang/invoke/MethodHandle" ∧ y_MD_nextOf.cls ≠ "java/lang/invoke/VarHandle" ∧ (parseMethodDescriptor y_MD_nextOf.desc).map (fun d => d.parameters.length) = some 3 := by decide +kernel
theorem hy_MD_inBook : y_MD_inBook.cls = "TollLedgerModel" ∧ y_MD_inBook.cls ≠ "java/lang/invoke/MethodHandle" ∧ y_MD_inBook.cls ≠ "java/lang/invoke/VarHandle" ∧ (parseMethodDescriptor y_MD_inBook.desc).map (fun d => d.parameters.length) = some 3 := by decide +kernel
theorem hy_MD_ahead : y_MD_ahead.cls = "TollLedgerModel" ∧ y_MD_ahead.cls ≠ "java/lang/invoke/MethodHandle" ∧ y_MD_ahead.cls ≠ "java/lang/invoke/VarHandle" ∧ (parseMethodDescriptor y_MD_ahead.desc).map (fun d => d.parameters.length) = some 2 := by decide +kernel
theorem hy_MD_canTake : y_MD_canTake.cls = "TollLedgerModel" ∧ y_MD_canTake.cls ≠ "java/lang/invoke/MethodHandle" ∧ y_MD_canTake.cls ≠ "java/lang/invoke/VarHandle" ∧ (parseMethodDescriptor y_MD_canTake.desc).map (fun d => d.parameters.length) = some 6 := by decide +kernel
theorem hy_MD_priceOf : y_MD_priceOf.cls = "TollLedgerModel" ∧ y_MD_priceOf.cls ≠ "java/lang/invoke/MethodHandle" ∧ y_MD_priceOf.cls ≠ "java/lang/invoke/VarHandle" ∧ (parseMethodDescriptor y_MD_priceOf.desc).map (fun d => d.parameters.length) = some 2 := by decide +kernel
theorem hy_MD_note : y_MD_note.cls = "TollLedgerModel" ∧ y_MD_note.cls ≠ "java/lang/invoke/MethodHandle" ∧ y_MD_note.cls ≠ "java/lang/invoke/VarHandle" ∧ (parseMethodDescriptor y_MD_note.desc).map (fun d => d.parameters.length) = some 4 := by decide +kernel
theorem hy_MD_carryOut : y_MD_carryOut.cls = "TollLedgerModel" ∧ y_MD_carryOut.cls ≠ "java/lang/invoke/MethodHandle" ∧ y_MD_carryOut.cls ≠ "java/lang/invoke/VarHandle" ∧ (parseMethodDescriptor y_MD_carryOut.desc).map (fun d => d.parameters.length) = some 2 := by decide +kernel
theorem hy_MD_change : y_MD_change.cls = "TollLedgerModel" ∧ y_MD_change.cls ≠ "java/lang/invoke/MethodHandle" ∧ y_MD_change.cls ≠ "java/lang/invoke/VarHandle" ∧ (parseMethodDescriptor y_MD_change.desc).map (fun d => d.parameters.length) = some 3 := by decide +kernel
theorem hy_MD_moveOffer : y_MD_moveOffer.cls = "TollLedgerModel" ∧ y_MD_moveOffer.cls ≠ "java/lang/invoke/MethodHandle" ∧ y_MD_moveOffer.cls ≠ "java/lang/invoke/VarHandle" ∧ (parseMethodDescriptor y_MD_moveOffer.desc).map (fun d => d.parameters.length) = some 2 := by decide +kernel
theorem hy_MD_offer : y_MD_offer.cls = "TollLedgerModel" ∧ y_MD_offer.cls ≠ "java/lang/invoke/MethodHandle" ∧ y_MD_offer.cls ≠ "java/lang/invoke/VarHandle" ∧ (parseMethodDescriptor y_MD_offer.desc).map (fun d => d.parameters.length) = some 5 := by decide +kernel
theorem hy_MD_place : y_MD_place.cls = "TollLedgerModel" ∧ y_MD_place.cls ≠ "java/lang/invoke/MethodHandle" ∧ y_MD_place.cls ≠ "java/lang/invoke/VarHandle" ∧ (parseMethodDescriptor y_MD_place.desc).map (fun d => d.parameters.length) = some 4 := by decide +kernel
theorem hy_MD_cancel : y_MD_cancel.cls = "TollLedgerModel" ∧ y_MD_cancel.cls ≠ "java/lang/invoke/MethodHandle" ∧ y_MD_cancel.cls ≠ "java/lang/invoke/VarHandle" ∧ (parseMethodDescriptor y_MD_cancel.desc).map (fun d => d.parameters.length) = some 1 := by decide +kernel
theorem hy_MD_findOffer : y_MD_findOffer.cls = "TollLedgerModel" ∧ y_MD_findOffer.cls ≠ "java/lang/invoke/MethodHandle" ∧ y_MD_findOffer.cls ≠ "java/lang/invoke/VarHandle" ∧ (parseMethodDescriptor y_MD_findOffer.desc).map (fun d => d.parameters.length) = some 1 := by decide +kernel
theorem hy_MD_deposit : y_MD_deposit.cls = "TollLedgerModel" ∧ y_MD_deposit.cls ≠ "java/lang/invoke/MethodHandle" ∧ y_MD_deposit.cls ≠ "java/lang/invoke/VarHandle" ∧ (parseMethodDescriptor y_MD_deposit.desc).map (fun d => d.parameters.length) = some 4 := by decide +kernel
theorem hy_MD_settle : y_MD_settle.cls = "TollLedgerModel" ∧ y_MD_settle.cls ≠ "java/lang/invoke/MethodHandle" ∧ y_MD_settle.cls ≠ "java/lang/invoke/VarHandle" ∧ (parseMethodDescriptor y_MD_settle.desc).map (fun d => d.parameters.length) = some 1 := by decide +kernel
theorem hy_MD_findDeposit : y_MD_findDeposit.cls = "TollLedgerModel" ∧ y_MD_findDeposit.cls ≠ "java/lang/invoke/MethodHandle" ∧ y_MD_findDeposit.cls ≠ "java/lang/invoke/VarHandle" ∧ (parseMethodDescriptor y_MD_findDeposit.desc).map (fun d => d.parameters.length) = some 1 := by decide +kernel
theorem hy_MD_tick : y_MD_tick.cls = "TollLedgerModel" ∧ y_MD_tick.cls ≠ "java/lang/invoke/MethodHandle" ∧ y_MD_tick.cls ≠ "java/lang/invoke/VarHandle" ∧ (parseMethodDescriptor y_MD_tick.desc).map (fun d => d.parameters.length) = some 1 := by decide +kernel
theorem hy_MD_account : y_MD_account.cls = "TollLedgerModel" ∧ y_MD_account.cls ≠ "java/lang/invoke/MethodHandle" ∧ y_MD_account.cls ≠ "java/lang/invoke/VarHandle" ∧ (parseMethodDescriptor y_MD_account.desc).map (fun d => d.parameters.length) = some 2 := by decide +kernel
theorem hy_MD_balance : y_MD_balance.cls = "TollLedgerModel" ∧ y_MD_balance.cls ≠ "java/lang/invoke/MethodHandle" ∧ y_MD_balance.cls ≠ "java/lang/invoke/VarHandle" ∧ (parseMethodDescriptor y_MD_balance.desc).map (fun d => d.parameters.length) = some 3 := by decide +kernel
theorem hy_MD_isLine : y_MD_isLine.cls ≠ "java/lang/invoke/MethodHandle" ∧ y_MD_isLine.cls ≠ "java/lang/invoke/VarHandle" ∧ (parseMethodDescriptor y_MD_isLine.desc).map (fun d => d.parameters.length) = some 3 := by decide +kernel
theorem hy_MD_limit : y_MD_limit.cls = "TollLedgerModel" ∧ y_MD_limit.cls ≠ "java/lang/invoke/MethodHandle" ∧ y_MD_limit.cls ≠ "java/lang/invoke/VarHandle" ∧ (parseMethodDescriptor y_MD_limit.desc).map (fun d => d.parameters.length) = some 3 := by decide +kernel
theorem hy_MD_funds : y_MD_funds.cls = "TollLedgerModel" ∧ y_MD_funds.cls ≠ "java/lang/invoke/MethodHandle" ∧ y_MD_funds.cls ≠ "java/lang/invoke/VarHandle" ∧ (parseMethodDescriptor y_MD_funds.desc).map (fun d => d.parameters.length) = some 2 := by decide +kernel
theorem hy_MD_book : y_MD_book.cls = "TollLedgerModel" ∧ y_MD_book.cls ≠ "java/lang/invoke/MethodHandle" ∧ y_MD_book.cls ≠ "java/lang/invoke/VarHandle" ∧ (parseMethodDescriptor y_MD_book.desc).map (fun d => d.parameters.length) = some 3 := by decide +kernel
theorem hy_MD_offerOf : y_MD_offerOf.cls = "TollLedgerModel" ∧ y_MD_offerOf.cls ≠ "java/lang/invoke/MethodHandle" ∧ y_MD_offerOf.cls ≠ "java/lang/invoke/VarHandle" ∧ (parseMethodDescriptor y_MD_offerOf.desc).map (fun d => d.parameters.length) = some 2 := by decide +kernel
theorem hy_MD_depositOf : y_MD_depositOf.cls = "TollLedgerModel" ∧ y_MD_depositOf.cls ≠ "java/lang/invoke/MethodHandle" ∧ y_MD_depositOf.cls ≠ "java/lang/invoke/VarHandle" ∧ (parseMethodDescriptor y_MD_depositOf.desc).map (fun d => d.parameters.length) = some 1 := by decide +kernel
theorem hy_MD_burnt : y_MD_burnt.cls = "TollLedgerModel" ∧ y_MD_burnt.cls ≠ "java/lang/invoke/MethodHandle" ∧ y_MD_burnt.cls ≠ "java/lang/invoke/VarHandle" ∧ (parseMethodDescriptor y_MD_burnt.desc).map (fun d => d.parameters.length) = some 0 := by decide +kernel
theorem hy_MD_root : y_MD_root.cls = "TollLedgerModel" ∧ y_MD_root.cls ≠ "java/lang/invoke/MethodHandle" ∧ y_MD_root.cls ≠ "java/lang/invoke/VarHandle" ∧ (parseMethodDescriptor y_MD_root.desc).map (fun d => d.parameters.length) = some 0 := by decide +kernel
theorem hy_MD_leaf : y_MD_leaf.cls = "TollLedgerModel" ∧ y_MD_leaf.cls ≠ "java/lang/invoke/MethodHandle" ∧ y_MD_leaf.cls ≠ "java/lang/invoke/VarHandle" ∧ (parseMethodDescriptor y_MD_leaf.desc).map (fun d => d.parameters.length) = some 1 := by decide +kernel
theorem hy_MD_lineLeaf : y_MD_lineLeaf.cls = "TollLedgerModel" ∧ y_MD_lineLeaf.cls ≠ "java/lang/invoke/MethodHandle" ∧ y_MD_lineLeaf.cls ≠ "java/lang/invoke/VarHandle" ∧ (parseMethodDescriptor y_MD_lineLeaf.desc).map (fun d => d.parameters.length) = some 1 := by decide +kernel
theorem hy_MD_join : y_MD_join.cls ≠ "java/lang/invoke/MethodHandle" ∧ y_MD_join.cls ≠ "java/lang/invoke/VarHandle" ∧ (parseMethodDescriptor y_MD_join.desc).map (fun d => d.parameters.length) = some 2 := by decide +kernel
