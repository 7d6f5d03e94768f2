/-! tables of the light machine (by program) -/
def lm_codes : List lm_C := [lm_k0, lm_k1, lm_k2, lm_k3, lm_k4, lm_k5, lm_k6, lm_k7, lm_k8, lm_k9, lm_k10, lm_k11, lm_k12, lm_k13, lm_k14, lm_k15, lm_k16, lm_k17, lm_k18, lm_k19, lm_k20, lm_k21, lm_k22, lm_k23, lm_k24, lm_k25, lm_k26, lm_k27, lm_k28, lm_k29, lm_k30, lm_k31, lm_k32, lm_k33, lm_k34, lm_k35, lm_k36, lm_k37, lm_k38, lm_k39, lm_k40, lm_k41, lm_k42, lm_k43, lm_k44, lm_k45, lm_k46, lm_k47, lm_k48, lm_k49, lm_k50, lm_k51, lm_k52, lm_k53, lm_k54, lm_k55, lm_k56, lm_k57, lm_k58, lm_k59, lm_k60, lm_k61, lm_k62, lm_k63, lm_k64, lm_k65, lm_k66, lm_k67, lm_k68, lm_k69, lm_k70, lm_k71, lm_k72, lm_k73, lm_k74, lm_k75, lm_k76, lm_k77, lm_k78, lm_k79, lm_k80, lm_k81, lm_k82, lm_k83, lm_k84, lm_k85, lm_k86, lm_k87, lm_k88, lm_k89, lm_k90, lm_k91, lm_k92, lm_k93, lm_k94, lm_k95, lm_k96, lm_k97, lm_k98, lm_k99, lm_k100, lm_k101, lm_k102, lm_k103, lm_k104, lm_k105, lm_k106, lm_k107, lm_k108, lm_k109, lm_k110, lm_k111, lm_k112, lm_k113, lm_k114, lm_k115, lm_k116, lm_k117, lm_k118, lm_k119, lm_k120, lm_k121, lm_k122, lm_k123, lm_k124, lm_k125, lm_k126, lm_k127, lm_k128, lm_k129, lm_k130, lm_k131, lm_k132, lm_k133, lm_k134, lm_k135, lm_k136, lm_k137, lm_k138, lm_k139, lm_k140, lm_k141, lm_k142, lm_k143, lm_k144, lm_k145, lm_k146, lm_k147, lm_k148, lm_k149, lm_k150, lm_k151, lm_k152, lm_k153, lm_k154, lm_k155, lm_k156, lm_k157, lm_k158, lm_k159, lm_k160, lm_k161, lm_k162, lm_k163, lm_k164, lm_k165, lm_k166, lm_k167, lm_k168, lm_k169, lm_k170, lm_k171, lm_k172, lm_k173, lm_k174, lm_k175, lm_k176, lm_k177, lm_k178, lm_k179, lm_k180, lm_k181, lm_k182, lm_k183, lm_k184, lm_k185, lm_k186, lm_k187, lm_k188, lm_k189, lm_k190, lm_k191, lm_k192, lm_k193, lm_k194, lm_k195, lm_k196, lm_k197, lm_k198, lm_k199, lm_k200, lm_k201, lm_k202, lm_k203, lm_k204, lm_k205, lm_k206, lm_k207, lm_k208, lm_k209, lm_k210, lm_k211, lm_k212, lm_k213, lm_k214, lm_k215, lm_k216, lm_k217, lm_k218, lm_k219, lm_k220, lm_k221, lm_k222, lm_k223, lm_k224, lm_k225, lm_k226, lm_k227, lm_k228]
def lm_code (mi : Nat) : lm_C := lm_codes.getD mi []
def lm_mls : List Nat := [1, 1, 2, 4, 5, 3, 4, 3, 2, 3, 2, 1, 2, 2, 2, 2, 3, 5, 6, 4, 6, 4, 6, 5, 5, 6, 6, 1, 1, 4, 5, 5, 1, 2, 6, 3, 4, 3, 6, 1, 4, 2, 1, 1, 2, 1, 2, 2, 2, 2, 4, 3, 4, 3, 3, 8, 1, 5, 1, 3, 5, 7, 4, 1, 1, 2, 2, 1, 2, 6, 8, 2, 10, 4, 6, 6, 4, 4, 1, 6, 3, 4, 7, 6, 2, 4, 7, 4, 5, 2, 4, 1, 5, 5, 7, 5, 7, 7, 6, 3, 5, 4, 2, 1, 1, 1, 1, 1, 1, 1, 7, 2, 2, 1, 2, 4, 4, 5, 3, 3, 2, 2, 2, 1, 5, 4, 2, 4, 2, 1, 4, 3, 4, 5, 2, 2, 4, 1, 3, 3, 2, 2, 2, 2, 1, 2, 1, 5, 2, 2, 2, 3, 1, 1, 2, 2, 2, 3, 1, 2, 5, 4, 3, 4, 1, 2, 1, 4, 2, 4, 4, 1, 2, 10, 5, 2, 5, 6, 4, 6, 8, 3, 4, 1, 3, 5, 8, 2, 4, 4, 3, 3, 2, 7, 5, 3, 2, 4, 1, 4, 2, 2, 3, 2, 2, 3, 4, 5, 3, 5, 2, 4, 5, 5, 2, 2, 2, 4, 2, 2, 4, 3, 7, 1, 3, 4, 3, 4, 5]
def lm_ml (mi : Nat) : Nat := lm_mls.getD mi 0
def lm_J (mi t : Nat) : lm_C := (lm_code mi).dropWhile (fun e => !(e.1 == t))
/-- what a method answers: 0 nothing, 1 an int, 2 a boolean -/
def lm_rts : List Nat := [0, 0, 2, 1, 1, 0, 0, 0, 0, 1, 0, 0, 2, 1, 1, 1, 1, 0, 0, 0, 0, 2, 0, 0, 0, 0, 0, 0, 1, 2, 1, 0, 0, 0, 1, 2, 1, 2, 2, 0, 1, 0, 0, 0, 2, 2, 1, 2, 0, 1, 1, 1, 1, 1, 1, 1, 1, 1, 2, 1, 1, 1, 1, 0, 1, 1, 1, 1, 1, 0, 0, 0, 0, 0, 0, 0, 0, 0, 0, 2, 0, 1, 1, 1, 2, 1, 2, 1, 2, 0, 1, 0, 0, 1, 1, 1, 1, 1, 1, 1, 0, 0, 1, 1, 1, 2, 2, 2, 2, 0, 1, 2, 2, 0, 1, 1, 0, 0, 0, 0, 0, 0, 0, 0, 1, 1, 1, 1, 1, 1, 1, 1, 1, 1, 1, 1, 1, 1, 1, 1, 1, 2, 2, 2, 2, 2, 0, 1, 2, 2, 2, 0, 2, 2, 2, 1, 1, 0, 0, 0, 0, 2, 1, 2, 2, 2, 0, 2, 2, 2, 2, 1, 2, 1, 1, 1, 0, 0, 0, 0, 0, 1, 1, 1, 1, 0, 2, 1, 1, 2, 2, 1, 1, 0, 0, 2, 2, 2, 1, 1, 1, 2, 1, 1, 0, 1, 1, 1, 1, 1, 0, 0, 0, 1, 1, 2, 1, 1, 1, 1, 0, 2, 0, 1, 1, 1, 0, 0, 0]
def lm_rt (mi : Nat) : Nat := lm_rts.getD mi 0
def lm_rok (k : Nat) (v : Option Value) : Bool := match v with
  | none => k == 0
  | some (.int x) => k == 1 || (k == 2 && (x == 0 || x == 1))
  | _ => false
def lm_call (F : Nat) : Nat → Nat → List Value → lm_M → Option (Option Value × lm_M)
  | 0, _, _, _ => none
  | d + 1, mi, as, M => match lm_run (lm_call F d) (lm_J mi) F (lm_code mi) (lm_ent (lm_ml mi) as) [] M with
    | some (v, M) => if (lm_args as).length ≤ lm_ml mi ∧ lm_rok (lm_rt mi) v = true then some (v, M) else none
    | none => none
def lm_oR : Nat → String := fun k => match k with
  | 0 => RX0
  | 1 => RX1
  | 2 => RX2
  | 3 => RX3
  | 4 => RX4
  | 5 => RX5
  | 6 => RX6
  | 7 => RX7
  | 8 => RX8
  | 9 => RX9
  | 10 => RX10
  | 21 => "ConflictPlacesLaw"
  | _ => RJ7
abbrev lm_MI : Type := MethodName × ByteArray × Nat × Option FieldType × Nat × Nat × Bool × Nat × Nat × Nat × Nat
def lm_mis_0 : List lm_MI := [(⟨lm_oR 0, "<init>", "()V"⟩, prog_2_method_1_code, 1, none, 0, 0, false, 529, 528, 0, 184),
  (⟨lm_oR 0, "restart", "()V"⟩, prog_2_method_2_code, 1, none, 0, 0, false, 892, 891, 52, 184),
  (⟨lm_oR 0, "has", "(I)Z"⟩, prog_2_method_3_code, 2, (some .boolean), 0, 1, false, 1031, 1030, 77, 184),
  (⟨lm_oR 0, "sizeOf", "(I)I"⟩, prog_2_method_4_code, 4, (some .int), 0, 1, false, 1035, 1034, 78, 184),
  (⟨lm_oR 0, "member", "(II)I"⟩, prog_2_method_5_code, 5, (some .int), 0, 2, false, 1039, 1038, 79, 184),
  (⟨lm_oR 0, "step", "(LConflictPlaces$Rules;LConflictPlaces$Solver;)V"⟩, prog_2_method_6_code, 3, none, 0, 2, false, 1006, 1005, 72, 184),
  (⟨lm_oR 0, "begin", "(LConflictPlaces$Rules;LConflictPlaces$Solver;)V"⟩, prog_2_method_7_code, 4, none, 0, 2, false, 1010, 1009, 73, 184),
  (⟨lm_oR 0, "leaveOut", "(LConflictPlaces$Rules;LConflictPlaces$Solver;)V"⟩, prog_2_method_8_code, 3, none, 0, 2, false, 1019, 1018, 75, 184),
  (⟨lm_oR 0, "keep", "()V"⟩, prog_2_method_9_code, 2, none, 0, 0, false, 1023, 1022, 76, 184),
  (⟨lm_oR 0, "freeBelow", "(I)I"⟩, prog_2_method_10_code, 3, (some .int), 0, 1, false, 1015, 1014, 74, 184),
  (⟨lm_oR 1, "<init>", "()V"⟩, prog_3_method_1_code, 2, none, 1, 0, false, 558, 557, 0, 185),
  (⟨lm_oR 1, "forget", "()V"⟩, prog_3_method_2_code, 1, none, 1, 0, false, 899, 898, 53, 185),
  (⟨lm_oR 1, "has", "(I)Z"⟩, prog_3_method_3_code, 2, (some .boolean), 1, 1, false, 1175, 1174, 103, 185),
  (⟨lm_oR 1, "sortOf", "(I)I"⟩, prog_3_method_4_code, 2, (some .int), 1, 1, false, 1179, 1178, 104, 185),
  (⟨lm_oR 1, "nodeOf", "(I)I"⟩, prog_3_method_5_code, 2, (some .int), 1, 1, false, 1184, 1183, 105, 185),
  (⟨lm_oR 1, "meaningOf", "(I)I"⟩, prog_3_method_6_code, 2, (some .int), 1, 1, false, 1188, 1187, 106, 185)]
def lm_mis_1 : List lm_MI := [(⟨lm_oR 1, "costOf", "(I)I"⟩, prog_3_method_7_code, 3, (some .int), 1, 1, false, 1193, 1192, 107, 185),
  (⟨lm_oR 1, "collect", "(LConflictPlaces$Program;LConflictPlaces$Solver;)V"⟩, prog_3_method_8_code, 5, none, 1, 2, false, 1109, 1108, 89, 185),
  (⟨lm_oR 1, "offerNames", "(LConflictPlaces$Program;LConflictPlaces$Solver;I)V"⟩, prog_3_method_9_code, 6, none, 1, 3, false, 1114, 1113, 90, 185),
  (⟨lm_oR 1, "offerWraps", "(LConflictPlaces$Program;LConflictPlaces$Solver;I)V"⟩, prog_3_method_10_code, 4, none, 1, 3, false, 1167, 1166, 102, 185),
  (⟨lm_oR 1, "attempt", "(LConflictPlaces$Program;LConflictPlaces$Solver;III)V"⟩, prog_3_method_11_code, 6, none, 1, 5, false, 1131, 1130, 94, 185),
  (⟨lm_oR 1, "solvesWith", "(LConflictPlaces$Program;LConflictPlaces$Solver;I)Z"⟩, prog_3_method_12_code, 4, (some .boolean), 1, 3, false, 1203, 1202, 108, 185),
  (⟨lm_oR 1, "edit", "(LConflictPlaces$Program;III)V"⟩, prog_3_method_13_code, 6, none, 1, 4, false, 1135, 1134, 95, 185),
  (⟨lm_oR 1, "swap", "(LConflictPlaces$Tree;I)V"⟩, prog_3_method_14_code, 5, none, 1, 2, false, 1140, 1139, 96, 185),
  (⟨lm_oR 1, "wrapIn", "(LConflictPlaces$Tree;II)V"⟩, prog_3_method_15_code, 5, none, 1, 3, false, 1154, 1153, 99, 185),
  (⟨lm_oR 1, "addRule", "(LConflictPlaces$Tree;IIII)V"⟩, prog_3_method_16_code, 6, none, 1, 5, false, 1150, 1149, 98, 185),
  (⟨lm_oR 2, "<init>", "()V"⟩, prog_4_method_1_code, 6, none, 2, 0, false, 321, 320, 0, 177),
  (⟨lm_oR 2, "clear", "()V"⟩, prog_4_method_2_code, 1, none, 2, 0, false, 720, 719, 11, 177),
  (⟨lm_oR 2, "binders", "()I"⟩, prog_4_method_3_code, 1, (some .int), 2, 0, false, 859, 858, 44, 177),
  (⟨lm_oR 2, "addDecl", "(JI)Z"⟩, prog_4_method_4_code, 4, (some .boolean), 2, 2, false, 732, 731, 14, 177),
  (⟨lm_oR 2, "addInner", "(JII)I"⟩, prog_4_method_5_code, 5, (some .int), 2, 3, false, 752, 751, 19, 177),
  (⟨lm_oR 2, "addBinder", "(JII)V"⟩, prog_4_method_6_code, 5, none, 2, 3, false, 736, 735, 15, 177)]
def lm_mis_2 : List lm_MI := [(⟨lm_oR 2, "endInners", "()V"⟩, prog_4_method_7_code, 1, none, 2, 0, false, 756, 755, 20, 177),
  (⟨lm_oR 2, "endDecl", "(I)V"⟩, prog_4_method_8_code, 2, none, 2, 1, false, 830, 829, 37, 177),
  (⟨lm_oR 2, "lookUp", "(JI)I"⟩, prog_4_method_9_code, 6, (some .int), 2, 2, false, 842, 841, 40, 177),
  (⟨lm_oR 2, "reaches", "(II)Z"⟩, prog_4_method_10_code, 3, (some .boolean), 2, 2, false, 1127, 1126, 93, 177),
  (⟨lm_oR 2, "firstTaken", "()I"⟩, prog_4_method_11_code, 4, (some .int), 2, 0, false, 838, 837, 39, 177),
  (⟨lm_oR 2, "isBuiltIn", "(J)Z"⟩, prog_4_method_12_code, 3, (some .boolean), 2, 1, false, 846, 845, 41, 177),
  (⟨lm_oR 2, "standsBetween", "(JII)Z"⟩, prog_4_method_13_code, 6, (some .boolean), 2, 3, false, 850, 849, 42, 177),
  (⟨lm_oR 3, "<init>", "()V"⟩, prog_5_method_1_code, 1, none, 3, 0, false, 202, 201, 0, 174),
  (⟨lm_oR 3, "parse", "([II)I"⟩, prog_5_method_2_code, 4, (some .int), 3, 2, false, 652, 651, 0, 174),
  (⟨lm_oR 3, "moveTo", "(I)V"⟩, prog_5_method_3_code, 2, none, 3, 1, false, 724, 723, 12, 174),
  (⟨lm_oR 3, "advance", "()V"⟩, prog_5_method_4_code, 1, none, 3, 0, false, 744, 743, 17, 174),
  (⟨lm_oR 3, "refuse", "()V"⟩, prog_5_method_5_code, 1, none, 3, 0, false, 740, 739, 16, 174),
  (⟨lm_oR 3, "take", "(I)Z"⟩, prog_5_method_6_code, 2, (some .boolean), 3, 1, false, 760, 759, 21, 174),
  (⟨lm_oR 3, "countNode", "()Z"⟩, prog_5_method_7_code, 1, (some .boolean), 3, 0, false, 780, 779, 26, 174),
  (⟨lm_oR 3, "make", "(I)I"⟩, prog_5_method_8_code, 2, (some .int), 3, 1, false, 776, 775, 25, 174),
  (⟨lm_oR 3, "bind", "()Z"⟩, prog_5_method_9_code, 2, (some .boolean), 3, 0, false, 748, 747, 18, 174)]
def lm_mis_3 : List lm_MI := [(⟨lm_oR 3, "declaration", "()V"⟩, prog_5_method_10_code, 2, none, 3, 0, false, 728, 727, 13, 174),
  (⟨lm_oR 3, "expression", "(I)I"⟩, prog_5_method_11_code, 2, (some .int), 3, 1, false, 764, 763, 22, 174),
  (⟨lm_oR 3, "lambda", "(I)I"⟩, prog_5_method_12_code, 4, (some .int), 3, 1, false, 768, 767, 23, 174),
  (⟨lm_oR 3, "choice", "(I)I"⟩, prog_5_method_13_code, 3, (some .int), 3, 1, false, 788, 787, 28, 174),
  (⟨lm_oR 3, "branch", "(II)I"⟩, prog_5_method_14_code, 4, (some .int), 3, 2, false, 792, 791, 29, 174),
  (⟨lm_oR 3, "joined", "(II)I"⟩, prog_5_method_15_code, 3, (some .int), 3, 2, false, 796, 795, 30, 174),
  (⟨lm_oR 3, "makeOpening", "(I)I"⟩, prog_5_method_16_code, 3, (some .int), 3, 1, false, 772, 771, 24, 174),
  (⟨lm_oR 3, "operators", "(II)I"⟩, prog_5_method_17_code, 8, (some .int), 3, 2, false, 804, 803, 32, 174),
  (⟨lm_oR 3, "levelOf", "(I)I"⟩, prog_5_method_18_code, 1, (some .int), 3, 1, true, 826, 825, 0, 174),
  (⟨lm_oR 3, "calls", "(I)I"⟩, prog_5_method_19_code, 5, (some .int), 3, 1, false, 808, 807, 33, 174),
  (⟨lm_oR 3, "beginsAtom", "(I)Z"⟩, prog_5_method_20_code, 1, (some .boolean), 3, 1, true, 823, 822, 0, 174),
  (⟨lm_oR 3, "atom", "(I)I"⟩, prog_5_method_21_code, 3, (some .int), 3, 1, false, 812, 811, 34, 174),
  (⟨lm_oR 3, "group", "(I)I"⟩, prog_5_method_22_code, 5, (some .int), 3, 1, false, 816, 815, 35, 174),
  (⟨lm_oR 3, "list", "(I)I"⟩, prog_5_method_23_code, 7, (some .int), 3, 1, false, 820, 819, 36, 174),
  (⟨lm_oR 3, "firstMeaningless", "()I"⟩, prog_5_method_24_code, 4, (some .int), 3, 0, false, 834, 833, 38, 174),
  (⟨lm_oR 4, "<init>", "()V"⟩, prog_6_method_1_code, 1, none, 4, 0, false, 413, 412, 0, 182)]
def lm_mis_4 : List lm_MI := [(⟨lm_oR 4, "variables", "()I"⟩, prog_6_method_2_code, 1, (some .int), 4, 0, false, 944, 943, 60, 182),
  (⟨lm_oR 4, "binderVariable", "(I)I"⟩, prog_6_method_3_code, 2, (some .int), 4, 1, false, 863, 862, 45, 182),
  (⟨lm_oR 4, "ownVariable", "(I)I"⟩, prog_6_method_4_code, 2, (some .int), 4, 1, false, 884, 883, 50, 182),
  (⟨lm_oR 4, "wrappedVariable", "()I"⟩, prog_6_method_5_code, 1, (some .int), 4, 0, false, 1158, 1157, 100, 182),
  (⟨lm_oR 4, "placeOf", "(I)I"⟩, prog_6_method_6_code, 2, (some .int), 4, 1, false, 924, 923, 56, 182),
  (⟨lm_oR 4, "build", "(LConflictPlaces$Tree;LConflictPlaces$Names;)V"⟩, prog_6_method_7_code, 6, none, 4, 2, false, 855, 854, 43, 182),
  (⟨lm_oR 4, "add", "(IIIIII)V"⟩, prog_6_method_8_code, 8, none, 4, 6, false, 867, 866, 46, 182),
  (⟨lm_oR 4, "copyAll", "(LConflictPlaces$Rules;)V"⟩, prog_6_method_9_code, 2, none, 4, 1, false, 1118, 1117, 91, 182),
  (⟨lm_oR 4, "addOwn", "(LConflictPlaces$Tree;III)V"⟩, prog_6_method_10_code, 10, none, 4, 4, false, 871, 870, 47, 182),
  (⟨lm_oR 4, "addBranch", "(LConflictPlaces$Tree;II)V"⟩, prog_6_method_11_code, 4, none, 4, 3, false, 875, 874, 48, 182),
  (⟨lm_oR 4, "addList", "(LConflictPlaces$Tree;II)V"⟩, prog_6_method_12_code, 6, none, 4, 3, false, 880, 879, 49, 182),
  (⟨lm_oR 4, "addSign", "(IIIII)V"⟩, prog_6_method_13_code, 6, none, 4, 5, false, 888, 887, 51, 182),
  (⟨lm_oR 4, "silence", "(II)V"⟩, prog_6_method_14_code, 4, none, 4, 2, false, 1123, 1122, 92, 182),
  (⟨lm_oR 4, "wrap", "(I)V"⟩, prog_6_method_15_code, 4, none, 4, 1, false, 1162, 1161, 101, 182),
  (⟨lm_oR 5, "<init>", "()V"⟩, prog_7_method_1_code, 1, none, 5, 0, false, 495, 494, 0, 183),
  (⟨lm_oR 5, "solves", "(LConflictPlaces$Rules;[Z)Z"⟩, prog_7_method_2_code, 6, (some .boolean), 5, 2, false, 940, 939, 59, 183)]
def lm_mis_5 : List lm_MI := [(⟨lm_oR 5, "clear", "(I)V"⟩, prog_7_method_3_code, 3, none, 5, 1, false, 948, 947, 61, 183),
  (⟨lm_oR 5, "cell", "(III)I"⟩, prog_7_method_4_code, 4, (some .int), 5, 3, false, 952, 951, 62, 183),
  (⟨lm_oR 5, "rightSide", "(LConflictPlaces$Rules;I)I"⟩, prog_7_method_5_code, 7, (some .int), 5, 2, false, 960, 959, 64, 183),
  (⟨lm_oR 5, "builtIn", "(I)I"⟩, prog_7_method_6_code, 6, (some .int), 5, 1, false, 956, 955, 63, 183),
  (⟨lm_oR 5, "isCell", "(I)Z"⟩, prog_7_method_7_code, 2, (some .boolean), 5, 1, false, 972, 971, 67, 183),
  (⟨lm_oR 5, "root", "(I)I"⟩, prog_7_method_8_code, 4, (some .int), 5, 1, false, 976, 975, 68, 183),
  (⟨lm_oR 5, "unify", "(II)Z"⟩, prog_7_method_9_code, 7, (some .boolean), 5, 2, false, 964, 963, 65, 183),
  (⟨lm_oR 5, "push", "(III)I"⟩, prog_7_method_10_code, 4, (some .int), 5, 3, false, 968, 967, 66, 183),
  (⟨lm_oR 5, "isFinite", "()Z"⟩, prog_7_method_11_code, 5, (some .boolean), 5, 0, false, 980, 979, 69, 183),
  (⟨lm_oR 5, "countUses", "()V"⟩, prog_7_method_12_code, 2, none, 5, 0, false, 984, 983, 70, 183),
  (⟨lm_oR 5, "release", "(II)I"⟩, prog_7_method_13_code, 4, (some .int), 5, 2, false, 994, 993, 71, 183),
  (⟨lm_oR 6, "<init>", "()V"⟩, prog_8_method_1_code, 1, none, 6, 0, false, 208, 207, 0, 175),
  (⟨lm_oR 6, "scan", "([II)V"⟩, prog_8_method_2_code, 5, none, 6, 2, false, 656, 655, 1, 175),
  (⟨lm_oR 6, "scanOne", "([III)I"⟩, prog_8_method_3_code, 5, (some .int), 6, 3, false, 663, 662, 2, 175),
  (⟨lm_oR 6, "scanWord", "([III)I"⟩, prog_8_method_4_code, 7, (some .int), 6, 3, false, 670, 669, 3, 175),
  (⟨lm_oR 6, "scanNumber", "([III)I"⟩, prog_8_method_5_code, 5, (some .int), 6, 3, false, 695, 694, 7, 175)]
def lm_mis_6 : List lm_MI := [(⟨lm_oR 6, "scanQuoted", "([III)I"⟩, prog_8_method_6_code, 7, (some .int), 6, 3, false, 699, 698, 8, 175),
  (⟨lm_oR 6, "scanSign", "([III)I"⟩, prog_8_method_7_code, 7, (some .int), 6, 3, false, 706, 705, 9, 175),
  (⟨lm_oR 6, "accept", "(IIJI)I"⟩, prog_8_method_8_code, 6, (some .int), 6, 4, false, 691, 690, 6, 175),
  (⟨lm_oR 6, "giveUp", "(II)I"⟩, prog_8_method_9_code, 3, (some .int), 6, 2, false, 677, 676, 4, 175),
  (⟨lm_oR 6, "append", "(IIJ)V"⟩, prog_8_method_10_code, 5, none, 6, 3, false, 681, 680, 5, 175),
  (⟨lm_oR 6, "markPairs", "()V"⟩, prog_8_method_11_code, 4, none, 6, 0, false, 716, 715, 10, 175),
  (⟨lm_oR 6, "wordKind", "(J)I"⟩, prog_8_method_12_code, 2, (some .int), 6, 1, true, 684, 683, 0, 175),
  (⟨lm_oR 6, "doubledKind", "(I)I"⟩, prog_8_method_13_code, 1, (some .int), 6, 1, true, 709, 708, 0, 175),
  (⟨lm_oR 6, "singleKind", "(I)I"⟩, prog_8_method_14_code, 1, (some .int), 6, 1, true, 712, 711, 0, 175),
  (⟨lm_oR 6, "isBlank", "(I)Z"⟩, prog_8_method_15_code, 1, (some .boolean), 6, 1, true, 659, 658, 0, 175),
  (⟨lm_oR 6, "isLetter", "(I)Z"⟩, prog_8_method_16_code, 1, (some .boolean), 6, 1, true, 666, 665, 0, 175),
  (⟨lm_oR 6, "isDigit", "(I)Z"⟩, prog_8_method_17_code, 1, (some .boolean), 6, 1, true, 673, 672, 0, 175),
  (⟨lm_oR 6, "isQuotable", "(I)Z"⟩, prog_8_method_18_code, 1, (some .boolean), 6, 1, true, 702, 701, 0, 175),
  (⟨lm_oR 7, "<init>", "()V"⟩, prog_9_method_1_code, 1, none, 7, 0, false, 241, 240, 0, 176),
  (⟨lm_oR 7, "add", "(IIIJ)I"⟩, prog_9_method_2_code, 7, (some .int), 7, 4, false, 784, 783, 27, 176),
  (⟨lm_oR 7, "has", "(I)Z"⟩, prog_9_method_3_code, 2, (some .boolean), 7, 1, false, 800, 799, 31, 176)]
def lm_mis_7 : List lm_MI := [(⟨lm_oR 7, "callsCall", "(I)Z"⟩, prog_9_method_4_code, 2, (some .boolean), 7, 1, false, 1144, 1143, 97, 176),
  (⟨lm_oR 8, "<init>", "()V"⟩, prog_10_method_1_code, 1, none, 8, 0, false, 583, 582, 0, 186),
  (⟨lm_oR 8, "byteAt", "(I)I"⟩, prog_10_method_2_code, 2, (some .int), 8, 1, false, 1213, 1212, 109, 186),
  (⟨lm_oR 8, "write", "(LConflictPlaces$Solver;I)I"⟩, prog_10_method_3_code, 4, (some .int), 8, 2, false, 1051, 1050, 80, 186),
  (⟨lm_oR 8, "writeOne", "(LConflictPlaces$Solver;I)V"⟩, prog_10_method_4_code, 4, none, 8, 2, false, 1059, 1058, 82, 186),
  (⟨lm_oR 8, "pushFunction", "(LConflictPlaces$Solver;II)V"⟩, prog_10_method_5_code, 5, none, 8, 3, false, 1081, 1080, 86, 186),
  (⟨lm_oR 8, "putOpen", "(I)V"⟩, prog_10_method_6_code, 3, none, 8, 1, false, 1085, 1084, 87, 186),
  (⟨lm_oR 8, "putWord", "(Ljava/lang/String;)V"⟩, prog_10_method_7_code, 3, none, 8, 1, false, 1069, 1068, 84, 186),
  (⟨lm_oR 8, "put", "(I)V"⟩, prog_10_method_8_code, 2, none, 8, 1, false, 1063, 1062, 83, 186),
  (⟨lm_oR 8, "pushByte", "(I)V"⟩, prog_10_method_9_code, 2, none, 8, 1, false, 1077, 1076, 85, 186),
  (⟨lm_oR 8, "push", "(I)V"⟩, prog_10_method_10_code, 2, none, 8, 1, false, 1055, 1054, 81, 186),
  (⟨lm_oR 9, "<init>", "()V"⟩, prog_1_method_1_code, 1, none, 9, 0, false, 194, 193, 0, 173),
  (⟨lm_oR 9, "feed", "(IJ)I"⟩, prog_1_method_2_code, 5, (some .int), 9, 2, false, 644, 642, 643, 173),
  (⟨lm_oR 9, "read", "()I"⟩, prog_1_method_3_code, 4, (some .int), 9, 0, false, 648, 646, 647, 173),
  (⟨lm_oR 9, "told", "(I)I"⟩, prog_1_method_4_code, 2, (some .int), 9, 1, false, 903, 901, 902, 173),
  (⟨lm_oR 9, "node", "(II)I"⟩, prog_1_method_5_code, 4, (some .int), 9, 2, false, 908, 906, 907, 173)]
def lm_mis_8 : List lm_MI := [(⟨lm_oR 9, "rule", "(I)I"⟩, prog_1_method_6_code, 2, (some .int), 9, 1, false, 916, 914, 915, 173),
  (⟨lm_oR 9, "fits", "()I"⟩, prog_1_method_7_code, 1, (some .int), 9, 0, false, 928, 926, 927, 173),
  (⟨lm_oR 9, "conflict", "(II)I"⟩, prog_1_method_8_code, 4, (some .int), 9, 2, false, 998, 996, 997, 173),
  (⟨lm_oR 9, "search", "(I)I"⟩, prog_1_method_9_code, 3, (some .int), 9, 1, false, 1002, 1000, 1001, 173),
  (⟨lm_oR 9, "set", "(II)I"⟩, prog_1_method_10_code, 4, (some .int), 9, 2, false, 1027, 1025, 1026, 173),
  (⟨lm_oR 9, "less", "(II)I"⟩, prog_1_method_11_code, 5, (some .int), 9, 2, false, 1043, 1041, 1042, 173),
  (⟨lm_oR 9, "type", "(I)I"⟩, prog_1_method_12_code, 2, (some .int), 9, 1, false, 1047, 1045, 1046, 173),
  (⟨lm_oR 9, "binder", "(I)I"⟩, prog_1_method_13_code, 2, (some .int), 9, 1, false, 1092, 1090, 1091, 173),
  (⟨lm_oR 9, "without", "(II)I"⟩, prog_1_method_14_code, 4, (some .int), 9, 2, false, 1101, 1099, 1100, 173),
  (⟨lm_oR 9, "changes", "()I"⟩, prog_1_method_15_code, 1, (some .int), 9, 0, false, 1105, 1103, 1104, 173),
  (⟨lm_oR 9, "change", "(II)I"⟩, prog_1_method_16_code, 3, (some .int), 9, 2, false, 1171, 1169, 1170, 173),
  (⟨lm_oR 9, "mended", "(II)I"⟩, prog_1_method_17_code, 3, (some .int), 9, 2, false, 1199, 1197, 1198, 173),
  (⟨lm_oR 9, "out", "(I)I"⟩, prog_1_method_18_code, 2, (some .int), 9, 1, false, 1209, 1207, 1208, 173),
  (⟨lm_oR 9, "isNode", "(I)Z"⟩, prog_1_method_19_code, 2, (some .boolean), 9, 1, false, 912, 911, 54, 173),
  (⟨lm_oR 9, "isRule", "(I)Z"⟩, prog_1_method_20_code, 2, (some .boolean), 9, 1, false, 920, 919, 55, 173),
  (⟨lm_oR 9, "isBinder", "(I)Z"⟩, prog_1_method_21_code, 2, (some .boolean), 9, 1, false, 1096, 1095, 88, 173)]
def lm_mis_9 : List lm_MI := [(⟨lm_oR 9, "solveChosen", "()Z"⟩, prog_1_method_22_code, 1, (some .boolean), 9, 0, false, 936, 935, 58, 173),
  (⟨lm_oR 9, "solveAll", "()Z"⟩, prog_1_method_23_code, 2, (some .boolean), 9, 0, false, 932, 931, 57, 173),
  (⟨lm_oR 10, "<init>", "()V"⟩, prog_12_method_1_code, 1, none, 10, 0, false, 1218, 1217, 0, 187),
  (⟨lm_oR 10, "feed", "(IJ)I"⟩, prog_12_method_2_code, 5, (some .int), 10, 2, false, 1547, 1545, 1546, 187),
  (⟨lm_oR 10, "isLetter", "(I)Z"⟩, prog_12_method_3_code, 2, (some .boolean), 10, 1, false, 1559, 1558, 111, 187),
  (⟨lm_oR 10, "isDigit", "(I)Z"⟩, prog_12_method_4_code, 2, (some .boolean), 10, 1, false, 1563, 1562, 112, 187),
  (⟨lm_oR 10, "follows", "(I)Z"⟩, prog_12_method_5_code, 2, (some .boolean), 10, 1, false, 1567, 1566, 113, 187),
  (⟨lm_oR 10, "next", "()V"⟩, prog_12_method_6_code, 3, none, 10, 0, false, 1555, 1554, 110, 187),
  (⟨lm_oR 10, "isKey", "()Z"⟩, prog_12_method_7_code, 1, (some .boolean), 10, 0, false, 1579, 1578, 116, 187),
  (⟨lm_oR 10, "isName", "()Z"⟩, prog_12_method_8_code, 1, (some .boolean), 10, 0, false, 1575, 1574, 115, 187),
  (⟨lm_oR 10, "isSign", "(I)Z"⟩, prog_12_method_9_code, 2, (some .boolean), 10, 1, false, 1590, 1589, 118, 187),
  (⟨lm_oR 10, "make", "(I)I"⟩, prog_12_method_10_code, 2, (some .int), 10, 1, false, 1602, 1601, 121, 187),
  (⟨lm_oR 10, "levelOf", "(I)I"⟩, prog_12_method_11_code, 2, (some .int), 10, 1, false, 1634, 1633, 129, 187),
  (⟨lm_oR 10, "push", "(II)V"⟩, prog_12_method_12_code, 3, none, 10, 2, false, 1594, 1593, 119, 187),
  (⟨lm_oR 10, "calls", "()V"⟩, prog_12_method_13_code, 1, none, 10, 0, false, 1614, 1613, 124, 187),
  (⟨lm_oR 10, "atom", "(I)V"⟩, prog_12_method_14_code, 2, none, 10, 1, false, 1622, 1621, 126, 187)]
def lm_mis_10 : List lm_MI := [(⟨lm_oR 10, "reduce", "(IZ)V"⟩, prog_12_method_15_code, 5, none, 10, 2, false, 1638, 1637, 130, 187),
  (⟨lm_oR 10, "sits", "(I)Z"⟩, prog_12_method_16_code, 4, (some .boolean), 10, 1, false, 1630, 1629, 128, 187),
  (⟨lm_oR 10, "bind", "(II)I"⟩, prog_12_method_17_code, 3, (some .int), 10, 2, false, 1586, 1585, 117, 187),
  (⟨lm_oR 10, "begins", "()Z"⟩, prog_12_method_18_code, 4, (some .boolean), 10, 0, false, 1598, 1597, 120, 187),
  (⟨lm_oR 10, "isAtom", "()Z"⟩, prog_12_method_19_code, 1, (some .boolean), 10, 0, false, 1610, 1609, 123, 187),
  (⟨lm_oR 10, "atoms", "()Z"⟩, prog_12_method_20_code, 2, (some .boolean), 10, 0, false, 1606, 1605, 122, 187),
  (⟨lm_oR 10, "pop", "()V"⟩, prog_12_method_21_code, 1, none, 10, 0, false, 1618, 1617, 125, 187),
  (⟨lm_oR 10, "ends", "()Z"⟩, prog_12_method_22_code, 4, (some .boolean), 10, 0, false, 1642, 1641, 131, 187),
  (⟨lm_oR 10, "ended", "(I)Z"⟩, prog_12_method_23_code, 2, (some .boolean), 10, 1, false, 1646, 1645, 132, 187),
  (⟨lm_oR 10, "closes", "(II)Z"⟩, prog_12_method_24_code, 4, (some .boolean), 10, 2, false, 1650, 1649, 133, 187),
  (⟨lm_oR 10, "rows", "(III)Z"⟩, prog_12_method_25_code, 4, (some .boolean), 10, 3, false, 1654, 1653, 134, 187),
  (⟨lm_oR 10, "signOf", "()I"⟩, prog_12_method_26_code, 1, (some .int), 10, 0, false, 1626, 1625, 127, 187),
  (⟨lm_oR 10, "decl", "()Z"⟩, prog_12_method_27_code, 2, (some .boolean), 10, 0, false, 1571, 1570, 114, 187),
  (⟨lm_oR 10, "meaning", "(JIIZ)I"⟩, prog_12_method_28_code, 10, (some .int), 10, 4, false, 1662, 1661, 136, 187),
  (⟨lm_oR 10, "wrongName", "()I"⟩, prog_12_method_29_code, 5, (some .int), 10, 0, false, 1658, 1657, 135, 187),
  (⟨lm_oR 10, "renamed", "(I)I"⟩, prog_12_method_30_code, 2, (some .int), 10, 1, false, 1670, 1669, 138, 187)]
def lm_mis_11 : List lm_MI := [(⟨lm_oR 10, "settle", "()V"⟩, prog_12_method_31_code, 5, none, 10, 0, false, 1666, 1665, 137, 187),
  (⟨lm_oR 10, "addRule", "(IIIII)V"⟩, prog_12_method_32_code, 6, none, 10, 5, false, 1674, 1673, 139, 187),
  (⟨lm_oR 10, "addRules", "(II)V"⟩, prog_12_method_33_code, 4, none, 10, 2, false, 1678, 1677, 140, 187),
  (⟨lm_oR 10, "addThree", "(IIIII)V"⟩, prog_12_method_34_code, 6, none, 10, 5, false, 1682, 1681, 141, 187),
  (⟨lm_oR 10, "sortRules", "()V"⟩, prog_12_method_35_code, 8, none, 10, 0, false, 1686, 1685, 142, 187),
  (⟨lm_oR 10, "read", "()I"⟩, prog_12_method_36_code, 3, (some .int), 10, 0, false, 1551, 1549, 1550, 187),
  (⟨lm_oR 10, "link", "(III)I"⟩, prog_12_method_37_code, 4, (some .int), 10, 3, false, 1706, 1705, 146, 187),
  (⟨lm_oR 10, "open", "()I"⟩, prog_12_method_38_code, 1, (some .int), 10, 0, false, 1702, 1701, 145, 187),
  (⟨lm_oR 10, "end", "(I)I"⟩, prog_12_method_39_code, 3, (some .int), 10, 1, false, 1714, 1713, 148, 187),
  (⟨lm_oR 10, "join", "(II)V"⟩, prog_12_method_40_code, 5, none, 10, 2, false, 1710, 1709, 147, 187),
  (⟨lm_oR 10, "isEndless", "()Z"⟩, prog_12_method_41_code, 8, (some .boolean), 10, 0, false, 1750, 1749, 157, 187),
  (⟨lm_oR 10, "seen", "(I)I"⟩, prog_12_method_42_code, 2, (some .int), 10, 1, false, 1730, 1729, 152, 187),
  (⟨lm_oR 10, "builtInType", "(I)I"⟩, prog_12_method_43_code, 4, (some .int), 10, 1, false, 1742, 1741, 155, 187),
  (⟨lm_oR 10, "isIn", "(II)Z"⟩, prog_12_method_44_code, 4, (some .boolean), 10, 2, false, 1722, 1721, 150, 187),
  (⟨lm_oR 10, "isGone", "(I)Z"⟩, prog_12_method_45_code, 3, (some .boolean), 10, 1, false, 1718, 1717, 149, 187),
  (⟨lm_oR 10, "sortOfRule", "(I)I"⟩, prog_12_method_46_code, 3, (some .int), 10, 1, false, 1734, 1733, 153, 187)]
def lm_mis_12 : List lm_MI := [(⟨lm_oR 10, "argumentOf", "(I)I"⟩, prog_12_method_47_code, 2, (some .int), 10, 1, false, 1738, 1737, 154, 187),
  (⟨lm_oR 10, "hold", "(I)V"⟩, prog_12_method_48_code, 7, none, 10, 1, false, 1726, 1725, 151, 187),
  (⟨lm_oR 10, "holdMore", "(IIII)V"⟩, prog_12_method_49_code, 5, none, 10, 4, false, 1746, 1745, 156, 187),
  (⟨lm_oR 10, "haveTypes", "()Z"⟩, prog_12_method_50_code, 3, (some .boolean), 10, 0, false, 1698, 1697, 144, 187),
  (⟨lm_oR 10, "allFit", "()Z"⟩, prog_12_method_51_code, 2, (some .boolean), 10, 0, false, 1694, 1693, 143, 187),
  (⟨lm_oR 10, "isBetween", "(III)Z"⟩, prog_12_method_52_code, 4, (some .boolean), 10, 3, false, 1762, 1761, 158, 187),
  (⟨lm_oR 10, "fits", "()I"⟩, prog_12_method_53_code, 1, (some .int), 10, 0, false, 1690, 1688, 1689, 187),
  (⟨lm_oR 10, "conflict", "(II)I"⟩, prog_12_method_54_code, 4, (some .int), 10, 2, false, 1754, 1752, 1753, 187),
  (⟨lm_oR 10, "told", "(I)I"⟩, prog_12_method_55_code, 2, (some .int), 10, 1, false, 1758, 1756, 1757, 187),
  (⟨lm_oR 10, "isNode", "(I)Z"⟩, prog_12_method_56_code, 2, (some .boolean), 10, 1, false, 1771, 1770, 159, 187),
  (⟨lm_oR 10, "node", "(II)I"⟩, prog_12_method_57_code, 3, (some .int), 10, 2, false, 1767, 1765, 1766, 187),
  (⟨lm_oR 10, "rule", "(I)I"⟩, prog_12_method_58_code, 2, (some .int), 10, 1, false, 1775, 1773, 1774, 187),
  (⟨lm_oR 10, "oneWork", "()V"⟩, prog_12_method_59_code, 2, none, 10, 0, false, 1783, 1782, 160, 187),
  (⟨lm_oR 10, "search", "(I)I"⟩, prog_12_method_60_code, 3, (some .int), 10, 1, false, 1779, 1777, 1778, 187),
  (⟨lm_oR 10, "sized", "(I)I"⟩, prog_12_method_61_code, 4, (some .int), 10, 1, false, 1791, 1790, 161, 187),
  (⟨lm_oR 10, "inSet", "(II)I"⟩, prog_12_method_62_code, 5, (some .int), 10, 2, false, 1795, 1794, 162, 187)]
def lm_mis_13 : List lm_MI := [(⟨lm_oR 10, "set", "(II)I"⟩, prog_12_method_63_code, 3, (some .int), 10, 2, false, 1787, 1785, 1786, 187),
  (⟨lm_oR 10, "less", "(II)I"⟩, prog_12_method_64_code, 5, (some .int), 10, 2, false, 1799, 1797, 1798, 187),
  (⟨lm_oR 10, "say", "(I)V"⟩, prog_12_method_65_code, 2, none, 10, 1, false, 1811, 1810, 164, 187),
  (⟨lm_oR 10, "sayLetter", "(I)V"⟩, prog_12_method_66_code, 4, none, 10, 1, false, 1815, 1814, 165, 187),
  (⟨lm_oR 10, "saySimple", "(I)V"⟩, prog_12_method_67_code, 5, none, 10, 1, false, 1819, 1818, 166, 187),
  (⟨lm_oR 10, "write", "(I)I"⟩, prog_12_method_68_code, 5, (some .int), 10, 1, false, 1807, 1806, 163, 187),
  (⟨lm_oR 10, "type", "(I)I"⟩, prog_12_method_69_code, 2, (some .int), 10, 1, false, 1803, 1801, 1802, 187),
  (⟨lm_oR 10, "isBinder", "(I)Z"⟩, prog_12_method_70_code, 2, (some .boolean), 10, 1, false, 1831, 1830, 167, 187),
  (⟨lm_oR 10, "binder", "(I)I"⟩, prog_12_method_71_code, 2, (some .int), 10, 1, false, 1827, 1825, 1826, 187),
  (⟨lm_oR 10, "without", "(II)I"⟩, prog_12_method_72_code, 4, (some .int), 10, 2, false, 1835, 1833, 1834, 187),
  (⟨lm_oR 10, "out", "(I)I"⟩, prog_12_method_73_code, 2, (some .int), 10, 1, false, 1839, 1837, 1838, 187),
  (⟨lm_oR 10, "costOf", "(I)I"⟩, prog_12_method_74_code, 2, (some .int), 10, 1, false, 1855, 1854, 170, 187),
  (⟨lm_oR 10, "tries", "(III)V"⟩, prog_12_method_75_code, 4, none, 10, 3, false, 1851, 1850, 169, 187),
  (⟨lm_oR 10, "isChange", "(II)Z"⟩, prog_12_method_76_code, 3, (some .boolean), 10, 2, false, 1859, 1858, 171, 187),
  (⟨lm_oR 10, "offer", "()V"⟩, prog_12_method_77_code, 7, none, 10, 0, false, 1847, 1846, 168, 187),
  (⟨lm_oR 10, "changes", "()I"⟩, prog_12_method_78_code, 1, (some .int), 10, 0, false, 1843, 1841, 1842, 187)]
def lm_mis_14 : List lm_MI := [(⟨lm_oR 10, "change", "(II)I"⟩, prog_12_method_79_code, 3, (some .int), 10, 2, false, 1863, 1861, 1862, 187),
  (⟨lm_oR 10, "mended", "(II)I"⟩, prog_12_method_80_code, 4, (some .int), 10, 2, false, 1868, 1866, 1867, 187),
  (⟨lm_oR 20, "rangeCheck", "(III)V"⟩, prog_17_method_30_code, 3, none, 20, 3, true, 990, 989, 0, 188),
  (⟨lm_oR 20, "fill", "([II)V"⟩, prog_17_method_103_code, 4, none, 20, 2, true, 895, 894, 0, 188),
  (⟨lm_oR 20, "fill", "([IIII)V"⟩, prog_17_method_104_code, 5, none, 20, 4, true, 987, 986, 0, 188)]
def lm_mis : List lm_MI := lm_mis_0 ++ (lm_mis_1 ++ (lm_mis_2 ++ (lm_mis_3 ++ (lm_mis_4 ++ (lm_mis_5 ++ (lm_mis_6 ++ (lm_mis_7 ++ (lm_mis_8 ++ (lm_mis_9 ++ (lm_mis_10 ++ (lm_mis_11 ++ (lm_mis_12 ++ (lm_mis_13 ++ (lm_mis_14))))))))))))))
def lm_mi (k : Nat) : lm_MI := lm_mis.getD k (⟨"", "", ""⟩, ⟨#[]⟩, 0, none, 0, 0, false, 0, 0, 0, 0)
def lm_tF : List (Nat × Nat × Nat × Nat) := [(9, 2, 0, 531), (15, 10, 0, 533), (19, 16, 0, 534), (29, 24, 0, 535), (32, 32, 0, 537), (35, 43, 0, 539), (46, 4144, 1, 429), (10012, 1026, 0, 562), (10018, 1034, 0, 563), (10022, 1042, 0, 564), (10026, 1059, 0, 567), (10030, 1048, 0, 565), (10045, 3098, 1, 460), (10056, 3082, 1, 454), (10060, 7264, 1, 289), (10063, 7170, 1, 246), (10088, 3090, 1, 457), (10092, 2112, 1, 387), (10097, 7226, 1, 273), (10100, 7234, 1, 276), (10129, 7250, 1, 281), (10132, 7186, 1, 256), (10143, 7178, 1, 251), (10146, 7194, 1, 260), (20009, 2050, 0, 372), (20015, 2058, 0, 373), (20019, 2066, 0, 375), (20022, 2074, 0, 376), (20025, 2082, 0, 378), (20028, 2090, 0, 380), (20031, 2112, 0, 386), (20047, 2096, 0, 382), (20050, 2104, 0, 385), (30012, 3074, 0, 451), (30021, 3082, 0, 452), (30028, 3090, 0, 455), (30035, 3098, 0, 458), (30043, 7264, 1, 286), (30050, 4144, 1, 426), (30051, 3136, 0, 465), (30054, 3152, 0, 467), (30064, 3112, 0, 462), (30081, 6184, 1, 220), (30082, 3104, 0, 461), (30085, 6146, 1, 211), (30089, 6154, 1, 213), (30092, 3120, 0, 463), (30095, 6162, 1, 215), (30099, 3129, 0, 464), (30107, 3144, 0, 466), (30152, 7226, 1, 274), (30155, 7186, 1, 255), (30158, 7194, 1, 259), (30164, 7202, 1, 263), (30173, 7218, 1, 269), (30191, 7250, 1, 282), (30200, 6170, 1, 217), (30204, 7258, 1, 284), (30207, 7210, 1, 266), (30213, 7170, 1, 247), (30214, 7242, 1, 279), (30215, 7234, 1, 277), (30222, 7178, 1, 252), (40009, 4098, 0, 415), (40015, 4106, 0, 417), (40018, 4114, 0, 418), (40021, 4122, 0, 419), (40024, 4130, 0, 421), (40027, 4138, 0, 423), (40030, 4152, 0, 430), (40034, 4160, 0, 431), (40037, 4144, 0, 428), (40040, 7264, 1, 288), (40048, 2096, 1, 384), (40051, 2074, 1, 377), (40054, 2058, 1, 374), (40061, 2082, 1, 379), (40064, 2090, 1, 381), (40071, 7170, 1, 245), (40074, 7226, 1, 272), (40087, 7178, 1, 250), (40088, 7186, 1, 254), (40091, 7194, 1, 258), (40098, 7202, 1, 262), (40112, 7218, 1, 268), (40118, 7210, 1, 265), (50009, 5122, 0, 497), (50015, 5130, 0, 498), (50018, 5138, 0, 500), (50021, 5146, 0, 502), (50024, 5154, 0, 504), (50027, 5162, 0, 505), (50040, 4144, 1, 425), (50044, 4098, 1, 416), (50047, 4130, 1, 422), (50058, 4122, 1, 420), (50069, 5168, 0, 506), (50074, 5176, 0, 507), (50077, 4138, 1, 424), (60009, 6146, 0, 210), (60015, 6154, 0, 212), (60018, 6162, 0, 214), (60022, 6170, 0, 216), (60026, 6178, 0, 218), (60029, 6184, 0, 219), (70009, 7170, 0, 243), (70015, 7178, 0, 248), (70018, 7186, 0, 253), (70021, 7194, 0, 257), (70024, 7202, 0, 261), (70027, 7210, 0, 264), (70030, 7218, 0, 267), (70033, 7226, 0, 270), (70036, 7234, 0, 275), (70039, 7242, 0, 278), (70043, 7250, 0, 280), (70046, 7258, 0, 283), (70050, 7264, 0, 285), (80009, 8194, 0, 585), (80015, 8210, 0, 587), (80018, 8226, 0, 589), (80021, 8242, 0, 591), (80024, 8200, 0, 586), (80028, 8216, 0, 588), (80031, 8248, 0, 592), (80034, 8232, 0, 590), (80060, 5130, 1, 499), (80076, 5138, 1, 501), (80079, 5146, 1, 503), (90009, 9218, 0, 610), (90016, 9234, 0, 612), (90020, 9242, 0, 613), (90026, 9258, 0, 615), (90033, 9266, 0, 616), (90040, 9274, 0, 617), (90047, 9282, 0, 618), (90051, 9290, 0, 619), (90055, 9224, 0, 611), (90063, 9251, 0, 614), (90073, 3098, 1, 459), (90077, 4144, 1, 427), (90082, 3090, 1, 456), (90086, 2096, 1, 383), (90095, 3082, 1, 453), (90099, 7264, 1, 287), (90102, 32, 1, 538), (90105, 24, 1, 536), (90108, 43, 1, 540), (90115, 7178, 1, 249), (90118, 7170, 1, 244), (90121, 7226, 1, 271), (90152, 2, 1, 532), (90169, 1048, 1, 566), (90190, 2112, 1, 388), (100007, 10242, 0, 1231), (100013, 10258, 0, 1233), (100016, 10322, 0, 1241), (100020, 10330, 0, 1242), (100023, 10338, 0, 1243), (100027, 10346, 0, 1244), (100030, 10354, 0, 1245), (100033, 10362, 0, 1246), (100036, 10370, 0, 1247), (100039, 10378, 0, 1248), (100042, 10386, 0, 1249), (100045, 10394, 0, 1250), (100048, 10402, 0, 1251), (100052, 10418, 0, 1253), (100055, 10426, 0, 1254), (100058, 10434, 0, 1255), (100061, 10442, 0, 1256), (100064, 10450, 0, 1257), (100067, 10474, 0, 1260), (100070, 10482, 0, 1261), (100073, 10498, 0, 1263), (100076, 10506, 0, 1264), (100079, 10514, 0, 1265), (100082, 10522, 0, 1266), (100085, 10530, 0, 1267), (100088, 10538, 0, 1268), (100091, 10594, 0, 1275), (100094, 10602, 0, 1276), (100097, 10658, 0, 1283), (100100, 10666, 0, 1284), (100103, 10674, 0, 1285), (100106, 10682, 0, 1286), (100109, 10690, 0, 1287), (100112, 10698, 0, 1288), (100115, 10706, 0, 1289), (100118, 10714, 0, 1290), (100121, 10722, 0, 1291), (100124, 10730, 0, 1292), (100127, 10738, 0, 1293), (100130, 10746, 0, 1294), (100133, 10754, 0, 1295), (100136, 10762, 0, 1296), (100139, 10770, 0, 1297), (100164, 10778, 0, 1298), (100167, 10794, 0, 1300), (100170, 10802, 0, 1301), (100173, 10810, 0, 1302), (100176, 10818, 0, 1303), (100179, 10826, 0, 1304), (100182, 10834, 0, 1305), (100185, 10850, 0, 1307), (100188, 10858, 0, 1308), (100191, 10866, 0, 1309), (100194, 10874, 0, 1310), (100197, 10890, 0, 1312), (100200, 10906, 0, 1314), (100203, 10912, 0, 1315), (100207, 10938, 0, 1318), (100210, 10986, 0, 1324), (100213, 10994, 0, 1325), (100216, 11010, 0, 1327), (100219, 11018, 0, 1328), (100222, 11032, 0, 1330), (100225, 11042, 0, 1331), (100228, 11050, 0, 1332), (100231, 11058, 0, 1333), (100234, 11066, 0, 1334), (100237, 10248, 0, 1232), (100240, 10272, 0, 1235), (100243, 10288, 0, 1237), (100246, 10296, 0, 1238), (100249, 10305, 0, 1239), (100253, 10280, 0, 1236), (100276, 10312, 0, 1240), (100279, 10611, 0, 1277), (100283, 10568, 0, 1272), (100286, 10464, 0, 1259), (100289, 10488, 0, 1262), (100292, 10552, 0, 1270), (100295, 10560, 0, 1271), (100298, 10584, 0, 1274), (100301, 10579, 0, 1273), (100315, 10408, 0, 1252), (100321, 10544, 0, 1269), (100330, 10456, 0, 1258), (100368, 10619, 0, 1278), (100384, 10640, 0, 1281), (100394, 10632, 0, 1280), (100397, 10648, 0, 1282), (100400, 10784, 0, 1299), (100413, 10627, 0, 1279), (100416, 10944, 0, 1319), (100419, 10952, 0, 1320), (100422, 10963, 0, 1321), (100425, 10971, 0, 1322), (100440, 10840, 0, 1306), (100447, 10880, 0, 1311), (100450, 10899, 0, 1313), (100458, 10920, 0, 1316), (100476, 10928, 0, 1317), (100510, 10976, 0, 1323), (100522, 11000, 0, 1326), (100525, 11024, 0, 1329), (100545, 10264, 0, 1234)]
def lm_tM : List (Nat × Nat × Nat × Nat) := [(23, 465251, 0, 893), (39, 12672, 0, 1007), (43, 14720, 0, 1016), (51, 162181, 1, 1011), (57, 18688, 0, 1012), (61, 16512, 0, 1020), (10011, 129156, 1, 561), (10034, 24833, 0, 1180), (10038, 26881, 0, 1189), (10050, 162181, 1, 1110), (10066, 37377, 0, 1111), (10070, 41729, 0, 1128), (10074, 229639, 1, 1141), (10077, 39425, 0, 1164), (10080, 145668, 1, 1115), (10084, 156036, 1, 1120), (10103, 72066, 1, 1124), (10107, 157956, 1, 1159), (10111, 45697, 0, 1132), (10115, 28929, 0, 1204), (10118, 30977, 0, 1205), (10121, 148100, 1, 1136), (10125, 47489, 0, 1137), (10135, 51969, 0, 1147), (10139, 49665, 0, 1151), (10149, 144260, 1, 1146), (10153, 137348, 1, 1155), (20053, 64002, 0, 733), (20057, 70018, 0, 839), (20061, 76034, 0, 843), (20065, 78338, 0, 847), (30011, 186502, 1, 206), (30020, 223367, 1, 239), (30027, 53378, 1, 319), (30034, 129156, 1, 411), (30039, 188806, 1, 653), (30047, 55426, 1, 717), (30057, 84227, 0, 721), (30061, 98435, 0, 725), (30067, 86147, 0, 741), (30070, 88195, 0, 737), (30073, 127107, 0, 831), (30077, 141700, 1, 852), (30103, 92291, 0, 777), (30110, 225927, 1, 781), (30114, 61954, 1, 749), (30118, 59778, 1, 729), (30122, 96387, 0, 745), (30125, 65666, 1, 753), (30128, 90371, 0, 757), (30132, 100611, 0, 761), (30136, 67842, 1, 827), (30139, 102659, 0, 765), (30142, 104707, 0, 785), (30145, 113027, 0, 801), (30149, 110851, 0, 769), (30161, 106883, 0, 789), (30167, 108931, 0, 793), (30170, 227591, 1, 797), (30176, 94467, 0, 773), (30179, 116995, 0, 805), (30182, 114915, 0, 824), (30185, 121091, 0, 809), (30188, 119011, 0, 821), (30194, 123139, 0, 813), (30197, 125187, 0, 817), (30210, 73858, 1, 835), (30218, 70018, 1, 851), (40043, 57474, 1, 856), (40057, 133380, 0, 860), (40067, 144260, 0, 864), (40077, 148100, 0, 868), (40094, 150020, 0, 872), (40101, 152068, 0, 877), (40104, 154372, 0, 885), (40108, 227591, 1, 876), (40115, 135428, 0, 881), (40121, 137348, 0, 1163), (50030, 131204, 1, 941), (50036, 164101, 0, 945), (50050, 170245, 0, 953), (50054, 168325, 0, 957), (50061, 176517, 0, 961), (50065, 180357, 0, 977), (50070, 166405, 0, 949), (50080, 178693, 0, 965), (50083, 174341, 0, 973), (50086, 172293, 0, 969), (50090, 182405, 0, 981), (50093, 184709, 0, 991), (50097, 467555, 0, 985), (60033, 215267, 0, 657), (60037, 190982, 0, 660), (60041, 205318, 0, 678), (60045, 206982, 0, 713), (60048, 217315, 0, 664), (60051, 193030, 0, 667), (60054, 219363, 0, 671), (60057, 195078, 0, 692), (60060, 197126, 0, 696), (60063, 199174, 0, 703), (60066, 203142, 0, 674), (60070, 209123, 0, 682), (60074, 201350, 0, 688), (60078, 221411, 0, 700), (60081, 211171, 0, 707), (60085, 213219, 0, 710), (70054, 227591, 0, 1145), (80037, 250120, 0, 1052), (80041, 237960, 0, 1056), (80051, 246024, 0, 1060), (80054, 174341, 1, 1064), (80065, 243976, 0, 1066), (80073, 248072, 0, 1074), (80082, 240136, 0, 1078), (80086, 241928, 0, 1082), (90015, 80003, 1, 200), (90025, 159877, 1, 493), (90032, 128, 1, 527), (90039, 20609, 1, 556), (90046, 231560, 1, 581), (90059, 82307, 1, 649), (90067, 2176, 1, 889), (90070, 22657, 1, 896), (90091, 57474, 1, 904), (90111, 289033, 0, 909), (90124, 291081, 0, 917), (90127, 139524, 1, 921), (90131, 297097, 0, 929), (90135, 295049, 0, 933), (90138, 10624, 1, 1003), (90142, 4352, 1, 1028), (90145, 6400, 1, 1032), (90148, 8576, 1, 1036), (90155, 235912, 1, 1048), (90159, 293129, 0, 1093), (90162, 133380, 1, 1097), (90165, 35201, 1, 1106), (90170, 24833, 1, 1172), (90171, 26881, 1, 1176), (90174, 28929, 1, 1181), (90177, 30977, 1, 1185), (90180, 33025, 1, 1190), (90183, 43521, 1, 1200), (90187, 233736, 1, 1210), (90193, 162181, 1, 937), (100256, 303370, 0, 1556), (100260, 305418, 0, 1560), (100263, 307466, 0, 1564), (100272, 311434, 0, 1576), (100304, 317706, 0, 1599), (100308, 319754, 0, 1631), (100311, 328074, 0, 1635), (100318, 315658, 0, 1587), (100324, 309386, 0, 1552), (100327, 313482, 0, 1572), (100333, 332170, 0, 1583), (100337, 321930, 0, 1591), (100341, 338058, 0, 1603), (100344, 336010, 0, 1607), (100347, 323722, 0, 1611), (100350, 340106, 0, 1615), (100353, 325898, 0, 1619), (100357, 344330, 0, 1643), (100360, 346506, 0, 1647), (100364, 348682, 0, 1651), (100371, 333962, 0, 1595), (100374, 350346, 0, 1623), (100378, 329994, 0, 1627), (100381, 342154, 0, 1639), (100387, 354954, 0, 1659), (100391, 358666, 0, 1667), (100403, 363274, 0, 1671), (100407, 364938, 0, 1675), (100410, 368778, 0, 1683), (100428, 367370, 0, 1679), (100431, 352394, 0, 1568), (100434, 356490, 0, 1655), (100437, 360586, 0, 1663), (100443, 373258, 0, 1703), (100453, 377098, 0, 1711), (100456, 374922, 0, 1699), (100461, 387466, 0, 1719), (100464, 383242, 0, 1727), (100467, 391434, 0, 1731), (100470, 379274, 0, 1707), (100473, 393482, 0, 1735), (100479, 385290, 0, 1739), (100482, 397962, 0, 1743), (100486, 389386, 0, 1715), (100489, 395530, 0, 1723), (100492, 381066, 0, 1747), (100495, 399498, 0, 1695), (100498, 401546, 0, 1691), (100501, 409866, 0, 1755), (100504, 403978, 0, 1759), (100507, 411914, 0, 1768), (100513, 417930, 0, 1780), (100516, 422154, 0, 1788), (100519, 424330, 0, 1792), (100528, 430346, 0, 1808), (100539, 432394, 0, 1812), (100542, 434442, 0, 1816), (100548, 436490, 0, 1804), (100551, 440586, 0, 1828), (100554, 451082, 0, 1848), (100558, 448778, 0, 1852), (100561, 453002, 0, 1856), (100564, 454794, 0, 1844), (100567, 456842, 0, 1864), (200013, 463331, 0, 988), (210009, 252041, 0, 192), (210012, 299146, 0, 1216), (210015, 254345, 0, 641), (210019, 301450, 0, 1544), (210020, 256137, 0, 645), (210024, 370826, 0, 1548), (210025, 258313, 0, 900), (210029, 409866, 0, 1763), (210030, 260489, 0, 905), (210034, 414090, 0, 1764), (210035, 262409, 0, 913), (210038, 416010, 0, 1772), (210039, 264329, 0, 925), (210042, 405642, 0, 1687), (210043, 266633, 0, 995), (210046, 407946, 0, 1751), (210047, 268553, 0, 999), (210050, 420106, 0, 1776), (210051, 270729, 0, 1024), (210054, 426378, 0, 1784), (210055, 272777, 0, 1040), (210058, 428426, 0, 1796), (210059, 274697, 0, 1044), (210062, 438538, 0, 1800), (210063, 276745, 0, 1089), (210066, 442634, 0, 1824), (210067, 278921, 0, 1098), (210070, 444810, 0, 1832), (210071, 280713, 0, 1102), (210074, 456842, 0, 1840), (210075, 283017, 0, 1168), (210078, 459146, 0, 1860), (210079, 285065, 0, 1196), (210082, 461194, 0, 1865), (210083, 286985, 0, 1206), (210086, 446730, 0, 1836)]
def lm_tC : List (Nat × Nat × Nat × Nat × Nat) := [(210007, 9, 190, 191, 173), (210010, 10, 1214, 1215, 187), (10009, 4, 560, 410, 182), (30009, 6, 204, 205, 175), (30018, 7, 237, 238, 176), (30025, 2, 317, 318, 177), (30032, 4, 409, 410, 182), (90013, 3, 198, 199, 174), (90023, 5, 491, 492, 183), (90030, 0, 525, 526, 184), (90037, 1, 554, 555, 185), (90044, 8, 579, 580, 186)]
def lm_tL : List (Nat × Nat × Nat) := [(210013, 4294967295, 1869), (60088, 26982, 685), (60090, 1952998766, 686), (60092, 1701606245, 687), (100142, 1953658213, 1220), (100144, 439721161573, 1221), (100146, 7237492, 1222), (100148, 1751474532, 1223), (100150, 1952541036, 1224), (100152, 1853189228, 1225), (100154, 119182899770472, 1226), (100156, 6714228, 1227), (100158, 7564900, 1228), (100160, 26980, 1229), (100162, 1936224119, 1230), (100266, 26982, 1580), (100268, 1952998766, 1581), (100270, 1701606245, 1582), (100531, 5141869, 1820), (100533, 1114599276, 1821), (100535, 1415936116, 1822), (100537, 255, 1823)]
def lm_tS : List (Nat × Nat × Nat) := [(20035, 0, 323), (80063, 1, 1065), (80069, 2, 1072), (80071, 3, 1073)]
def lm_tG : List (Nat × Nat) := [(10042, 1194)]
def lm_tA : List (Nat × Nat) := [(40081, 1119), (80045, 1086)]
def lm_tO : List (Nat × Nat) := [(3, 530), (10003, 559), (20003, 322), (30003, 203), (40003, 414), (50003, 496), (60003, 209), (70003, 242), (80003, 584), (90003, 195), (100001, 1219)]
def lm_tN : List (Nat × Nat) := [(20037, 324), (80089, 1070)]
def lm_tH : List (Nat × Nat) := [(20043, 334), (80094, 1071)]
def lm_strs : List String := ["true false not head tail null length fst snd id show ", "Num", "Bool", "Text"]
/-- instructions that are the same in both -/
def lm_same : Instr → Bool
  | .iconst _ | .bipush _ | .sipush _ | .lconst _ | .iload _ | .iload_n _ | .lload _ | .lload_n _ | .aload _ | .aload_n _ | .istore _ | .istore_n _ | .lstore _ | .lstore_n _ | .astore _ | .astore_n _ | .iinc _ _ => true
  | .iadd | .isub | .imul | .iand | .ior | .ishl | .ishr | .idiv | .irem | .land | .lor | .lshl | .lshr | .lushr | .lcmp | .i2l | .i2b | .l2i | .dup | .pop | .dup2 => true
  | .iaload | .baload | .laload | .iastore | .bastore | .lastore | .arraylength | .ireturn | .return_ => true
  | .newarray t => lm_ty t != 99
  | _ => false
/-- may the light instruction stand for the one in the class file: own class's number, constructor or not, pc -/
def lm_ck (cn : Nat) (ini : Bool) (pc : Nat) (raw i : Instr) : Bool := match i with
  | .ifCond b t => decide (0 ≤ t) && decide (raw = .ifCond b (t - pc))
  | .if_icmp b t => decide (0 ≤ t) && decide (raw = .if_icmp b (t - pc))
  | .goto t => decide (0 ≤ t) && decide (raw = .goto (t - pc))
  | .tableswitch d lo hi os => decide (0 ≤ d) && os.toList.all (fun x => decide (0 ≤ x)) && decide (raw = .tableswitch (d - pc) lo hi (os.toList.map (fun x => x - (pc : Int))).toArray)
  | .lookupswitch d ps => decide (0 ≤ d) && ps.toList.all (fun q => decide (0 ≤ q.2)) && (ps.toList.zip (ps.toList.drop 1)).all (fun (a, next) => a.1 < next.1) && decide (raw = .lookupswitch (d - pc) (ps.toList.map (fun q => (q.1, q.2 - (pc : Int)))).toArray)
  | .getfield r => lm_tF.any (fun e => e.2.1 == r && e.1 / 10000 == cn && decide (raw = .getfield (e.1 % 10000)))
  | .putfield r => lm_tF.any (fun e => e.2.1 == r && e.1 / 10000 == cn && ((lm_cT (r / 1024) (r / 8 % 128)).2.2.2 == false || (ini && r / 1024 == cn && e.2.2.1 == 0)) && decide (raw = .putfield (e.1 % 10000)))
  | .invokevirtual r => lm_tM.any (fun e => e.2.1 == r && e.1 / 10000 == cn && decide (raw = .invokevirtual (e.1 % 10000))) && (lm_mi (r / 2048)).2.2.2.2.2.2.1 == false && (lm_mi (r / 2048)).1.name != "<init>"
  | .invokespecial r => lm_tM.any (fun e => e.2.1 == r && e.1 / 10000 == cn && decide (raw = .invokespecial (e.1 % 10000))) && (lm_mi (r / 2048)).2.2.2.2.2.2.1 == false && (lm_mi (r / 2048)).1.name == "<init>"
  | .invokestatic r => lm_tM.any (fun e => e.2.1 == r && e.1 / 10000 == cn && decide (raw = .invokestatic (e.1 % 10000))) && (lm_mi (r / 2048)).2.2.2.2.2.2.1 == true
  | .new ci => lm_tC.any (fun e => e.2.1 == ci && e.1 / 10000 == cn && decide (raw = .new (e.1 % 10000)))
  | .ldc2_w v => lm_tL.any (fun e => e.2.1 == v && e.1 / 10000 == cn && decide (raw = .ldc2_w (e.1 % 10000)))
  | .ldc k => lm_tS.any (fun e => e.2.1 == k && e.1 / 10000 == cn && decide (raw = .ldc (e.1 % 10000)))
  | .getstatic k => k == 10 && lm_tG.any (fun e => e.1 / 10000 == cn && decide (raw = .getstatic (e.1 % 10000)))
  | .monitorenter => lm_tA.any (fun e => e.1 / 10000 == cn && decide (raw = .invokestatic (e.1 % 10000)))
  | .monitorexit => lm_tO.any (fun e => e.1 / 10000 == cn && decide (raw = .invokespecial (e.1 % 10000)))
  | .swap => lm_tN.any (fun e => e.1 / 10000 == cn && decide (raw = .invokevirtual (e.1 % 10000)))
  | .athrow => lm_tH.any (fun e => e.1 / 10000 == cn && decide (raw = .invokevirtual (e.1 % 10000)))
  | i => lm_same i && decide (raw = i)
/-- how many bytes the instruction has that a light one stands for (0: a switch) -/
def lm_n : Instr → Nat
  | .bipush _ | .iload _ | .lload _ | .aload _ | .istore _ | .lstore _ | .astore _ | .newarray _ | .ldc _ => 2
  | .sipush _ | .iinc _ _ | .ifCond _ _ | .if_icmp _ _ | .goto _ | .getfield _ | .putfield _ | .invokevirtual _ | .invokespecial _ | .invokestatic _ | .new _ | .ldc2_w _ | .getstatic _ | .monitorenter | .monitorexit | .swap | .athrow => 3
  | .tableswitch _ _ _ _ | .lookupswitch _ _ => 0
  | _ => 1
def lm_ckL (cn : Nat) (ini : Bool) (bytes : ByteArray) : lm_C → Bool
  | [] => true
  | (pc, i) :: c => (decide (i = .nop) || (match decode bytes pc with
      | .ok (raw, n) => lm_ck cn ini pc raw i && (lm_n i == 0 || lm_n i == n) && (match c with
        | [] => true
        | (pc', _) :: _ => pc' == pc + n)
      | _ => false)) && lm_ckL cn ini bytes c
def lm_ckM (k : Nat) : Bool := lm_ckL (lm_mi k).2.2.2.2.1 ((lm_mi k).1.name == "<init>") (lm_mi k).2.1 (lm_code k) && (lm_mi k).2.2.1 == lm_ml k && lm_rt k == (match (lm_mi k).2.2.2.1 with
  | none => 0
  | some .int => 1
  | some .boolean => 2
  | _ => 3) && (match lm_code k with
  | (0, _) :: _ => true
  | _ => false)
def lm_kd : FieldType → Nat
  | .int => 0
  | .long => 1
  | .boolean => 3
  | .array _ => 2
  | .object _ => 2
  | _ => 9
def lm_okF (e : Nat × Nat × Nat × Nat) : Bool :=
  decide (lw_tbl[e.2.2.2]? = some (if e.2.2.1 = 0 then .fieldLink (lm_oR (e.1 / 10000)) (e.1 % 10000) (lm_cT (e.2.1 / 1024) (e.2.1 / 8 % 128)).1 (lm_cT (e.2.1 / 1024) (e.2.1 / 8 % 128)).2.1 (lm_cT (e.2.1 / 1024) (e.2.1 / 8 % 128)).2.2.1
    else .fieldLinkNest (lm_oR (e.1 / 10000)) (e.1 % 10000) (lm_cT (e.2.1 / 1024) (e.2.1 / 8 % 128)).1 (lm_cT (e.2.1 / 1024) (e.2.1 / 8 % 128)).2.1 (lm_cT (e.2.1 / 1024) (e.2.1 / 8 % 128)).2.2.1 "ConflictPlaces")) && decide (e.2.1 / 1024 < 11) && decide (e.2.1 / 8 % 128 < lm_cN (e.2.1 / 1024)) && lm_kd (lm_cy (e.2.1 / 1024) (e.2.1 / 8 % 128)) == e.2.1 % 8
def lm_okM (e : Nat × Nat × Nat × Nat) : Bool :=
  decide (lw_tbl[e.2.2.2]? = some (if e.2.2.1 = 0 then .methodLink (lm_oR (e.1 / 10000)) (e.1 % 10000) (lm_mi (e.2.1 / 2048)).1 else .methodLinkNest (lm_oR (e.1 / 10000)) (e.1 % 10000) (lm_mi (e.2.1 / 2048)).1 "ConflictPlaces"))
  && decide (e.2.1 / 2048 < 229)
  && e.2.1 % 128 == (if (lm_mi (e.2.1 / 2048)).2.2.2.2.2.2.1 then 99 else (lm_mi (e.2.1 / 2048)).2.2.2.2.1)
  && e.2.1 / 128 % 16 == (lm_mi (e.2.1 / 2048)).2.2.2.2.2.1 + (if (lm_mi (e.2.1 / 2048)).2.2.2.2.2.2.1 then 0 else 1)
def lm_okI (q : lm_MI) : Bool :=
  decide (lw_tbl[q.2.2.2.2.2.2.2.2.1]? = some (if q.2.2.2.2.2.2.1 then .static q.1 else .instanceMethod q.1))
  && (q.2.2.2.2.2.2.1 || q.1.name == "<init>" || decide (lw_tbl[q.2.2.2.2.2.2.2.2.2.1]? = some (.selects q.1.cls q.1 q.1))) && decide (lw_tbl[q.2.2.2.2.2.2.2.2.2.2]? = some (.initialized q.1.cls))
  && plainName q.1.cls && decide (q.1.cls ≠ "java/lang/invoke/MethodHandle" ∧ q.1.cls ≠ "java/lang/invoke/VarHandle" ∧ (parseMethodDescriptor q.1.desc).map (fun d => d.parameters.length) = some q.2.2.2.2.2.1) && q.1.cls == lm_oR q.2.2.2.2.1 && decide (q.2.2.1 ≤ 40) && (q.2.2.2.2.1 == 20 || decide (q.2.2.2.2.1 < 11)) && (q.2.2.2.2.2.2.1 || decide (q.2.2.2.2.1 < 11)) && (q.1.name != "<init>" || q.2.2.2.1 == none)

theorem lm_tF_ok : lm_tF.all lm_okF = true := by decide +kernel
theorem lm_tM_ok : lm_tM.all lm_okM = true := by decide +kernel
theorem lm_mis_ok : lm_mis.all lm_okI = true := by decide +kernel
set_option maxRecDepth 100000 in
theorem lm_cw_0 : ∀ q ∈ lm_mis_0, Cond.code q.1 q.2.1 q.2.2.1 q.2.2.2.1 ∈ lw_tbl := List.forall_mem_cons.mpr ⟨List.mem_of_getElem? (i := 529) (by rfl), List.forall_mem_cons.mpr ⟨List.mem_of_getElem? (i := 892) (by rfl), List.forall_mem_cons.mpr ⟨List.mem_of_getElem? (i := 1031) (by rfl), List.forall_mem_cons.mpr ⟨List.mem_of_getElem? (i := 1035) (by rfl), List.forall_mem_cons.mpr ⟨List.mem_of_getElem? (i := 1039) (by rfl), List.forall_mem_cons.mpr ⟨List.mem_of_getElem? (i := 1006) (by rfl), List.forall_mem_cons.mpr ⟨List.mem_of_getElem? (i := 1010) (by rfl), List.forall_mem_cons.mpr ⟨List.mem_of_getElem? (i := 1019) (by rfl), List.forall_mem_cons.mpr ⟨List.mem_of_getElem? (i := 1023) (by rfl), List.forall_mem_cons.mpr ⟨List.mem_of_getElem? (i := 1015) (by rfl), List.forall_mem_cons.mpr ⟨List.mem_of_getElem? (i := 558) (by rfl), List.forall_mem_cons.mpr ⟨List.mem_of_getElem? (i := 899) (by rfl), List.forall_mem_cons.mpr ⟨List.mem_of_getElem? (i := 1175) (by rfl), List.forall_mem_cons.mpr ⟨List.mem_of_getElem? (i := 1179) (by rfl), List.forall_mem_cons.mpr ⟨List.mem_of_getElem? (i := 1184) (by rfl), List.forall_mem_cons.mpr ⟨List.mem_of_getElem? (i := 1188) (by rfl), fun _ h => by cases h⟩⟩⟩⟩⟩⟩⟩⟩⟩⟩⟩⟩⟩⟩⟩⟩
set_option maxRecDepth 100000 in
theorem lm_cw_1 : ∀ q ∈ lm_mis_1, Cond.code q.1 q.2.1 q.2.2.1 q.2.2.2.1 ∈ lw_tbl := List.forall_mem_cons.mpr ⟨List.mem_of_getElem? (i := 1193) (by rfl), List.forall_mem_cons.mpr ⟨List.mem_of_getElem? (i := 1109) (by rfl), List.forall_mem_cons.mpr ⟨List.mem_of_getElem? (i := 1114) (by rfl), List.forall_mem_cons.mpr ⟨List.mem_of_getElem? (i := 1167) (by rfl), List.forall_mem_cons.mpr ⟨List.mem_of_getElem? (i := 1131) (by rfl), List.forall_mem_cons.mpr ⟨List.mem_of_getElem? (i := 1203) (by rfl), List.forall_mem_cons.mpr ⟨List.mem_of_getElem? (i := 1135) (by rfl), List.forall_mem_cons.mpr ⟨List.mem_of_getElem? (i := 1140) (by rfl), List.forall_mem_cons.mpr ⟨List.mem_of_getElem? (i := 1154) (by rfl), List.forall_mem_cons.mpr ⟨List.mem_of_getElem? (i := 1150) (by rfl), List.forall_mem_cons.mpr ⟨List.mem_of_getElem? (i := 321) (by rfl), List.forall_mem_cons.mpr ⟨List.mem_of_getElem? (i := 720) (by rfl), List.forall_mem_cons.mpr ⟨List.mem_of_getElem? (i := 859) (by rfl), List.forall_mem_cons.mpr ⟨List.mem_of_getElem? (i := 732) (by rfl), List.forall_mem_cons.mpr ⟨List.mem_of_getElem? (i := 752) (by rfl), List.forall_mem_cons.mpr ⟨List.mem_of_getElem? (i := 736) (by rfl), fun _ h => by cases h⟩⟩⟩⟩⟩⟩⟩⟩⟩⟩⟩⟩⟩⟩⟩⟩
set_option maxRecDepth 100000 in
theorem lm_cw_2 : ∀ q ∈ lm_mis_2, Cond.code q.1 q.2.1 q.2.2.1 q.2.2.2.1 ∈ lw_tbl := List.forall_mem_cons.mpr ⟨List.mem_of_getElem? (i := 756) (by rfl), List.forall_mem_cons.mpr ⟨List.mem_of_getElem? (i := 830) (by rfl), List.forall_mem_cons.mpr ⟨List.mem_of_getElem? (i := 842) (by rfl), List.forall_mem_cons.mpr ⟨List.mem_of_getElem? (i := 1127) (by rfl), List.forall_mem_cons.mpr ⟨List.mem_of_getElem? (i := 838) (by rfl), List.forall_mem_cons.mpr ⟨List.mem_of_getElem? (i := 846) (by rfl), List.forall_mem_cons.mpr ⟨List.mem_of_getElem? (i := 850) (by rfl), List.forall_mem_cons.mpr ⟨List.mem_of_getElem? (i := 202) (by rfl), List.forall_mem_cons.mpr ⟨List.mem_of_getElem? (i := 652) (by rfl), List.forall_mem_cons.mpr ⟨List.mem_of_getElem? (i := 724) (by rfl), List.forall_mem_cons.mpr ⟨List.mem_of_getElem? (i := 744) (by rfl), List.forall_mem_cons.mpr ⟨List.mem_of_getElem? (i := 740) (by rfl), List.forall_mem_cons.mpr ⟨List.mem_of_getElem? (i := 760) (by rfl), List.forall_mem_cons.mpr ⟨List.mem_of_getElem? (i := 780) (by rfl), List.forall_mem_cons.mpr ⟨List.mem_of_getElem? (i := 776) (by rfl), List.forall_mem_cons.mpr ⟨List.mem_of_getElem? (i := 748) (by rfl), fun _ h => by cases h⟩⟩⟩⟩⟩⟩⟩⟩⟩⟩⟩⟩⟩⟩⟩⟩
set_option maxRecDepth 100000 in
theorem lm_cw_3 : ∀ q ∈ lm_mis_3, Cond.code q.1 q.2.1 q.2.2.1 q.2.2.2.1 ∈ lw_tbl := List.forall_mem_cons.mpr ⟨List.mem_of_getElem? (i := 728) (by rfl), List.forall_mem_cons.mpr ⟨List.mem_of_getElem? (i := 764) (by rfl), List.forall_mem_cons.mpr ⟨List.mem_of_getElem? (i := 768) (by rfl), List.forall_mem_cons.mpr ⟨List.mem_of_getElem? (i := 788) (by rfl), List.forall_mem_cons.mpr ⟨List.mem_of_getElem? (i := 792) (by rfl), List.forall_mem_cons.mpr ⟨List.mem_of_getElem? (i := 796) (by rfl), List.forall_mem_cons.mpr ⟨List.mem_of_getElem? (i := 772) (by rfl), List.forall_mem_cons.mpr ⟨List.mem_of_getElem? (i := 804) (by rfl), List.forall_mem_cons.mpr ⟨List.mem_of_getElem? (i := 826) (by rfl), List.forall_mem_cons.mpr ⟨List.mem_of_getElem? (i := 808) (by rfl), List.forall_mem_cons.mpr ⟨List.mem_of_getElem? (i := 823) (by rfl), List.forall_mem_cons.mpr ⟨List.mem_of_getElem? (i := 812) (by rfl), List.forall_mem_cons.mpr ⟨List.mem_of_getElem? (i := 816) (by rfl), List.forall_mem_cons.mpr ⟨List.mem_of_getElem? (i := 820) (by rfl), List.forall_mem_cons.mpr ⟨List.mem_of_getElem? (i := 834) (by rfl), List.forall_mem_cons.mpr ⟨List.mem_of_getElem? (i := 413) (by rfl), fun _ h => by cases h⟩⟩⟩⟩⟩⟩⟩⟩⟩⟩⟩⟩⟩⟩⟩⟩
set_option maxRecDepth 100000 in
theorem lm_cw_4 : ∀ q ∈ lm_mis_4, Cond.code q.1 q.2.1 q.2.2.1 q.2.2.2.1 ∈ lw_tbl := List.forall_mem_cons.mpr ⟨List.mem_of_getElem? (i := 944) (by rfl), List.forall_mem_cons.mpr ⟨List.mem_of_getElem? (i := 863) (by rfl), List.forall_mem_cons.mpr ⟨List.mem_of_getElem? (i := 884) (by rfl), List.forall_mem_cons.mpr ⟨List.mem_of_getElem? (i := 1158) (by rfl), List.forall_mem_cons.mpr ⟨List.mem_of_getElem? (i := 924) (by rfl), List.forall_mem_cons.mpr ⟨List.mem_of_getElem? (i := 855) (by rfl), List.forall_mem_cons.mpr ⟨List.mem_of_getElem? (i := 867) (by rfl), List.forall_mem_cons.mpr ⟨List.mem_of_getElem? (i := 1118) (by rfl), List.forall_mem_cons.mpr ⟨List.mem_of_getElem? (i := 871) (by rfl), List.forall_mem_cons.mpr ⟨List.mem_of_getElem? (i := 875) (by rfl), List.forall_mem_cons.mpr ⟨List.mem_of_getElem? (i := 880) (by rfl), List.forall_mem_cons.mpr ⟨List.mem_of_getElem? (i := 888) (by rfl), List.forall_mem_cons.mpr ⟨List.mem_of_getElem? (i := 1123) (by rfl), List.forall_mem_cons.mpr ⟨List.mem_of_getElem? (i := 1162) (by rfl), List.forall_mem_cons.mpr ⟨List.mem_of_getElem? (i := 495) (by rfl), List.forall_mem_cons.mpr ⟨List.mem_of_getElem? (i := 940) (by rfl), fun _ h => by cases h⟩⟩⟩⟩⟩⟩⟩⟩⟩⟩⟩⟩⟩⟩⟩⟩
set_option maxRecDepth 100000 in
theorem lm_cw_5 : ∀ q ∈ lm_mis_5, Cond.code q.1 q.2.1 q.2.2.1 q.2.2.2.1 ∈ lw_tbl := List.forall_mem_cons.mpr ⟨List.mem_of_getElem? (i := 948) (by rfl), List.forall_mem_cons.mpr ⟨List.mem_of_getElem? (i := 952) (by rfl), List.forall_mem_cons.mpr ⟨List.mem_of_getElem? (i := 960) (by rfl), List.forall_mem_cons.mpr ⟨List.mem_of_getElem? (i := 956) (by rfl), List.forall_mem_cons.mpr ⟨List.mem_of_getElem? (i := 972) (by rfl), List.forall_mem_cons.mpr ⟨List.mem_of_getElem? (i := 976) (by rfl), List.forall_mem_cons.mpr ⟨List.mem_of_getElem? (i := 964) (by rfl), List.forall_mem_cons.mpr ⟨List.mem_of_getElem? (i := 968) (by rfl), List.forall_mem_cons.mpr ⟨List.mem_of_getElem? (i := 980) (by rfl), List.forall_mem_cons.mpr ⟨List.mem_of_getElem? (i := 984) (by rfl), List.forall_mem_cons.mpr ⟨List.mem_of_getElem? (i := 994) (by rfl), List.forall_mem_cons.mpr ⟨List.mem_of_getElem? (i := 208) (by rfl), List.forall_mem_cons.mpr ⟨List.mem_of_getElem? (i := 656) (by rfl), List.forall_mem_cons.mpr ⟨List.mem_of_getElem? (i := 663) (by rfl), List.forall_mem_cons.mpr ⟨List.mem_of_getElem? (i := 670) (by rfl), List.forall_mem_cons.mpr ⟨List.mem_of_getElem? (i := 695) (by rfl), fun _ h => by cases h⟩⟩⟩⟩⟩⟩⟩⟩⟩⟩⟩⟩⟩⟩⟩⟩
set_option maxRecDepth 100000 in
theorem lm_cw_6 : ∀ q ∈ lm_mis_6, Cond.code q.1 q.2.1 q.2.2.1 q.2.2.2.1 ∈ lw_tbl := List.forall_mem_cons.mpr ⟨List.mem_of_getElem? (i := 699) (by rfl), List.forall_mem_cons.mpr ⟨List.mem_of_getElem? (i := 706) (by rfl), List.forall_mem_cons.mpr ⟨List.mem_of_getElem? (i := 691) (by rfl), List.forall_mem_cons.mpr ⟨List.mem_of_getElem? (i := 677) (by rfl), List.forall_mem_cons.mpr ⟨List.mem_of_getElem? (i := 681) (by rfl), List.forall_mem_cons.mpr ⟨List.mem_of_getElem? (i := 716) (by rfl), List.forall_mem_cons.mpr ⟨List.mem_of_getElem? (i := 684) (by rfl), List.forall_mem_cons.mpr ⟨List.mem_of_getElem? (i := 709) (by rfl), List.forall_mem_cons.mpr ⟨List.mem_of_getElem? (i := 712) (by rfl), List.forall_mem_cons.mpr ⟨List.mem_of_getElem? (i := 659) (by rfl), List.forall_mem_cons.mpr ⟨List.mem_of_getElem? (i := 666) (by rfl), List.forall_mem_cons.mpr ⟨List.mem_of_getElem? (i := 673) (by rfl), List.forall_mem_cons.mpr ⟨List.mem_of_getElem? (i := 702) (by rfl), List.forall_mem_cons.mpr ⟨List.mem_of_getElem? (i := 241) (by rfl), List.forall_mem_cons.mpr ⟨List.mem_of_getElem? (i := 784) (by rfl), List.forall_mem_cons.mpr ⟨List.mem_of_getElem? (i := 800) (by rfl), fun _ h => by cases h⟩⟩⟩⟩⟩⟩⟩⟩⟩⟩⟩⟩⟩⟩⟩⟩
set_option maxRecDepth 100000 in
theorem lm_cw_7 : ∀ q ∈ lm_mis_7, Cond.code q.1 q.2.1 q.2.2.1 q.2.2.2.1 ∈ lw_tbl := List.forall_mem_cons.mpr ⟨List.mem_of_getElem? (i := 1144) (by rfl), List.forall_mem_cons.mpr ⟨List.mem_of_getElem? (i := 583) (by rfl), List.forall_mem_cons.mpr ⟨List.mem_of_getElem? (i := 1213) (by rfl), List.forall_mem_cons.mpr ⟨List.mem_of_getElem? (i := 1051) (by rfl), List.forall_mem_cons.mpr ⟨List.mem_of_getElem? (i := 1059) (by rfl), List.forall_mem_cons.mpr ⟨List.mem_of_getElem? (i := 1081) (by rfl), List.forall_mem_cons.mpr ⟨List.mem_of_getElem? (i := 1085) (by rfl), List.forall_mem_cons.mpr ⟨List.mem_of_getElem? (i := 1069) (by rfl), List.forall_mem_cons.mpr ⟨List.mem_of_getElem? (i := 1063) (by rfl), List.forall_mem_cons.mpr ⟨List.mem_of_getElem? (i := 1077) (by rfl), List.forall_mem_cons.mpr ⟨List.mem_of_getElem? (i := 1055) (by rfl), List.forall_mem_cons.mpr ⟨List.mem_of_getElem? (i := 194) (by rfl), List.forall_mem_cons.mpr ⟨List.mem_of_getElem? (i := 644) (by rfl), List.forall_mem_cons.mpr ⟨List.mem_of_getElem? (i := 648) (by rfl), List.forall_mem_cons.mpr ⟨List.mem_of_getElem? (i := 903) (by rfl), List.forall_mem_cons.mpr ⟨List.mem_of_getElem? (i := 908) (by rfl), fun _ h => by cases h⟩⟩⟩⟩⟩⟩⟩⟩⟩⟩⟩⟩⟩⟩⟩⟩
set_option maxRecDepth 100000 in
theorem lm_cw_8 : ∀ q ∈ lm_mis_8, Cond.code q.1 q.2.1 q.2.2.1 q.2.2.2.1 ∈ lw_tbl := List.forall_mem_cons.mpr ⟨List.mem_of_getElem? (i := 916) (by rfl), List.forall_mem_cons.mpr ⟨List.mem_of_getElem? (i := 928) (by rfl), List.forall_mem_cons.mpr ⟨List.mem_of_getElem? (i := 998) (by rfl), List.forall_mem_cons.mpr ⟨List.mem_of_getElem? (i := 1002) (by rfl), List.forall_mem_cons.mpr ⟨List.mem_of_getElem? (i := 1027) (by rfl), List.forall_mem_cons.mpr ⟨List.mem_of_getElem? (i := 1043) (by rfl), List.forall_mem_cons.mpr ⟨List.mem_of_getElem? (i := 1047) (by rfl), List.forall_mem_cons.mpr ⟨List.mem_of_getElem? (i := 1092) (by rfl), List.forall_mem_cons.mpr ⟨List.mem_of_getElem? (i := 1101) (by rfl), List.forall_mem_cons.mpr ⟨List.mem_of_getElem? (i := 1105) (by rfl), List.forall_mem_cons.mpr ⟨List.mem_of_getElem? (i := 1171) (by rfl), List.forall_mem_cons.mpr ⟨List.mem_of_getElem? (i := 1199) (by rfl), List.forall_mem_cons.mpr ⟨List.mem_of_getElem? (i := 1209) (by rfl), List.forall_mem_cons.mpr ⟨List.mem_of_getElem? (i := 912) (by rfl), List.forall_mem_cons.mpr ⟨List.mem_of_getElem? (i := 920) (by rfl), List.forall_mem_cons.mpr ⟨List.mem_of_getElem? (i := 1096) (by rfl), fun _ h => by cases h⟩⟩⟩⟩⟩⟩⟩⟩⟩⟩⟩⟩⟩⟩⟩⟩
set_option maxRecDepth 100000 in
theorem lm_cw_9 : ∀ q ∈ lm_mis_9, Cond.code q.1 q.2.1 q.2.2.1 q.2.2.2.1 ∈ lw_tbl := List.forall_mem_cons.mpr ⟨List.mem_of_getElem? (i := 936) (by rfl), List.forall_mem_cons.mpr ⟨List.mem_of_getElem? (i := 932) (by rfl), List.forall_mem_cons.mpr ⟨List.mem_of_getElem? (i := 1218) (by rfl), List.forall_mem_cons.mpr ⟨List.mem_of_getElem? (i := 1547) (by rfl), List.forall_mem_cons.mpr ⟨List.mem_of_getElem? (i := 1559) (by rfl), List.forall_mem_cons.mpr ⟨List.mem_of_getElem? (i := 1563) (by rfl), List.forall_mem_cons.mpr ⟨List.mem_of_getElem? (i := 1567) (by rfl), List.forall_mem_cons.mpr ⟨List.mem_of_getElem? (i := 1555) (by rfl), List.forall_mem_cons.mpr ⟨List.mem_of_getElem? (i := 1579) (by rfl), List.forall_mem_cons.mpr ⟨List.mem_of_getElem? (i := 1575) (by rfl), List.forall_mem_cons.mpr ⟨List.mem_of_getElem? (i := 1590) (by rfl), List.forall_mem_cons.mpr ⟨List.mem_of_getElem? (i := 1602) (by rfl), List.forall_mem_cons.mpr ⟨List.mem_of_getElem? (i := 1634) (by rfl), List.forall_mem_cons.mpr ⟨List.mem_of_getElem? (i := 1594) (by rfl), List.forall_mem_cons.mpr ⟨List.mem_of_getElem? (i := 1614) (by rfl), List.forall_mem_cons.mpr ⟨List.mem_of_getElem? (i := 1622) (by rfl), fun _ h => by cases h⟩⟩⟩⟩⟩⟩⟩⟩⟩⟩⟩⟩⟩⟩⟩⟩
set_option maxRecDepth 100000 in
theorem lm_cw_10 : ∀ q ∈ lm_mis_10, Cond.code q.1 q.2.1 q.2.2.1 q.2.2.2.1 ∈ lw_tbl := List.forall_mem_cons.mpr ⟨List.mem_of_getElem? (i := 1638) (by rfl), List.forall_mem_cons.mpr ⟨List.mem_of_getElem? (i := 1630) (by rfl), List.forall_mem_cons.mpr ⟨List.mem_of_getElem? (i := 1586) (by rfl), List.forall_mem_cons.mpr ⟨List.mem_of_getElem? (i := 1598) (by rfl), List.forall_mem_cons.mpr ⟨List.mem_of_getElem? (i := 1610) (by rfl), List.forall_mem_cons.mpr ⟨List.mem_of_getElem? (i := 1606) (by rfl), List.forall_mem_cons.mpr ⟨List.mem_of_getElem? (i := 1618) (by rfl), List.forall_mem_cons.mpr ⟨List.mem_of_getElem? (i := 1642) (by rfl), List.forall_mem_cons.mpr ⟨List.mem_of_getElem? (i := 1646) (by rfl), List.forall_mem_cons.mpr ⟨List.mem_of_getElem? (i := 1650) (by rfl), List.forall_mem_cons.mpr ⟨List.mem_of_getElem? (i := 1654) (by rfl), List.forall_mem_cons.mpr ⟨List.mem_of_getElem? (i := 1626) (by rfl), List.forall_mem_cons.mpr ⟨List.mem_of_getElem? (i := 1571) (by rfl), List.forall_mem_cons.mpr ⟨List.mem_of_getElem? (i := 1662) (by rfl), List.forall_mem_cons.mpr ⟨List.mem_of_getElem? (i := 1658) (by rfl), List.forall_mem_cons.mpr ⟨List.mem_of_getElem? (i := 1670) (by rfl), fun _ h => by cases h⟩⟩⟩⟩⟩⟩⟩⟩⟩⟩⟩⟩⟩⟩⟩⟩
set_option maxRecDepth 100000 in
theorem lm_cw_11 : ∀ q ∈ lm_mis_11, Cond.code q.1 q.2.1 q.2.2.1 q.2.2.2.1 ∈ lw_tbl := List.forall_mem_cons.mpr ⟨List.mem_of_getElem? (i := 1666) (by rfl), List.forall_mem_cons.mpr ⟨List.mem_of_getElem? (i := 1674) (by rfl), List.forall_mem_cons.mpr ⟨List.mem_of_getElem? (i := 1678) (by rfl), List.forall_mem_cons.mpr ⟨List.mem_of_getElem? (i := 1682) (by rfl), List.forall_mem_cons.mpr ⟨List.mem_of_getElem? (i := 1686) (by rfl), List.forall_mem_cons.mpr ⟨List.mem_of_getElem? (i := 1551) (by rfl), List.forall_mem_cons.mpr ⟨List.mem_of_getElem? (i := 1706) (by rfl), List.forall_mem_cons.mpr ⟨List.mem_of_getElem? (i := 1702) (by rfl), List.forall_mem_cons.mpr ⟨List.mem_of_getElem? (i := 1714) (by rfl), List.forall_mem_cons.mpr ⟨List.mem_of_getElem? (i := 1710) (by rfl), List.forall_mem_cons.mpr ⟨List.mem_of_getElem? (i := 1750) (by rfl), List.forall_mem_cons.mpr ⟨List.mem_of_getElem? (i := 1730) (by rfl), List.forall_mem_cons.mpr ⟨List.mem_of_getElem? (i := 1742) (by rfl), List.forall_mem_cons.mpr ⟨List.mem_of_getElem? (i := 1722) (by rfl), List.forall_mem_cons.mpr ⟨List.mem_of_getElem? (i := 1718) (by rfl), List.forall_mem_cons.mpr ⟨List.mem_of_getElem? (i := 1734) (by rfl), fun _ h => by cases h⟩⟩⟩⟩⟩⟩⟩⟩⟩⟩⟩⟩⟩⟩⟩⟩
set_option maxRecDepth 100000 in
theorem lm_cw_12 : ∀ q ∈ lm_mis_12, Cond.code q.1 q.2.1 q.2.2.1 q.2.2.2.1 ∈ lw_tbl := List.forall_mem_cons.mpr ⟨List.mem_of_getElem? (i := 1738) (by rfl), List.forall_mem_cons.mpr ⟨List.mem_of_getElem? (i := 1726) (by rfl), List.forall_mem_cons.mpr ⟨List.mem_of_getElem? (i := 1746) (by rfl), List.forall_mem_cons.mpr ⟨List.mem_of_getElem? (i := 1698) (by rfl), List.forall_mem_cons.mpr ⟨List.mem_of_getElem? (i := 1694) (by rfl), List.forall_mem_cons.mpr ⟨List.mem_of_getElem? (i := 1762) (by rfl), List.forall_mem_cons.mpr ⟨List.mem_of_getElem? (i := 1690) (by rfl), List.forall_mem_cons.mpr ⟨List.mem_of_getElem? (i := 1754) (by rfl), List.forall_mem_cons.mpr ⟨List.mem_of_getElem? (i := 1758) (by rfl), List.forall_mem_cons.mpr ⟨List.mem_of_getElem? (i := 1771) (by rfl), List.forall_mem_cons.mpr ⟨List.mem_of_getElem? (i := 1767) (by rfl), List.forall_mem_cons.mpr ⟨List.mem_of_getElem? (i := 1775) (by rfl), List.forall_mem_cons.mpr ⟨List.mem_of_getElem? (i := 1783) (by rfl), List.forall_mem_cons.mpr ⟨List.mem_of_getElem? (i := 1779) (by rfl), List.forall_mem_cons.mpr ⟨List.mem_of_getElem? (i := 1791) (by rfl), List.forall_mem_cons.mpr ⟨List.mem_of_getElem? (i := 1795) (by rfl), fun _ h => by cases h⟩⟩⟩⟩⟩⟩⟩⟩⟩⟩⟩⟩⟩⟩⟩⟩
set_option maxRecDepth 100000 in
theorem lm_cw_13 : ∀ q ∈ lm_mis_13, Cond.code q.1 q.2.1 q.2.2.1 q.2.2.2.1 ∈ lw_tbl := List.forall_mem_cons.mpr ⟨List.mem_of_getElem? (i := 1787) (by rfl), List.forall_mem_cons.mpr ⟨List.mem_of_getElem? (i := 1799) (by rfl), List.forall_mem_cons.mpr ⟨List.mem_of_getElem? (i := 1811) (by rfl), List.forall_mem_cons.mpr ⟨List.mem_of_getElem? (i := 1815) (by rfl), List.forall_mem_cons.mpr ⟨List.mem_of_getElem? (i := 1819) (by rfl), List.forall_mem_cons.mpr ⟨List.mem_of_getElem? (i := 1807) (by rfl), List.forall_mem_cons.mpr ⟨List.mem_of_getElem? (i := 1803) (by rfl), List.forall_mem_cons.mpr ⟨List.mem_of_getElem? (i := 1831) (by rfl), List.forall_mem_cons.mpr ⟨List.mem_of_getElem? (i := 1827) (by rfl), List.forall_mem_cons.mpr ⟨List.mem_of_getElem? (i := 1835) (by rfl), List.forall_mem_cons.mpr ⟨List.mem_of_getElem? (i := 1839) (by rfl), List.forall_mem_cons.mpr ⟨List.mem_of_getElem? (i := 1855) (by rfl), List.forall_mem_cons.mpr ⟨List.mem_of_getElem? (i := 1851) (by rfl), List.forall_mem_cons.mpr ⟨List.mem_of_getElem? (i := 1859) (by rfl), List.forall_mem_cons.mpr ⟨List.mem_of_getElem? (i := 1847) (by rfl), List.forall_mem_cons.mpr ⟨List.mem_of_getElem? (i := 1843) (by rfl), fun _ h => by cases h⟩⟩⟩⟩⟩⟩⟩⟩⟩⟩⟩⟩⟩⟩⟩⟩
set_option maxRecDepth 100000 in
theorem lm_cw_14 : ∀ q ∈ lm_mis_14, Cond.code q.1 q.2.1 q.2.2.1 q.2.2.2.1 ∈ lw_tbl := List.forall_mem_cons.mpr ⟨List.mem_of_getElem? (i := 1863) (by rfl), List.forall_mem_cons.mpr ⟨List.mem_of_getElem? (i := 1868) (by rfl), List.forall_mem_cons.mpr ⟨List.mem_of_getElem? (i := 990) (by rfl), List.forall_mem_cons.mpr ⟨List.mem_of_getElem? (i := 895) (by rfl), List.forall_mem_cons.mpr ⟨List.mem_of_getElem? (i := 987) (by rfl), fun _ h => by cases h⟩⟩⟩⟩⟩
theorem lm_cw : ∀ q ∈ lm_mis, Cond.code q.1 q.2.1 q.2.2.1 q.2.2.2.1 ∈ lw_tbl := fun q h => (List.mem_append.mp h).elim (lm_cw_0 q) (fun h => (List.mem_append.mp h).elim (lm_cw_1 q) (fun h => (List.mem_append.mp h).elim (lm_cw_2 q) (fun h => (List.mem_append.mp h).elim (lm_cw_3 q) (fun h => (List.mem_append.mp h).elim (lm_cw_4 q) (fun h => (List.mem_append.mp h).elim (lm_cw_5 q) (fun h => (List.mem_append.mp h).elim (lm_cw_6 q) (fun h => (List.mem_append.mp h).elim (lm_cw_7 q) (fun h => (List.mem_append.mp h).elim (lm_cw_8 q) (fun h => (List.mem_append.mp h).elim (lm_cw_9 q) (fun h => (List.mem_append.mp h).elim (lm_cw_10 q) (fun h => (List.mem_append.mp h).elim (lm_cw_11 q) (fun h => (List.mem_append.mp h).elim (lm_cw_12 q) (fun h => (List.mem_append.mp h).elim (lm_cw_13 q) (fun h => lm_cw_14 q h))))))))))))))
theorem lm_tC_ok : lm_tC.all (fun e => decide (lw_tbl[e.2.2.1]? = some (.classLink (lm_oR (e.1 / 10000)) (e.1 % 10000) (lm_cR e.2.1))) && decide (lw_tbl[e.2.2.2.1]? = some (.instantiable (lm_cR e.2.1) (lm_cN e.2.1))) && decide (lw_tbl[e.2.2.2.2]? = some (.initialized (lm_cR e.2.1))) && decide (e.2.1 < 11)) = true := by decide +kernel
theorem lm_tL_ok : lm_tL.all (fun e => decide (lw_tbl[e.2.2]? = some (.constantLong (lm_oR (e.1 / 10000)) (e.1 % 10000) (Int64.ofNat e.2.1)))) = true := by decide +kernel
theorem lm_tS_ok : lm_tS.all (fun e => decide (lw_tbl[e.2.2]? = some (.stringRef (lm_oR (e.1 / 10000)) (e.1 % 10000) (lm_strs.getD e.2.1 ""))) && decide (e.2.1 < 4)) = true := by decide +kernel
theorem lm_tG_ok : lm_tG.all (fun e => decide (lw_tbl[e.2]? = some (.fieldLinkNest (lm_oR (e.1 / 10000)) (e.1 % 10000) "ConflictPlaces" "COSTS" "[I" "ConflictPlaces"))) = true := by decide +kernel
theorem lm_tA_ok : lm_tA.all (fun e => decide (lw_tbl[e.2]? = some (.methodLink (lm_oR (e.1 / 10000)) (e.1 % 10000) arraycopyName))) = true := by decide +kernel
theorem lm_tO_ok : lm_tO.all (fun e => decide (lw_tbl[e.2]? = some (.methodLink (lm_oR (e.1 / 10000)) (e.1 % 10000) Lib.objectInit))) = true := by decide +kernel
theorem lm_tN_ok : lm_tN.all (fun e => decide (lw_tbl[e.2]? = some (.methodLink (lm_oR (e.1 / 10000)) (e.1 % 10000) ⟨"java/lang/String", "length", "()I"⟩))) = true := by decide +kernel
theorem lm_tH_ok : lm_tH.all (fun e => decide (lw_tbl[e.2]? = some (.methodLink (lm_oR (e.1 / 10000)) (e.1 % 10000) ⟨"java/lang/String", "charAt", "(I)C"⟩))) = true := by decide +kernel
