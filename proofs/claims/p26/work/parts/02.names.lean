def RX0 : String := "TaleHoles$History"
def TX0 : u_T := fun k => match k with
  | 0 => ("TaleHoles$History", "states", "[LTaleHoles$State;", true)
  | _ => ("TaleHoles$History", "size", "I", false)
def tyX0 : Nat → FieldType := fun k => match k with
  | 0 => .array (.object "TaleHoles$State")
  | _ => .int
theorem nmX0 : ∀ a, a < 2 → ∀ b, b < 2 → a ≠ b → (TX0 a).2.1 ≠ (TX0 b).2.1 := by decide +kernel
theorem tyX0_ok : ∀ k, k < 2 → parseFieldDescriptor (TX0 k).2.2.1 = some (tyX0 k) := by decide +kernel
def RX1 : String := "TaleHoles$State"
def TX1 : u_T := fun k => match k with
  | 0 => ("TaleHoles$State", "words", "LTaleHoles$Words;", true)
  | 1 => ("TaleHoles$State", "tale", "LTaleHoles$Tale;", true)
  | 2 => ("TaleHoles$State", "numbers", "[I", true)
  | 3 => ("TaleHoles$State", "tenses", "[I", true)
  | 4 => ("TaleHoles$State", "once", "I", false)
  | _ => ("TaleHoles$State", "fillings", "I", false)
def tyX1 : Nat → FieldType := fun k => match k with
  | 0 => .object "TaleHoles$Words"
  | 1 => .object "TaleHoles$Tale"
  | 2 => .array .int
  | 3 => .array .int
  | 4 => .int
  | _ => .int
theorem nmX1 : ∀ a, a < 6 → ∀ b, b < 6 → a ≠ b → (TX1 a).2.1 ≠ (TX1 b).2.1 := by decide +kernel
theorem tyX1_ok : ∀ k, k < 6 → parseFieldDescriptor (TX1 k).2.2.1 = some (tyX1 k) := by decide +kernel
def RX2 : String := "TaleHoles$Tale"
def TX2 : u_T := fun k => match k with
  | 0 => ("TaleHoles$Tale", "items", "I", false)
  | 1 => ("TaleHoles$Tale", "holes", "I", false)
  | 2 => ("TaleHoles$Tale", "itemHole", "[I", true)
  | 3 => ("TaleHoles$Tale", "itemStart", "[I", true)
  | 4 => ("TaleHoles$Tale", "itemLength", "[I", true)
  | 5 => ("TaleHoles$Tale", "signs", "[I", true)
  | 6 => ("TaleHoles$Tale", "holeKind", "[I", true)
  | 7 => ("TaleHoles$Tale", "holeTie", "[I", true)
  | 8 => ("TaleHoles$Tale", "holeItem", "[I", true)
  | _ => ("TaleHoles$Tale", "holeWord", "[I", true)
def tyX2 : Nat → FieldType := fun k => match k with
  | 0 => .int
  | 1 => .int
  | 2 => .array .int
  | 3 => .array .int
  | 4 => .array .int
  | 5 => .array .int
  | 6 => .array .int
  | 7 => .array .int
  | 8 => .array .int
  | _ => .array .int
theorem nmX2 : ∀ a, a < 10 → ∀ b, b < 10 → a ≠ b → (TX2 a).2.1 ≠ (TX2 b).2.1 := by decide +kernel
theorem tyX2_ok : ∀ k, k < 10 → parseFieldDescriptor (TX2 k).2.2.1 = some (tyX2 k) := by decide +kernel
def RX3 : String := "TaleHoles$Text"
def TX3 : u_T := fun k => match k with
  | 0 => ("TaleHoles$Text", "signs", "[C", true)
  | _ => ("TaleHoles$Text", "length", "I", false)
def tyX3 : Nat → FieldType := fun k => match k with
  | 0 => .array .char
  | _ => .int
theorem nmX3 : ∀ a, a < 2 → ∀ b, b < 2 → a ≠ b → (TX3 a).2.1 ≠ (TX3 b).2.1 := by decide +kernel
theorem tyX3_ok : ∀ k, k < 2 → parseFieldDescriptor (TX3 k).2.2.1 = some (tyX3 k) := by decide +kernel
def RX4 : String := "TaleHoles$Words"
def TX4 : u_T := fun k => match k with
  | 0 => ("TaleHoles$Words", "known", "I", false)
  | 1 => ("TaleHoles$Words", "kinds", "[I", true)
  | 2 => ("TaleHoles$Words", "genders", "[I", true)
  | 3 => ("TaleHoles$Words", "stemLengths", "[I", true)
  | 4 => ("TaleHoles$Words", "stemLetters", "[I", true)
  | _ => ("TaleHoles$Words", "endings", "[I", true)
def tyX4 : Nat → FieldType := fun k => match k with
  | 0 => .int
  | 1 => .array .int
  | 2 => .array .int
  | 3 => .array .int
  | 4 => .array .int
  | _ => .array .int
theorem nmX4 : ∀ a, a < 6 → ∀ b, b < 6 → a ≠ b → (TX4 a).2.1 ≠ (TX4 b).2.1 := by decide +kernel
theorem tyX4_ok : ∀ k, k < 6 → parseFieldDescriptor (TX4 k).2.2.1 = some (tyX4 k) := by decide +kernel
def RX5 : String := "TaleHoles"
def TX5 : u_T := fun k => match k with
  | 0 => ("TaleHoles", "text", "LTaleHoles$Text;", true)
  | 1 => ("TaleHoles", "now", "LTaleHoles$State;", true)
  | 2 => ("TaleHoles", "snapshot", "LTaleHoles$State;", true)
  | 3 => ("TaleHoles", "history", "LTaleHoles$History;", true)
  | _ => ("TaleHoles", "snapshotTaken", "Z", false)
def tyX5 : Nat → FieldType := fun k => match k with
  | 0 => .object "TaleHoles$Text"
  | 1 => .object "TaleHoles$State"
  | 2 => .object "TaleHoles$State"
  | 3 => .object "TaleHoles$History"
  | _ => .boolean
theorem nmX5 : ∀ a, a < 5 → ∀ b, b < 5 → a ≠ b → (TX5 a).2.1 ≠ (TX5 b).2.1 := by decide +kernel
theorem tyX5_ok : ∀ k, k < 5 → parseFieldDescriptor (TX5 k).2.2.1 = some (tyX5 k) := by decide +kernel
abbrev vwCl : List vw_C := [(RX0, TX0, 2), (RX1, TX1, 6), (RX2, TX2, 10), (RX3, TX3, 2), (RX4, TX4, 6), (RX5, TX5, 5)]
def zcn (k : Nat) : String := match vwCl[k]? with | some r => r.1 | none => "TaleHolesLaw"
def wz : List Cond := lw_tbl.filter goodWord
def wN : Cond → Bool | .fieldLinkNest .. => true | .methodLinkNest .. => true | _ => false
def wn : List Cond := tables_1.filter wN
theorem wz_tbl {w : Cond} (h : w ∈ wz) : w ∈ lw_tbl := (List.mem_filter.mp h).1
theorem wz_good {w : Cond} (h : w ∈ wz) : goodWord w = true := (List.mem_filter.mp h).2
theorem zt1 (i : Nat) {w : Cond} (h : tables_1_1[i]? = some w) (g : goodWord w = true) : w ∈ wz := List.mem_filter.mpr ⟨List.mem_append_right _ (show w ∈ tables_1 from List.mem_append_left _ (List.mem_of_getElem? h)), g⟩
theorem zn1 (i : Nat) {w : Cond} (h : tables_1_1[i]? = some w) (g : wN w = true) : w ∈ wn := List.mem_filter.mpr ⟨(show w ∈ tables_1 from List.mem_append_left _ (List.mem_of_getElem? h)), g⟩
theorem zt2 (i : Nat) {w : Cond} (h : tables_1_2[i]? = some w) (g : goodWord w = true) : w ∈ wz := List.mem_filter.mpr ⟨List.mem_append_right _ (show w ∈ tables_1 from List.mem_append_right _ (List.mem_append_left _ (List.mem_of_getElem? h))), g⟩
theorem zn2 (i : Nat) {w : Cond} (h : tables_1_2[i]? = some w) (g : wN w = true) : w ∈ wn := List.mem_filter.mpr ⟨(show w ∈ tables_1 from List.mem_append_right _ (List.mem_append_left _ (List.mem_of_getElem? h))), g⟩
theorem zt3 (i : Nat) {w : Cond} (h : tables_1_3[i]? = some w) (g : goodWord w = true) : w ∈ wz := List.mem_filter.mpr ⟨List.mem_append_right _ (show w ∈ tables_1 from List.mem_append_right _ (List.mem_append_right _ ((List.mem_of_getElem? h)))), g⟩
theorem zn3 (i : Nat) {w : Cond} (h : tables_1_3[i]? = some w) (g : wN w = true) : w ∈ wn := List.mem_filter.mpr ⟨(show w ∈ tables_1 from List.mem_append_right _ (List.mem_append_right _ ((List.mem_of_getElem? h)))), g⟩
theorem zp1 (i : Nat) {q : MethodName × Nat} (h : lw_privs_1[i]? = some q) : Cond.selects q.1.cls q.1 q.1 ∈ wz := List.mem_filter.mpr ⟨List.mem_append_left _ (List.mem_map.mpr ⟨q, (show q ∈ lw_privs from List.mem_append_left _ (List.mem_of_getElem? h)), rfl⟩), rfl⟩
theorem zp2 (i : Nat) {q : MethodName × Nat} (h : lw_privs_2[i]? = some q) : Cond.selects q.1.cls q.1 q.1 ∈ wz := List.mem_filter.mpr ⟨List.mem_append_left _ (List.mem_map.mpr ⟨q, (show q ∈ lw_privs from List.mem_append_right _ (List.mem_append_left _ (List.mem_of_getElem? h))), rfl⟩), rfl⟩
theorem zp3 (i : Nat) {q : MethodName × Nat} (h : lw_privs_3[i]? = some q) : Cond.selects q.1.cls q.1 q.1 ∈ wz := List.mem_filter.mpr ⟨List.mem_append_left _ (List.mem_map.mpr ⟨q, (show q ∈ lw_privs from List.mem_append_right _ (List.mem_append_right _ (List.mem_append_left _ (List.mem_of_getElem? h)))), rfl⟩), rfl⟩
theorem zp4 (i : Nat) {q : MethodName × Nat} (h : lw_privs_4[i]? = some q) : Cond.selects q.1.cls q.1 q.1 ∈ wz := List.mem_filter.mpr ⟨List.mem_append_left _ (List.mem_map.mpr ⟨q, (show q ∈ lw_privs from List.mem_append_right _ (List.mem_append_right _ (List.mem_append_right _ ((List.mem_of_getElem? h))))), rfl⟩), rfl⟩
theorem zw_0 : Jvm.Cond.initialized "TaleHolesLaw" ∈ wz := zt1 0 rfl rfl
theorem zw_1 : Jvm.Cond.initialized "TaleHoles" ∈ wz := zt1 1 rfl rfl
theorem zw_2 : Jvm.Cond.initialized "TaleHoles$Text" ∈ wz := zt1 2 rfl rfl
theorem zw_3 : Jvm.Cond.initialized "TaleHoles$State" ∈ wz := zt1 3 rfl rfl
theorem zw_4 : Jvm.Cond.initialized "TaleHoles$Words" ∈ wz := zt1 4 rfl rfl
theorem zw_5 : Jvm.Cond.initialized "TaleHoles$Tale" ∈ wz := zt1 5 rfl rfl
theorem zw_6 : Jvm.Cond.initialized "TaleHoles$History" ∈ wz := zt1 6 rfl rfl
theorem zw_7 : Jvm.Cond.initialized "java/lang/Math" ∈ wz := zt1 7 rfl rfl
theorem zw_8 : Jvm.Cond.initialized "java/lang/System" ∈ wz := zt1 8 rfl rfl
theorem zw_9 : Jvm.Cond.classLink "TaleHolesLaw" (10 : Nat) "TaleHoles" ∈ wz := zt1 9 rfl rfl
theorem zw_10 : Jvm.Cond.instantiable "TaleHoles" (5 : Nat) ∈ wz := zt1 10 rfl rfl
theorem zw_11 : Jvm.Cond.methodLink "TaleHolesLaw" (107 : Nat) ({ cls := "TaleHoles", name := "<init>", desc := "()V" } : Jvm.MethodName) ∈ wz := zt1 11 rfl rfl
theorem zw_12 : Jvm.Cond.instanceMethod ({ cls := "TaleHoles", name := "<init>", desc := "()V" } : Jvm.MethodName) ∈ wz := zt1 12 rfl rfl
theorem zw_13 : Jvm.Cond.code ({ cls := "TaleHoles", name := "<init>", desc := "()V" } : Jvm.MethodName) prog_1_method_1_code (1 : Nat) (Option.none : Option Jvm.ClassFile.FieldType) ∈ wz := zt1 13 rfl rfl
theorem zw_14 : Jvm.Cond.methodLink "TaleHoles" (3 : Nat) ({ cls := "java/lang/Object", name := "<init>", desc := "()V" } : Jvm.MethodName) ∈ wz := zt1 14 rfl rfl
theorem zw_15 : Jvm.Cond.instanceMethod ({ cls := "java/lang/Object", name := "<init>", desc := "()V" } : Jvm.MethodName) ∈ wz := zt1 15 rfl rfl
theorem zw_16 : Jvm.Cond.code ({ cls := "java/lang/Object", name := "<init>", desc := "()V" } : Jvm.MethodName) object_method_1_code (1 : Nat) (Option.none : Option Jvm.ClassFile.FieldType) ∈ wz := zt1 16 rfl rfl
theorem zw_17 : Jvm.Cond.classLink "TaleHoles" (9 : Nat) "TaleHoles$Text" ∈ wz := zt1 17 rfl rfl
theorem zw_18 : Jvm.Cond.instantiable "TaleHoles$Text" (2 : Nat) ∈ wz := zt1 18 rfl rfl
theorem zw_19 : Jvm.Cond.methodLinkNest "TaleHoles" (11 : Nat) ({ cls := "TaleHoles$Text", name := "<init>", desc := "()V" } : Jvm.MethodName) "TaleHoles" ∈ wn := zn1 19 rfl rfl
theorem zw_20 : Jvm.Cond.instanceMethod ({ cls := "TaleHoles$Text", name := "<init>", desc := "()V" } : Jvm.MethodName) ∈ wz := zt1 20 rfl rfl
theorem zw_21 : Jvm.Cond.code ({ cls := "TaleHoles$Text", name := "<init>", desc := "()V" } : Jvm.MethodName) prog_5_method_1_code (1 : Nat) (Option.none : Option Jvm.ClassFile.FieldType) ∈ wz := zt1 21 rfl rfl
theorem zw_22 : Jvm.Cond.methodLink "TaleHoles$Text" (3 : Nat) ({ cls := "java/lang/Object", name := "<init>", desc := "()V" } : Jvm.MethodName) ∈ wz := zt1 22 rfl rfl
theorem zw_23 : Jvm.Cond.fieldLink "TaleHoles$Text" (9 : Nat) "TaleHoles$Text" "signs" "[C" ∈ wz := zt1 23 rfl rfl
theorem zw_24 : Jvm.Cond.fieldLink "TaleHoles$Text" (15 : Nat) "TaleHoles$Text" "length" "I" ∈ wz := zt1 24 rfl rfl
theorem zw_25 : Jvm.Cond.fieldLinkNest "TaleHoles$Tale" (53 : Nat) "TaleHoles$Text" "length" "I" "TaleHoles" ∈ wn := zn1 25 rfl rfl
theorem zw_26 : Jvm.Cond.fieldLinkNest "TaleHoles$Words" (35 : Nat) "TaleHoles$Text" "length" "I" "TaleHoles" ∈ wn := zn1 26 rfl rfl
theorem zw_27 : Jvm.Cond.fieldLinkNest "TaleHoles" (128 : Nat) "TaleHoles$Text" "length" "I" "TaleHoles" ∈ wn := zn1 27 rfl rfl
theorem zw_33 : Jvm.Cond.arrayClass Jvm.ClassFile.FieldType.char ∈ wz := zt1 33 rfl rfl
theorem zw_34 : Jvm.Cond.classLink "TaleHoles" (16 : Nat) "TaleHoles$State" ∈ wz := zt1 34 rfl rfl
theorem zw_35 : Jvm.Cond.instantiable "TaleHoles$State" (6 : Nat) ∈ wz := zt1 35 rfl rfl
theorem zw_36 : Jvm.Cond.methodLinkNest "TaleHoles" (18 : Nat) ({ cls := "TaleHoles$State", name := "<init>", desc := "()V" } : Jvm.MethodName) "TaleHoles" ∈ wn := zn1 36 rfl rfl
theorem zw_37 : Jvm.Cond.instanceMethod ({ cls := "TaleHoles$State", name := "<init>", desc := "()V" } : Jvm.MethodName) ∈ wz := zt1 37 rfl rfl
theorem zw_38 : Jvm.Cond.code ({ cls := "TaleHoles$State", name := "<init>", desc := "()V" } : Jvm.MethodName) prog_3_method_1_code (1 : Nat) (Option.none : Option Jvm.ClassFile.FieldType) ∈ wz := zt1 38 rfl rfl
theorem zw_39 : Jvm.Cond.methodLink "TaleHoles$State" (3 : Nat) ({ cls := "java/lang/Object", name := "<init>", desc := "()V" } : Jvm.MethodName) ∈ wz := zt1 39 rfl rfl
theorem zw_40 : Jvm.Cond.classLink "TaleHoles$State" (9 : Nat) "TaleHoles$Words" ∈ wz := zt1 40 rfl rfl
theorem zw_41 : Jvm.Cond.instantiable "TaleHoles$Words" (6 : Nat) ∈ wz := zt1 41 rfl rfl
theorem zw_42 : Jvm.Cond.methodLinkNest "TaleHoles$State" (11 : Nat) ({ cls := "TaleHoles$Words", name := "<init>", desc := "()V" } : Jvm.MethodName) "TaleHoles" ∈ wn := zn1 42 rfl rfl
theorem zw_43 : Jvm.Cond.instanceMethod ({ cls := "TaleHoles$Words", name := "<init>", desc := "()V" } : Jvm.MethodName) ∈ wz := zt1 43 rfl rfl
theorem zw_44 : Jvm.Cond.code ({ cls := "TaleHoles$Words", name := "<init>", desc := "()V" } : Jvm.MethodName) prog_6_method_1_code (1 : Nat) (Option.none : Option Jvm.ClassFile.FieldType) ∈ wz := zt1 44 rfl rfl
theorem zw_45 : Jvm.Cond.methodLink "TaleHoles$Words" (3 : Nat) ({ cls := "java/lang/Object", name := "<init>", desc := "()V" } : Jvm.MethodName) ∈ wz := zt1 45 rfl rfl
theorem zw_46 : Jvm.Cond.fieldLink "TaleHoles$Words" (9 : Nat) "TaleHoles$Words" "known" "I" ∈ wz := zt1 46 rfl rfl
theorem zw_47 : Jvm.Cond.fieldLinkNest "TaleHoles" (49 : Nat) "TaleHoles$Words" "known" "I" "TaleHoles" ∈ wn := zn1 47 rfl rfl
theorem zw_48 : Jvm.Cond.fieldLinkNest "TaleHoles$State" (110 : Nat) "TaleHoles$Words" "known" "I" "TaleHoles" ∈ wn := zn1 48 rfl rfl
theorem zw_49 : Jvm.Cond.fieldLink "TaleHoles$Words" (15 : Nat) "TaleHoles$Words" "kinds" "[I" ∈ wz := zt1 49 rfl rfl
theorem zw_50 : Jvm.Cond.fieldLink "TaleHoles$Words" (19 : Nat) "TaleHoles$Words" "genders" "[I" ∈ wz := zt1 50 rfl rfl
theorem zw_51 : Jvm.Cond.fieldLink "TaleHoles$Words" (22 : Nat) "TaleHoles$Words" "stemLengths" "[I" ∈ wz := zt1 51 rfl rfl
theorem zw_52 : Jvm.Cond.fieldLink "TaleHoles$Words" (25 : Nat) "TaleHoles$Words" "stemLetters" "[I" ∈ wz := zt1 52 rfl rfl
theorem zw_53 : Jvm.Cond.fieldLink "TaleHoles$Words" (28 : Nat) "TaleHoles$Words" "endings" "[I" ∈ wz := zt1 53 rfl rfl
theorem zw_67 : Jvm.Cond.arrayClass Jvm.ClassFile.FieldType.int ∈ wz := zt1 67 rfl rfl
theorem zw_68 : Jvm.Cond.classLink "TaleHoles$State" (18 : Nat) "TaleHoles$Tale" ∈ wz := zt1 68 rfl rfl
theorem zw_69 : Jvm.Cond.instantiable "TaleHoles$Tale" (10 : Nat) ∈ wz := zt1 69 rfl rfl
theorem zw_70 : Jvm.Cond.methodLinkNest "TaleHoles$State" (20 : Nat) ({ cls := "TaleHoles$Tale", name := "<init>", desc := "()V" } : Jvm.MethodName) "TaleHoles" ∈ wn := zn1 70 rfl rfl
theorem zw_71 : Jvm.Cond.instanceMethod ({ cls := "TaleHoles$Tale", name := "<init>", desc := "()V" } : Jvm.MethodName) ∈ wz := zt1 71 rfl rfl
theorem zw_72 : Jvm.Cond.code ({ cls := "TaleHoles$Tale", name := "<init>", desc := "()V" } : Jvm.MethodName) prog_4_method_1_code (1 : Nat) (Option.none : Option Jvm.ClassFile.FieldType) ∈ wz := zt1 72 rfl rfl
theorem zw_73 : Jvm.Cond.methodLink "TaleHoles$Tale" (3 : Nat) ({ cls := "java/lang/Object", name := "<init>", desc := "()V" } : Jvm.MethodName) ∈ wz := zt1 73 rfl rfl
theorem zw_74 : Jvm.Cond.fieldLink "TaleHoles$Tale" (9 : Nat) "TaleHoles$Tale" "items" "I" ∈ wz := zt1 74 rfl rfl
theorem zw_75 : Jvm.Cond.fieldLinkNest "TaleHoles$State" (133 : Nat) "TaleHoles$Tale" "items" "I" "TaleHoles" ∈ wn := zn1 75 rfl rfl
theorem zw_76 : Jvm.Cond.fieldLinkNest "TaleHoles" (201 : Nat) "TaleHoles$Tale" "items" "I" "TaleHoles" ∈ wn := zn1 76 rfl rfl
theorem zw_77 : Jvm.Cond.fieldLink "TaleHoles$Tale" (15 : Nat) "TaleHoles$Tale" "holes" "I" ∈ wz := zt1 77 rfl rfl
theorem zw_78 : Jvm.Cond.fieldLinkNest "TaleHoles" (87 : Nat) "TaleHoles$Tale" "holes" "I" "TaleHoles" ∈ wn := zn1 78 rfl rfl
theorem zw_79 : Jvm.Cond.fieldLinkNest "TaleHoles$State" (89 : Nat) "TaleHoles$Tale" "holes" "I" "TaleHoles" ∈ wn := zn1 79 rfl rfl
theorem zw_80 : Jvm.Cond.fieldLink "TaleHoles$Tale" (18 : Nat) "TaleHoles$Tale" "itemHole" "[I" ∈ wz := zt1 80 rfl rfl
theorem zw_81 : Jvm.Cond.fieldLink "TaleHoles$Tale" (22 : Nat) "TaleHoles$Tale" "itemStart" "[I" ∈ wz := zt1 81 rfl rfl
theorem zw_82 : Jvm.Cond.fieldLink "TaleHoles$Tale" (25 : Nat) "TaleHoles$Tale" "itemLength" "[I" ∈ wz := zt1 82 rfl rfl
theorem zw_83 : Jvm.Cond.fieldLink "TaleHoles$Tale" (28 : Nat) "TaleHoles$Tale" "signs" "[I" ∈ wz := zt1 83 rfl rfl
theorem zw_84 : Jvm.Cond.fieldLink "TaleHoles$Tale" (31 : Nat) "TaleHoles$Tale" "holeKind" "[I" ∈ wz := zt1 84 rfl rfl
theorem zw_85 : Jvm.Cond.fieldLink "TaleHoles$Tale" (34 : Nat) "TaleHoles$Tale" "holeTie" "[I" ∈ wz := zt1 85 rfl rfl
theorem zw_86 : Jvm.Cond.fieldLink "TaleHoles$Tale" (37 : Nat) "TaleHoles$Tale" "holeItem" "[I" ∈ wz := zt1 86 rfl rfl
theorem zw_87 : Jvm.Cond.fieldLink "TaleHoles$Tale" (40 : Nat) "TaleHoles$Tale" "holeWord" "[I" ∈ wz := zt1 87 rfl rfl
theorem zw_88 : Jvm.Cond.fieldLinkNest "TaleHoles" (115 : Nat) "TaleHoles$Tale" "holeWord" "[I" "TaleHoles" ∈ wn := zn1 88 rfl rfl
theorem zw_89 : Jvm.Cond.fieldLinkNest "TaleHoles$State" (107 : Nat) "TaleHoles$Tale" "holeWord" "[I" "TaleHoles" ∈ wn := zn1 89 rfl rfl
theorem zw_111 : Jvm.Cond.fieldLink "TaleHoles$State" (12 : Nat) "TaleHoles$State" "words" "LTaleHoles$Words;" ∈ wz := zt1 111 rfl rfl
theorem zw_112 : Jvm.Cond.fieldLinkNest "TaleHoles" (45 : Nat) "TaleHoles$State" "words" "LTaleHoles$Words;" "TaleHoles" ∈ wn := zn1 112 rfl rfl
theorem zw_113 : Jvm.Cond.fieldLink "TaleHoles$State" (21 : Nat) "TaleHoles$State" "tale" "LTaleHoles$Tale;" ∈ wz := zt1 113 rfl rfl
theorem zw_114 : Jvm.Cond.fieldLinkNest "TaleHoles" (77 : Nat) "TaleHoles$State" "tale" "LTaleHoles$Tale;" "TaleHoles" ∈ wn := zn1 114 rfl rfl
theorem zw_115 : Jvm.Cond.fieldLink "TaleHoles$State" (25 : Nat) "TaleHoles$State" "numbers" "[I" ∈ wz := zt1 115 rfl rfl
theorem zw_116 : Jvm.Cond.fieldLinkNest "TaleHoles" (90 : Nat) "TaleHoles$State" "numbers" "[I" "TaleHoles" ∈ wn := zn1 116 rfl rfl
theorem zw_117 : Jvm.Cond.fieldLink "TaleHoles$State" (29 : Nat) "TaleHoles$State" "tenses" "[I" ∈ wz := zt1 117 rfl rfl
theorem zw_118 : Jvm.Cond.fieldLinkNest "TaleHoles" (94 : Nat) "TaleHoles$State" "tenses" "[I" "TaleHoles" ∈ wn := zn1 118 rfl rfl
theorem zw_119 : Jvm.Cond.fieldLink "TaleHoles$State" (32 : Nat) "TaleHoles$State" "once" "I" ∈ wz := zt1 119 rfl rfl
theorem zw_120 : Jvm.Cond.fieldLinkNest "TaleHoles" (125 : Nat) "TaleHoles$State" "once" "I" "TaleHoles" ∈ wn := zn1 120 rfl rfl
theorem zw_121 : Jvm.Cond.fieldLink "TaleHoles$State" (36 : Nat) "TaleHoles$State" "fillings" "I" ∈ wz := zt1 121 rfl rfl
theorem zw_122 : Jvm.Cond.fieldLinkNest "TaleHoles" (213 : Nat) "TaleHoles$State" "fillings" "I" "TaleHoles" ∈ wn := zn1 122 rfl rfl
theorem zw_136 : Jvm.Cond.classLink "TaleHoles" (26 : Nat) "TaleHoles$History" ∈ wz := zt1 136 rfl rfl
theorem zw_137 : Jvm.Cond.instantiable "TaleHoles$History" (2 : Nat) ∈ wz := zt1 137 rfl rfl
theorem zw_138 : Jvm.Cond.methodLinkNest "TaleHoles" (28 : Nat) ({ cls := "TaleHoles$History", name := "<init>", desc := "()V" } : Jvm.MethodName) "TaleHoles" ∈ wn := zn1 138 rfl rfl
theorem zw_139 : Jvm.Cond.instanceMethod ({ cls := "TaleHoles$History", name := "<init>", desc := "()V" } : Jvm.MethodName) ∈ wz := zt1 139 rfl rfl
theorem zw_140 : Jvm.Cond.code ({ cls := "TaleHoles$History", name := "<init>", desc := "()V" } : Jvm.MethodName) prog_2_method_1_code (2 : Nat) (Option.none : Option Jvm.ClassFile.FieldType) ∈ wz := zt1 140 rfl rfl
theorem zw_141 : Jvm.Cond.methodLink "TaleHoles$History" (3 : Nat) ({ cls := "java/lang/Object", name := "<init>", desc := "()V" } : Jvm.MethodName) ∈ wz := zt1 141 rfl rfl
theorem zw_142 : Jvm.Cond.classLink "TaleHoles$History" (9 : Nat) "TaleHoles$State" ∈ wz := zt1 142 rfl rfl
theorem zw_144 : Jvm.Cond.methodLinkNest "TaleHoles$History" (21 : Nat) ({ cls := "TaleHoles$State", name := "<init>", desc := "()V" } : Jvm.MethodName) "TaleHoles" ∈ wn := zn1 144 rfl rfl
theorem zw_145 : Jvm.Cond.fieldLink "TaleHoles$History" (11 : Nat) "TaleHoles$History" "states" "[LTaleHoles$State;" ∈ wz := zt1 145 rfl rfl
theorem zw_146 : Jvm.Cond.fieldLink "TaleHoles$History" (17 : Nat) "TaleHoles$History" "size" "I" ∈ wz := zt1 146 rfl rfl
theorem zw_147 : Jvm.Cond.fieldLinkNest "TaleHoles" (135 : Nat) "TaleHoles$History" "size" "I" "TaleHoles" ∈ wn := zn1 147 rfl rfl
theorem zw_153 : Jvm.Cond.fieldLink "TaleHoles" (12 : Nat) "TaleHoles" "text" "LTaleHoles$Text;" ∈ wz := zt1 153 rfl rfl
theorem zw_154 : Jvm.Cond.fieldLink "TaleHoles" (19 : Nat) "TaleHoles" "now" "LTaleHoles$State;" ∈ wz := zt1 154 rfl rfl
theorem zw_155 : Jvm.Cond.fieldLink "TaleHoles" (23 : Nat) "TaleHoles" "snapshot" "LTaleHoles$State;" ∈ wz := zt1 155 rfl rfl
theorem zw_156 : Jvm.Cond.fieldLink "TaleHoles" (29 : Nat) "TaleHoles" "history" "LTaleHoles$History;" ∈ wz := zt1 156 rfl rfl
theorem zw_157 : Jvm.Cond.fieldLink "TaleHoles" (33 : Nat) "TaleHoles" "snapshotTaken" "Z" ∈ wz := zt1 157 rfl rfl
theorem zw_169 : Jvm.Cond.methodLink "TaleHolesLaw" (108 : Nat) ({ cls := "TaleHolesLaw", name := "cell", desc := "([II)I" } : Jvm.MethodName) ∈ wz := zt1 169 rfl rfl
theorem zw_170 : Jvm.Cond.static ({ cls := "TaleHolesLaw", name := "cell", desc := "([II)I" } : Jvm.MethodName) ∈ wz := zt1 170 rfl rfl
theorem zw_171 : Jvm.Cond.code ({ cls := "TaleHolesLaw", name := "cell", desc := "([II)I" } : Jvm.MethodName) method_2_code (2 : Nat) (Option.some Jvm.ClassFile.FieldType.int) ∈ wz := zt1 171 rfl rfl
theorem zw_172 : Jvm.Cond.constant "TaleHolesLaw" (7 : Nat) (2144592325 : Int32) ∈ wz := zt1 172 rfl rfl
theorem zw_173 : Jvm.Cond.methodLink "TaleHolesLaw" (82 : Nat) ({ cls := "TaleHolesLaw", name := "isRead", desc := "(LTaleHoles;LTaleHoles;II)Z" } : Jvm.MethodName) ∈ wz := zt1 173 rfl rfl
theorem zw_174 : Jvm.Cond.static ({ cls := "TaleHolesLaw", name := "isRead", desc := "(LTaleHoles;LTaleHoles;II)Z" } : Jvm.MethodName) ∈ wz := zt1 174 rfl rfl
theorem zw_175 : Jvm.Cond.code ({ cls := "TaleHolesLaw", name := "isRead", desc := "(LTaleHoles;LTaleHoles;II)Z" } : Jvm.MethodName) method_7_code (11 : Nat) (Option.some Jvm.ClassFile.FieldType.boolean) ∈ wz := zt1 175 rfl rfl
theorem zw_176 : Jvm.Cond.methodLink "TaleHolesLaw" (15 : Nat) ({ cls := "TaleHoles", name := "clearText", desc := "()I" } : Jvm.MethodName) ∈ wz := zt1 176 rfl rfl
theorem zw_177 : Jvm.Cond.instanceMethod ({ cls := "TaleHoles", name := "clearText", desc := "()I" } : Jvm.MethodName) ∈ wz := zt1 177 rfl rfl
theorem zw_178 : Jvm.Cond.selects "TaleHoles" ({ cls := "TaleHoles", name := "clearText", desc := "()I" } : Jvm.MethodName) ({ cls := "TaleHoles", name := "clearText", desc := "()I" } : Jvm.MethodName) ∈ wz := zt1 178 rfl rfl
theorem zw_179 : Jvm.Cond.code ({ cls := "TaleHoles", name := "clearText", desc := "()I" } : Jvm.MethodName) prog_1_method_11_code (2 : Nat) (Option.some Jvm.ClassFile.FieldType.int) ∈ wz := zt1 179 rfl rfl
theorem zw_180 : Jvm.Cond.methodLink "TaleHolesLaw" (19 : Nat) ({ cls := "TaleHolesLaw", name := "up", desc := "(II)I" } : Jvm.MethodName) ∈ wz := zt1 180 rfl rfl
theorem zw_181 : Jvm.Cond.static ({ cls := "TaleHolesLaw", name := "up", desc := "(II)I" } : Jvm.MethodName) ∈ wz := zt1 181 rfl rfl
theorem zw_182 : Jvm.Cond.code ({ cls := "TaleHolesLaw", name := "up", desc := "(II)I" } : Jvm.MethodName) method_3_code (2 : Nat) (Option.some Jvm.ClassFile.FieldType.int) ∈ wz := zt1 182 rfl rfl
theorem zw_183 : Jvm.Cond.constant "TaleHolesLaw" (8 : Nat) (2147483647 : Int32) ∈ wz := zt1 183 rfl rfl
theorem zw_184 : Jvm.Cond.methodLink "TaleHolesLaw" (9 : Nat) ({ cls := "TaleHoles", name := "type", desc := "(C)I" } : Jvm.MethodName) ∈ wz := zt1 184 rfl rfl
theorem zw_185 : Jvm.Cond.instanceMethod ({ cls := "TaleHoles", name := "type", desc := "(C)I" } : Jvm.MethodName) ∈ wz := zt1 185 rfl rfl
theorem zw_186 : Jvm.Cond.selects "TaleHoles" ({ cls := "TaleHoles", name := "type", desc := "(C)I" } : Jvm.MethodName) ({ cls := "TaleHoles", name := "type", desc := "(C)I" } : Jvm.MethodName) ∈ wz := zt1 186 rfl rfl
theorem zw_187 : Jvm.Cond.code ({ cls := "TaleHoles", name := "type", desc := "(C)I" } : Jvm.MethodName) prog_1_method_10_code (2 : Nat) (Option.some Jvm.ClassFile.FieldType.int) ∈ wz := zt1 187 rfl rfl
theorem zw_188 : Jvm.Cond.methodLinkNest "TaleHoles" (131 : Nat) ({ cls := "TaleHoles$Text", name := "append", desc := "(C)V" } : Jvm.MethodName) "TaleHoles" ∈ wn := zn1 188 rfl rfl
theorem zw_190 : Jvm.Cond.instanceMethod ({ cls := "TaleHoles$Text", name := "append", desc := "(C)V" } : Jvm.MethodName) ∈ wz := zt1 190 rfl rfl
theorem zw_191 : Jvm.Cond.code ({ cls := "TaleHoles$Text", name := "append", desc := "(C)V" } : Jvm.MethodName) prog_5_method_2_code (2 : Nat) (Option.none : Option Jvm.ClassFile.FieldType) ∈ wz := zt1 191 rfl rfl
theorem zw_192 : Jvm.Cond.methodLink "TaleHolesLaw" (25 : Nat) ({ cls := "TaleHolesLaw", name := "both", desc := "(LTaleHoles;LTaleHoles;I)Z" } : Jvm.MethodName) ∈ wz := zt1 192 rfl rfl
theorem zw_193 : Jvm.Cond.static ({ cls := "TaleHolesLaw", name := "both", desc := "(LTaleHoles;LTaleHoles;I)Z" } : Jvm.MethodName) ∈ wz := zt1 193 rfl rfl
theorem zw_194 : Jvm.Cond.code ({ cls := "TaleHolesLaw", name := "both", desc := "(LTaleHoles;LTaleHoles;I)Z" } : Jvm.MethodName) method_5_code (3 : Nat) (Option.some Jvm.ClassFile.FieldType.boolean) ∈ wz := zt1 194 rfl rfl
theorem zw_195 : Jvm.Cond.methodLink "TaleHolesLaw" (39 : Nat) ({ cls := "TaleHoles", name := "fault", desc := "(Z)I" } : Jvm.MethodName) ∈ wz := zt1 195 rfl rfl
theorem zw_196 : Jvm.Cond.instanceMethod ({ cls := "TaleHoles", name := "fault", desc := "(Z)I" } : Jvm.MethodName) ∈ wz := zt1 196 rfl rfl
theorem zw_197 : Jvm.Cond.selects "TaleHoles" ({ cls := "TaleHoles", name := "fault", desc := "(Z)I" } : Jvm.MethodName) ({ cls := "TaleHoles", name := "fault", desc := "(Z)I" } : Jvm.MethodName) ∈ wz := zt1 197 rfl rfl
theorem zw_198 : Jvm.Cond.code ({ cls := "TaleHoles", name := "fault", desc := "(Z)I" } : Jvm.MethodName) prog_1_method_12_code (3 : Nat) (Option.some Jvm.ClassFile.FieldType.int) ∈ wz := zt1 198 rfl rfl
theorem zw_199 : Jvm.Cond.methodLinkNest "TaleHoles" (74 : Nat) ({ cls := "TaleHoles$Text", name := "faultAsTale", desc := "()I" } : Jvm.MethodName) "TaleHoles" ∈ wn := zn1 199 rfl rfl
theorem zw_201 : Jvm.Cond.instanceMethod ({ cls := "TaleHoles$Text", name := "faultAsTale", desc := "()I" } : Jvm.MethodName) ∈ wz := zt1 201 rfl rfl
theorem zw_202 : Jvm.Cond.code ({ cls := "TaleHoles$Text", name := "faultAsTale", desc := "()I" } : Jvm.MethodName) prog_5_method_12_code (5 : Nat) (Option.some Jvm.ClassFile.FieldType.int) ∈ wz := zt1 202 rfl rfl
theorem zw_203 : Jvm.Cond.methodLink "TaleHoles$Text" (38 : Nat) ({ cls := "TaleHoles$Text", name := "faultInItem", desc := "(I)I" } : Jvm.MethodName) ∈ wz := zt1 203 rfl rfl
theorem zw_205 : Jvm.Cond.instanceMethod ({ cls := "TaleHoles$Text", name := "faultInItem", desc := "(I)I" } : Jvm.MethodName) ∈ wz := zt1 205 rfl rfl
theorem zw_206 : Jvm.Cond.code ({ cls := "TaleHoles$Text", name := "faultInItem", desc := "(I)I" } : Jvm.MethodName) prog_5_method_13_code (2 : Nat) (Option.some Jvm.ClassFile.FieldType.int) ∈ wz := zt1 206 rfl rfl
theorem zw_207 : Jvm.Cond.methodLink "TaleHoles$Text" (31 : Nat) ({ cls := "TaleHoles$Text", name := "hasHoleAt", desc := "(I)Z" } : Jvm.MethodName) ∈ wz := zt1 207 rfl rfl
theorem zw_209 : Jvm.Cond.instanceMethod ({ cls := "TaleHoles$Text", name := "hasHoleAt", desc := "(I)Z" } : Jvm.MethodName) ∈ wz := zt1 209 rfl rfl
theorem zw_210 : Jvm.Cond.code ({ cls := "TaleHoles$Text", name := "hasHoleAt", desc := "(I)Z" } : Jvm.MethodName) prog_5_method_6_code (2 : Nat) (Option.some Jvm.ClassFile.FieldType.boolean) ∈ wz := zt1 210 rfl rfl
theorem zw_211 : Jvm.Cond.methodLink "TaleHoles$Text" (23 : Nat) ({ cls := "TaleHoles$Text", name := "signAt", desc := "(I)I" } : Jvm.MethodName) ∈ wz := zt1 211 rfl rfl
theorem zw_213 : Jvm.Cond.instanceMethod ({ cls := "TaleHoles$Text", name := "signAt", desc := "(I)I" } : Jvm.MethodName) ∈ wz := zt1 213 rfl rfl
theorem zw_214 : Jvm.Cond.code ({ cls := "TaleHoles$Text", name := "signAt", desc := "(I)I" } : Jvm.MethodName) prog_5_method_3_code (2 : Nat) (Option.some Jvm.ClassFile.FieldType.int) ∈ wz := zt1 214 rfl rfl
theorem zw_215 : Jvm.Cond.methodLinkNest "TaleHoles$Text" (19 : Nat) ({ cls := "TaleHoles", name := "isBelow", desc := "(II)Z" } : Jvm.MethodName) "TaleHoles" ∈ wn := zn1 215 rfl rfl
theorem zw_216 : Jvm.Cond.static ({ cls := "TaleHoles", name := "isBelow", desc := "(II)Z" } : Jvm.MethodName) ∈ wz := zt1 216 rfl rfl
theorem zw_217 : Jvm.Cond.code ({ cls := "TaleHoles", name := "isBelow", desc := "(II)Z" } : Jvm.MethodName) prog_1_method_25_code (2 : Nat) (Option.some Jvm.ClassFile.FieldType.boolean) ∈ wz := zt1 217 rfl rfl
theorem zw_218 : Jvm.Cond.methodLink "TaleHoles$Text" (27 : Nat) ({ cls := "TaleHoles$Text", name := "hasLetterAt", desc := "(I)Z" } : Jvm.MethodName) ∈ wz := zt1 218 rfl rfl
theorem zw_220 : Jvm.Cond.instanceMethod ({ cls := "TaleHoles$Text", name := "hasLetterAt", desc := "(I)Z" } : Jvm.MethodName) ∈ wz := zt1 220 rfl rfl
theorem zw_221 : Jvm.Cond.code ({ cls := "TaleHoles$Text", name := "hasLetterAt", desc := "(I)Z" } : Jvm.MethodName) prog_5_method_4_code (3 : Nat) (Option.some Jvm.ClassFile.FieldType.boolean) ∈ wz := zt1 221 rfl rfl
theorem zw_222 : Jvm.Cond.methodLink "TaleHoles$Text" (44 : Nat) ({ cls := "TaleHoles$Text", name := "kindAt", desc := "(I)I" } : Jvm.MethodName) ∈ wz := zt1 222 rfl rfl
theorem zw_224 : Jvm.Cond.instanceMethod ({ cls := "TaleHoles$Text", name := "kindAt", desc := "(I)I" } : Jvm.MethodName) ∈ wz := zt1 224 rfl rfl
theorem zw_225 : Jvm.Cond.code ({ cls := "TaleHoles$Text", name := "kindAt", desc := "(I)I" } : Jvm.MethodName) prog_5_method_7_code (2 : Nat) (Option.some Jvm.ClassFile.FieldType.int) ∈ wz := zt1 225 rfl rfl
theorem zw_226 : Jvm.Cond.methodLink "TaleHoles$Text" (47 : Nat) ({ cls := "TaleHoles$Text", name := "digitAt", desc := "(I)I" } : Jvm.MethodName) ∈ wz := zt1 226 rfl rfl
theorem zw_228 : Jvm.Cond.instanceMethod ({ cls := "TaleHoles$Text", name := "digitAt", desc := "(I)I" } : Jvm.MethodName) ∈ wz := zt1 228 rfl rfl
theorem zw_229 : Jvm.Cond.code ({ cls := "TaleHoles$Text", name := "digitAt", desc := "(I)I" } : Jvm.MethodName) prog_5_method_8_code (3 : Nat) (Option.some Jvm.ClassFile.FieldType.int) ∈ wz := zt1 229 rfl rfl
theorem zw_230 : Jvm.Cond.methodLink "TaleHoles$Text" (41 : Nat) ({ cls := "TaleHoles$Text", name := "endOfItem", desc := "(I)I" } : Jvm.MethodName) ∈ wz := zt1 230 rfl rfl
theorem zw_232 : Jvm.Cond.instanceMethod ({ cls := "TaleHoles$Text", name := "endOfItem", desc := "(I)I" } : Jvm.MethodName) ∈ wz := zt1 232 rfl rfl
theorem zw_233 : Jvm.Cond.code ({ cls := "TaleHoles$Text", name := "endOfItem", desc := "(I)I" } : Jvm.MethodName) prog_5_method_10_code (2 : Nat) (Option.some Jvm.ClassFile.FieldType.int) ∈ wz := zt1 233 rfl rfl
theorem zw_234 : Jvm.Cond.methodLink "TaleHoles$Text" (34 : Nat) ({ cls := "TaleHoles$Text", name := "endOfLetters", desc := "(II)I" } : Jvm.MethodName) ∈ wz := zt1 234 rfl rfl
theorem zw_236 : Jvm.Cond.instanceMethod ({ cls := "TaleHoles$Text", name := "endOfLetters", desc := "(II)I" } : Jvm.MethodName) ∈ wz := zt1 236 rfl rfl
theorem zw_237 : Jvm.Cond.code ({ cls := "TaleHoles$Text", name := "endOfLetters", desc := "(II)I" } : Jvm.MethodName) prog_5_method_9_code (4 : Nat) (Option.some Jvm.ClassFile.FieldType.int) ∈ wz := zt1 237 rfl rfl
theorem zw_238 : Jvm.Cond.methodLinkNest "TaleHoles" (41 : Nat) ({ cls := "TaleHoles$Text", name := "faultAsStem", desc := "()I" } : Jvm.MethodName) "TaleHoles" ∈ wn := zn1 238 rfl rfl
theorem zw_240 : Jvm.Cond.instanceMethod ({ cls := "TaleHoles$Text", name := "faultAsStem", desc := "()I" } : Jvm.MethodName) ∈ wz := zt2 0 rfl rfl
theorem zw_241 : Jvm.Cond.code ({ cls := "TaleHoles$Text", name := "faultAsStem", desc := "()I" } : Jvm.MethodName) prog_5_method_11_code (2 : Nat) (Option.some Jvm.ClassFile.FieldType.int) ∈ wz := zt2 1 rfl rfl
theorem zw_242 : Jvm.Cond.methodLink "TaleHolesLaw" (43 : Nat) ({ cls := "TaleHoles", name := "readTale", desc := "()I" } : Jvm.MethodName) ∈ wz := zt2 2 rfl rfl
theorem zw_243 : Jvm.Cond.instanceMethod ({ cls := "TaleHoles", name := "readTale", desc := "()I" } : Jvm.MethodName) ∈ wz := zt2 3 rfl rfl
theorem zw_244 : Jvm.Cond.selects "TaleHoles" ({ cls := "TaleHoles", name := "readTale", desc := "()I" } : Jvm.MethodName) ({ cls := "TaleHoles", name := "readTale", desc := "()I" } : Jvm.MethodName) ∈ wz := zt2 4 rfl rfl
theorem zw_245 : Jvm.Cond.code ({ cls := "TaleHoles", name := "readTale", desc := "()I" } : Jvm.MethodName) prog_1_method_4_code (2 : Nat) (Option.some Jvm.ClassFile.FieldType.int) ∈ wz := zt2 5 rfl rfl
theorem zw_246 : Jvm.Cond.methodLinkNest "TaleHoles" (55 : Nat) ({ cls := "TaleHoles$History", name := "record", desc := "(LTaleHoles$State;)V" } : Jvm.MethodName) "TaleHoles" ∈ wn := zn2 6 rfl rfl
theorem zw_248 : Jvm.Cond.instanceMethod ({ cls := "TaleHoles$History", name := "record", desc := "(LTaleHoles$State;)V" } : Jvm.MethodName) ∈ wz := zt2 8 rfl rfl
theorem zw_249 : Jvm.Cond.code ({ cls := "TaleHoles$History", name := "record", desc := "(LTaleHoles$State;)V" } : Jvm.MethodName) prog_2_method_2_code (3 : Nat) (Option.none : Option Jvm.ClassFile.FieldType) ∈ wz := zt2 9 rfl rfl
theorem zw_250 : Jvm.Cond.methodLink "TaleHoles$History" (22 : Nat) ({ cls := "TaleHoles$History", name := "dropOldest", desc := "()V" } : Jvm.MethodName) ∈ wz := zt2 10 rfl rfl
theorem zw_252 : Jvm.Cond.instanceMethod ({ cls := "TaleHoles$History", name := "dropOldest", desc := "()V" } : Jvm.MethodName) ∈ wz := zt2 12 rfl rfl
theorem zw_253 : Jvm.Cond.code ({ cls := "TaleHoles$History", name := "dropOldest", desc := "()V" } : Jvm.MethodName) prog_2_method_3_code (3 : Nat) (Option.none : Option Jvm.ClassFile.FieldType) ∈ wz := zt2 13 rfl rfl
theorem zw_254 : Jvm.Cond.methodLink "TaleHoles$History" (25 : Nat) ({ cls := "TaleHoles$History", name := "rowAt", desc := "(I)LTaleHoles$State;" } : Jvm.MethodName) ∈ wz := zt2 14 rfl rfl
theorem zw_256 : Jvm.Cond.instanceMethod ({ cls := "TaleHoles$History", name := "rowAt", desc := "(I)LTaleHoles$State;" } : Jvm.MethodName) ∈ wz := zt2 16 rfl rfl
theorem zw_257 : Jvm.Cond.code ({ cls := "TaleHoles$History", name := "rowAt", desc := "(I)LTaleHoles$State;" } : Jvm.MethodName) prog_2_method_5_code (2 : Nat) (Option.some (Jvm.ClassFile.FieldType.object "TaleHoles$State")) ∈ wz := zt2 17 rfl rfl
theorem zw_258 : Jvm.Cond.methodLinkNest "TaleHoles$History" (33 : Nat) ({ cls := "TaleHoles", name := "isBelow", desc := "(II)Z" } : Jvm.MethodName) "TaleHoles" ∈ wn := zn2 18 rfl rfl
theorem zw_259 : Jvm.Cond.methodLinkNest "TaleHoles$History" (29 : Nat) ({ cls := "TaleHoles$State", name := "copyFrom", desc := "(LTaleHoles$State;)V" } : Jvm.MethodName) "TaleHoles" ∈ wn := zn2 19 rfl rfl
theorem zw_261 : Jvm.Cond.instanceMethod ({ cls := "TaleHoles$State", name := "copyFrom", desc := "(LTaleHoles$State;)V" } : Jvm.MethodName) ∈ wz := zt2 21 rfl rfl
theorem zw_262 : Jvm.Cond.code ({ cls := "TaleHoles$State", name := "copyFrom", desc := "(LTaleHoles$State;)V" } : Jvm.MethodName) prog_3_method_2_code (2 : Nat) (Option.none : Option Jvm.ClassFile.FieldType) ∈ wz := zt2 22 rfl rfl
theorem zw_263 : Jvm.Cond.methodLinkNest "TaleHoles$State" (39 : Nat) ({ cls := "TaleHoles$Words", name := "copyWordsFrom", desc := "(LTaleHoles$Words;)V" } : Jvm.MethodName) "TaleHoles" ∈ wn := zn2 23 rfl rfl
theorem zw_265 : Jvm.Cond.instanceMethod ({ cls := "TaleHoles$Words", name := "copyWordsFrom", desc := "(LTaleHoles$Words;)V" } : Jvm.MethodName) ∈ wz := zt2 25 rfl rfl
theorem zw_266 : Jvm.Cond.code ({ cls := "TaleHoles$Words", name := "copyWordsFrom", desc := "(LTaleHoles$Words;)V" } : Jvm.MethodName) prog_6_method_2_code (2 : Nat) (Option.none : Option Jvm.ClassFile.FieldType) ∈ wz := zt2 26 rfl rfl
theorem zw_267 : Jvm.Cond.methodLinkNest "TaleHoles$Words" (31 : Nat) ({ cls := "TaleHoles", name := "copyRow", desc := "([I[I)V" } : Jvm.MethodName) "TaleHoles" ∈ wn := zn2 27 rfl rfl
theorem zw_268 : Jvm.Cond.static ({ cls := "TaleHoles", name := "copyRow", desc := "([I[I)V" } : Jvm.MethodName) ∈ wz := zt2 28 rfl rfl
theorem zw_269 : Jvm.Cond.code ({ cls := "TaleHoles", name := "copyRow", desc := "([I[I)V" } : Jvm.MethodName) prog_1_method_28_code (2 : Nat) (Option.none : Option Jvm.ClassFile.FieldType) ∈ wz := zt2 29 rfl rfl
theorem zw_270 : Jvm.Cond.methodLink "TaleHoles" (221 : Nat) ({ cls := "java/lang/Math", name := "min", desc := "(II)I" } : Jvm.MethodName) ∈ wz := zt2 30 rfl rfl
theorem zw_271 : Jvm.Cond.static ({ cls := "java/lang/Math", name := "min", desc := "(II)I" } : Jvm.MethodName) ∈ wz := zt2 31 rfl rfl
theorem zw_272 : Jvm.Cond.code ({ cls := "java/lang/Math", name := "min", desc := "(II)I" } : Jvm.MethodName) prog_9_method_69_code (2 : Nat) (Option.some Jvm.ClassFile.FieldType.int) ∈ wz := zt2 32 rfl rfl
theorem zw_273 : Jvm.Cond.methodLink "TaleHoles" (224 : Nat) ({ cls := "java/lang/System", name := "arraycopy", desc := "(Ljava/lang/Object;ILjava/lang/Object;II)V" } : Jvm.MethodName) ∈ wz := zt2 33 rfl rfl
theorem zw_274 : Jvm.Cond.static ({ cls := "java/lang/System", name := "arraycopy", desc := "(Ljava/lang/Object;ILjava/lang/Object;II)V" } : Jvm.MethodName) ∈ wz := zt2 34 rfl rfl
theorem zw_275 : Jvm.Cond.native ({ cls := "java/lang/System", name := "arraycopy", desc := "(Ljava/lang/Object;ILjava/lang/Object;II)V" } : Jvm.MethodName) ∈ wz := zt2 35 rfl rfl
theorem zw_276 : Jvm.Cond.methodLinkNest "TaleHoles$State" (43 : Nat) ({ cls := "TaleHoles$Tale", name := "copyTaleFrom", desc := "(LTaleHoles$Tale;)V" } : Jvm.MethodName) "TaleHoles" ∈ wn := zn2 36 rfl rfl
theorem zw_278 : Jvm.Cond.instanceMethod ({ cls := "TaleHoles$Tale", name := "copyTaleFrom", desc := "(LTaleHoles$Tale;)V" } : Jvm.MethodName) ∈ wz := zt2 38 rfl rfl
theorem zw_279 : Jvm.Cond.code ({ cls := "TaleHoles$Tale", name := "copyTaleFrom", desc := "(LTaleHoles$Tale;)V" } : Jvm.MethodName) prog_4_method_2_code (2 : Nat) (Option.none : Option Jvm.ClassFile.FieldType) ∈ wz := zt2 39 rfl rfl
theorem zw_280 : Jvm.Cond.methodLinkNest "TaleHoles$Tale" (43 : Nat) ({ cls := "TaleHoles", name := "copyRow", desc := "([I[I)V" } : Jvm.MethodName) "TaleHoles" ∈ wn := zn2 40 rfl rfl
theorem zw_281 : Jvm.Cond.methodLinkNest "TaleHoles$State" (47 : Nat) ({ cls := "TaleHoles", name := "copyRow", desc := "([I[I)V" } : Jvm.MethodName) "TaleHoles" ∈ wn := zn2 41 rfl rfl
theorem zw_282 : Jvm.Cond.methodLinkNest "TaleHoles" (81 : Nat) ({ cls := "TaleHoles$Tale", name := "takeFrom", desc := "(LTaleHoles$Text;)V" } : Jvm.MethodName) "TaleHoles" ∈ wn := zn2 42 rfl rfl
theorem zw_284 : Jvm.Cond.instanceMethod ({ cls := "TaleHoles$Tale", name := "takeFrom", desc := "(LTaleHoles$Text;)V" } : Jvm.MethodName) ∈ wz := zt2 44 rfl rfl
theorem zw_285 : Jvm.Cond.code ({ cls := "TaleHoles$Tale", name := "takeFrom", desc := "(LTaleHoles$Text;)V" } : Jvm.MethodName) prog_4_method_3_code (5 : Nat) (Option.none : Option Jvm.ClassFile.FieldType) ∈ wz := zt2 45 rfl rfl
theorem zw_286 : Jvm.Cond.methodLinkNest "TaleHoles$Tale" (47 : Nat) ({ cls := "TaleHoles$Text", name := "signAt", desc := "(I)I" } : Jvm.MethodName) "TaleHoles" ∈ wn := zn2 46 rfl rfl
theorem zw_287 : Jvm.Cond.methodLinkNest "TaleHoles$Tale" (56 : Nat) ({ cls := "TaleHoles$Text", name := "endOfItem", desc := "(I)I" } : Jvm.MethodName) "TaleHoles" ∈ wn := zn2 47 rfl rfl
theorem zw_288 : Jvm.Cond.methodLinkNest "TaleHoles$Tale" (59 : Nat) ({ cls := "TaleHoles$Text", name := "hasHoleAt", desc := "(I)Z" } : Jvm.MethodName) "TaleHoles" ∈ wn := zn2 48 rfl rfl
theorem zw_289 : Jvm.Cond.methodLinkNest "TaleHoles$Tale" (63 : Nat) ({ cls := "TaleHoles$Text", name := "kindAt", desc := "(I)I" } : Jvm.MethodName) "TaleHoles" ∈ wn := zn2 49 rfl rfl
theorem zw_290 : Jvm.Cond.methodLinkNest "TaleHoles$Tale" (66 : Nat) ({ cls := "TaleHoles$Text", name := "digitAt", desc := "(I)I" } : Jvm.MethodName) "TaleHoles" ∈ wn := zn2 50 rfl rfl
theorem zw_291 : Jvm.Cond.methodLink "TaleHoles$Tale" (69 : Nat) ({ cls := "TaleHoles$Tale", name := "addHole", desc := "(III)V" } : Jvm.MethodName) ∈ wz := zt2 51 rfl rfl
theorem zw_293 : Jvm.Cond.instanceMethod ({ cls := "TaleHoles$Tale", name := "addHole", desc := "(III)V" } : Jvm.MethodName) ∈ wz := zt2 53 rfl rfl
theorem zw_294 : Jvm.Cond.code ({ cls := "TaleHoles$Tale", name := "addHole", desc := "(III)V" } : Jvm.MethodName) prog_4_method_4_code (4 : Nat) (Option.none : Option Jvm.ClassFile.FieldType) ∈ wz := zt2 54 rfl rfl
theorem zw_295 : Jvm.Cond.methodLinkNest "TaleHoles$Tale" (73 : Nat) ({ cls := "TaleHoles", name := "isBelow", desc := "(II)Z" } : Jvm.MethodName) "TaleHoles" ∈ wn := zn2 55 rfl rfl
theorem zw_296 : Jvm.Cond.methodLink "TaleHolesLaw" (29 : Nat) ({ cls := "TaleHoles", name := "count", desc := "(I)I" } : Jvm.MethodName) ∈ wz := zt2 56 rfl rfl
theorem zw_297 : Jvm.Cond.instanceMethod ({ cls := "TaleHoles", name := "count", desc := "(I)I" } : Jvm.MethodName) ∈ wz := zt2 57 rfl rfl
theorem zw_298 : Jvm.Cond.selects "TaleHoles" ({ cls := "TaleHoles", name := "count", desc := "(I)I" } : Jvm.MethodName) ({ cls := "TaleHoles", name := "count", desc := "(I)I" } : Jvm.MethodName) ∈ wz := zt2 58 rfl rfl
theorem zw_299 : Jvm.Cond.code ({ cls := "TaleHoles", name := "count", desc := "(I)I" } : Jvm.MethodName) prog_1_method_24_code (2 : Nat) (Option.some Jvm.ClassFile.FieldType.int) ∈ wz := zt2 59 rfl rfl
theorem zw_300 : Jvm.Cond.methodLinkNest "TaleHoles" (153 : Nat) ({ cls := "TaleHoles$Tale", name := "holesWith", desc := "(I)I" } : Jvm.MethodName) "TaleHoles" ∈ wn := zn2 60 rfl rfl
theorem zw_302 : Jvm.Cond.instanceMethod ({ cls := "TaleHoles$Tale", name := "holesWith", desc := "(I)I" } : Jvm.MethodName) ∈ wz := zt2 62 rfl rfl
theorem zw_303 : Jvm.Cond.code ({ cls := "TaleHoles$Tale", name := "holesWith", desc := "(I)I" } : Jvm.MethodName) prog_4_method_15_code (4 : Nat) (Option.some Jvm.ClassFile.FieldType.int) ∈ wz := zt2 63 rfl rfl
theorem zw_304 : Jvm.Cond.methodLink "TaleHoles$Tale" (80 : Nat) ({ cls := "TaleHoles$Tale", name := "wordIn", desc := "(I)I" } : Jvm.MethodName) ∈ wz := zt2 64 rfl rfl
theorem zw_306 : Jvm.Cond.instanceMethod ({ cls := "TaleHoles$Tale", name := "wordIn", desc := "(I)I" } : Jvm.MethodName) ∈ wz := zt2 66 rfl rfl
theorem zw_307 : Jvm.Cond.code ({ cls := "TaleHoles$Tale", name := "wordIn", desc := "(I)I" } : Jvm.MethodName) prog_4_method_10_code (2 : Nat) (Option.some Jvm.ClassFile.FieldType.int) ∈ wz := zt2 67 rfl rfl
theorem zw_308 : Jvm.Cond.methodLink "TaleHoles$Tale" (77 : Nat) ({ cls := "TaleHoles$Tale", name := "hasHole", desc := "(I)Z" } : Jvm.MethodName) ∈ wz := zt2 68 rfl rfl
theorem zw_310 : Jvm.Cond.instanceMethod ({ cls := "TaleHoles$Tale", name := "hasHole", desc := "(I)Z" } : Jvm.MethodName) ∈ wz := zt2 70 rfl rfl
theorem zw_311 : Jvm.Cond.code ({ cls := "TaleHoles$Tale", name := "hasHole", desc := "(I)Z" } : Jvm.MethodName) prog_4_method_6_code (2 : Nat) (Option.some Jvm.ClassFile.FieldType.boolean) ∈ wz := zt2 71 rfl rfl
theorem zw_312 : Jvm.Cond.methodLinkNest "TaleHoles" (204 : Nat) ({ cls := "TaleHoles$State", name := "lengthTold", desc := "()I" } : Jvm.MethodName) "TaleHoles" ∈ wn := zn2 72 rfl rfl
theorem zw_314 : Jvm.Cond.instanceMethod ({ cls := "TaleHoles$State", name := "lengthTold", desc := "()I" } : Jvm.MethodName) ∈ wz := zt2 74 rfl rfl
theorem zw_315 : Jvm.Cond.code ({ cls := "TaleHoles$State", name := "lengthTold", desc := "()I" } : Jvm.MethodName) prog_3_method_16_code (3 : Nat) (Option.some Jvm.ClassFile.FieldType.int) ∈ wz := zt2 75 rfl rfl
theorem zw_316 : Jvm.Cond.methodLink "TaleHoles$State" (136 : Nat) ({ cls := "java/lang/Math", name := "max", desc := "(II)I" } : Jvm.MethodName) ∈ wz := zt2 76 rfl rfl
theorem zw_317 : Jvm.Cond.static ({ cls := "java/lang/Math", name := "max", desc := "(II)I" } : Jvm.MethodName) ∈ wz := zt2 77 rfl rfl
theorem zw_318 : Jvm.Cond.code ({ cls := "java/lang/Math", name := "max", desc := "(II)I" } : Jvm.MethodName) prog_9_method_65_code (2 : Nat) (Option.some Jvm.ClassFile.FieldType.int) ∈ wz := zt2 78 rfl rfl
theorem zw_319 : Jvm.Cond.methodLink "TaleHoles$State" (141 : Nat) ({ cls := "TaleHoles$State", name := "lengthOfItem", desc := "(I)I" } : Jvm.MethodName) ∈ wz := zt2 79 rfl rfl
theorem zw_321 : Jvm.Cond.instanceMethod ({ cls := "TaleHoles$State", name := "lengthOfItem", desc := "(I)I" } : Jvm.MethodName) ∈ wz := zt2 81 rfl rfl
theorem zw_322 : Jvm.Cond.code ({ cls := "TaleHoles$State", name := "lengthOfItem", desc := "(I)I" } : Jvm.MethodName) prog_3_method_15_code (3 : Nat) (Option.some Jvm.ClassFile.FieldType.int) ∈ wz := zt2 82 rfl rfl
theorem zw_323 : Jvm.Cond.methodLinkNest "TaleHoles$State" (127 : Nat) ({ cls := "TaleHoles$Tale", name := "holeOfItem", desc := "(I)I" } : Jvm.MethodName) "TaleHoles" ∈ wn := zn2 83 rfl rfl
theorem zw_325 : Jvm.Cond.instanceMethod ({ cls := "TaleHoles$Tale", name := "holeOfItem", desc := "(I)I" } : Jvm.MethodName) ∈ wz := zt2 85 rfl rfl
theorem zw_326 : Jvm.Cond.code ({ cls := "TaleHoles$Tale", name := "holeOfItem", desc := "(I)I" } : Jvm.MethodName) prog_4_method_12_code (2 : Nat) (Option.some Jvm.ClassFile.FieldType.int) ∈ wz := zt2 86 rfl rfl
theorem zw_327 : Jvm.Cond.methodLink "TaleHoles$Tale" (83 : Nat) ({ cls := "TaleHoles$Tale", name := "hasItem", desc := "(I)Z" } : Jvm.MethodName) ∈ wz := zt2 87 rfl rfl
theorem zw_329 : Jvm.Cond.instanceMethod ({ cls := "TaleHoles$Tale", name := "hasItem", desc := "(I)Z" } : Jvm.MethodName) ∈ wz := zt2 89 rfl rfl
theorem zw_330 : Jvm.Cond.code ({ cls := "TaleHoles$Tale", name := "hasItem", desc := "(I)Z" } : Jvm.MethodName) prog_4_method_5_code (2 : Nat) (Option.some Jvm.ClassFile.FieldType.boolean) ∈ wz := zt2 90 rfl rfl
theorem zw_331 : Jvm.Cond.methodLinkNest "TaleHoles$State" (130 : Nat) ({ cls := "TaleHoles$Tale", name := "plainLengthOf", desc := "(I)I" } : Jvm.MethodName) "TaleHoles" ∈ wn := zn2 91 rfl rfl
theorem zw_333 : Jvm.Cond.instanceMethod ({ cls := "TaleHoles$Tale", name := "plainLengthOf", desc := "(I)I" } : Jvm.MethodName) ∈ wz := zt2 93 rfl rfl
theorem zw_334 : Jvm.Cond.code ({ cls := "TaleHoles$Tale", name := "plainLengthOf", desc := "(I)I" } : Jvm.MethodName) prog_4_method_13_code (2 : Nat) (Option.some Jvm.ClassFile.FieldType.int) ∈ wz := zt2 94 rfl rfl
theorem zw_335 : Jvm.Cond.methodLinkNest "TaleHoles$State" (76 : Nat) ({ cls := "TaleHoles$Tale", name := "isEmptyHole", desc := "(I)Z" } : Jvm.MethodName) "TaleHoles" ∈ wn := zn2 95 rfl rfl
theorem zw_337 : Jvm.Cond.instanceMethod ({ cls := "TaleHoles$Tale", name := "isEmptyHole", desc := "(I)Z" } : Jvm.MethodName) ∈ wz := zt2 97 rfl rfl
theorem zw_338 : Jvm.Cond.code ({ cls := "TaleHoles$Tale", name := "isEmptyHole", desc := "(I)Z" } : Jvm.MethodName) prog_4_method_11_code (2 : Nat) (Option.some Jvm.ClassFile.FieldType.boolean) ∈ wz := zt2 98 rfl rfl
theorem zw_339 : Jvm.Cond.methodLinkNest "TaleHoles$State" (80 : Nat) ({ cls := "TaleHoles$Tale", name := "wordIn", desc := "(I)I" } : Jvm.MethodName) "TaleHoles" ∈ wn := zn2 99 rfl rfl
theorem zw_340 : Jvm.Cond.methodLink "TaleHoles$State" (83 : Nat) ({ cls := "TaleHoles$State", name := "formIn", desc := "(I)I" } : Jvm.MethodName) ∈ wz := zt2 100 rfl rfl
theorem zw_342 : Jvm.Cond.instanceMethod ({ cls := "TaleHoles$State", name := "formIn", desc := "(I)I" } : Jvm.MethodName) ∈ wz := zt2 102 rfl rfl
theorem zw_343 : Jvm.Cond.code ({ cls := "TaleHoles$State", name := "formIn", desc := "(I)I" } : Jvm.MethodName) prog_3_method_5_code (3 : Nat) (Option.some Jvm.ClassFile.FieldType.int) ∈ wz := zt2 103 rfl rfl
theorem zw_344 : Jvm.Cond.methodLinkNest "TaleHoles$State" (63 : Nat) ({ cls := "TaleHoles$Tale", name := "tieOf", desc := "(I)I" } : Jvm.MethodName) "TaleHoles" ∈ wn := zn2 104 rfl rfl
theorem zw_346 : Jvm.Cond.instanceMethod ({ cls := "TaleHoles$Tale", name := "tieOf", desc := "(I)I" } : Jvm.MethodName) ∈ wz := zt2 106 rfl rfl
theorem zw_347 : Jvm.Cond.code ({ cls := "TaleHoles$Tale", name := "tieOf", desc := "(I)I" } : Jvm.MethodName) prog_4_method_8_code (2 : Nat) (Option.some Jvm.ClassFile.FieldType.int) ∈ wz := zt2 107 rfl rfl
theorem zw_348 : Jvm.Cond.methodLinkNest "TaleHoles$State" (66 : Nat) ({ cls := "TaleHoles$Tale", name := "kindOfHole", desc := "(I)I" } : Jvm.MethodName) "TaleHoles" ∈ wn := zn2 108 rfl rfl
theorem zw_350 : Jvm.Cond.instanceMethod ({ cls := "TaleHoles$Tale", name := "kindOfHole", desc := "(I)I" } : Jvm.MethodName) ∈ wz := zt2 110 rfl rfl
theorem zw_351 : Jvm.Cond.code ({ cls := "TaleHoles$Tale", name := "kindOfHole", desc := "(I)I" } : Jvm.MethodName) prog_4_method_7_code (2 : Nat) (Option.some Jvm.ClassFile.FieldType.int) ∈ wz := zt2 111 rfl rfl
theorem zw_352 : Jvm.Cond.methodLink "TaleHoles$State" (69 : Nat) ({ cls := "TaleHoles$State", name := "genderOfTie", desc := "(I)I" } : Jvm.MethodName) ∈ wz := zt2 112 rfl rfl
theorem zw_354 : Jvm.Cond.instanceMethod ({ cls := "TaleHoles$State", name := "genderOfTie", desc := "(I)I" } : Jvm.MethodName) ∈ wz := zt2 114 rfl rfl
theorem zw_355 : Jvm.Cond.code ({ cls := "TaleHoles$State", name := "genderOfTie", desc := "(I)I" } : Jvm.MethodName) prog_3_method_3_code (2 : Nat) (Option.some Jvm.ClassFile.FieldType.int) ∈ wz := zt2 115 rfl rfl
theorem zw_356 : Jvm.Cond.methodLinkNest "TaleHoles$State" (51 : Nat) ({ cls := "TaleHoles$Tale", name := "nounIn", desc := "(II)I" } : Jvm.MethodName) "TaleHoles" ∈ wn := zn2 116 rfl rfl
theorem zw_358 : Jvm.Cond.instanceMethod ({ cls := "TaleHoles$Tale", name := "nounIn", desc := "(II)I" } : Jvm.MethodName) ∈ wz := zt2 118 rfl rfl
theorem zw_359 : Jvm.Cond.code ({ cls := "TaleHoles$Tale", name := "nounIn", desc := "(II)I" } : Jvm.MethodName) prog_4_method_19_code (5 : Nat) (Option.some Jvm.ClassFile.FieldType.int) ∈ wz := zt2 119 rfl rfl
theorem zw_360 : Jvm.Cond.methodLinkNest "TaleHoles$State" (55 : Nat) ({ cls := "TaleHoles$Words", name := "genderOf", desc := "(I)I" } : Jvm.MethodName) "TaleHoles" ∈ wn := zn2 120 rfl rfl
theorem zw_362 : Jvm.Cond.instanceMethod ({ cls := "TaleHoles$Words", name := "genderOf", desc := "(I)I" } : Jvm.MethodName) ∈ wz := zt2 122 rfl rfl
theorem zw_363 : Jvm.Cond.code ({ cls := "TaleHoles$Words", name := "genderOf", desc := "(I)I" } : Jvm.MethodName) prog_6_method_6_code (2 : Nat) (Option.some Jvm.ClassFile.FieldType.int) ∈ wz := zt2 123 rfl rfl
theorem zw_364 : Jvm.Cond.methodLink "TaleHoles$Words" (50 : Nat) ({ cls := "TaleHoles$Words", name := "knows", desc := "(I)Z" } : Jvm.MethodName) ∈ wz := zt2 124 rfl rfl
theorem zw_366 : Jvm.Cond.instanceMethod ({ cls := "TaleHoles$Words", name := "knows", desc := "(I)Z" } : Jvm.MethodName) ∈ wz := zt2 126 rfl rfl
theorem zw_367 : Jvm.Cond.code ({ cls := "TaleHoles$Words", name := "knows", desc := "(I)Z" } : Jvm.MethodName) prog_6_method_3_code (2 : Nat) (Option.some Jvm.ClassFile.FieldType.boolean) ∈ wz := zt2 127 rfl rfl
theorem zw_368 : Jvm.Cond.methodLink "TaleHoles$State" (72 : Nat) ({ cls := "TaleHoles$State", name := "formOf", desc := "(III)I" } : Jvm.MethodName) ∈ wz := zt2 128 rfl rfl
theorem zw_370 : Jvm.Cond.instanceMethod ({ cls := "TaleHoles$State", name := "formOf", desc := "(III)I" } : Jvm.MethodName) ∈ wz := zt2 130 rfl rfl
theorem zw_371 : Jvm.Cond.code ({ cls := "TaleHoles$State", name := "formOf", desc := "(III)I" } : Jvm.MethodName) prog_3_method_4_code (4 : Nat) (Option.some Jvm.ClassFile.FieldType.int) ∈ wz := zt2 131 rfl rfl
theorem zw_372 : Jvm.Cond.methodLinkNest "TaleHoles$State" (59 : Nat) ({ cls := "TaleHoles", name := "isBelow", desc := "(II)Z" } : Jvm.MethodName) "TaleHoles" ∈ wn := zn2 132 rfl rfl
theorem zw_373 : Jvm.Cond.methodLinkNest "TaleHoles$State" (86 : Nat) ({ cls := "TaleHoles$Words", name := "lengthOf", desc := "(II)I" } : Jvm.MethodName) "TaleHoles" ∈ wn := zn2 133 rfl rfl
theorem zw_375 : Jvm.Cond.instanceMethod ({ cls := "TaleHoles$Words", name := "lengthOf", desc := "(II)I" } : Jvm.MethodName) ∈ wz := zt2 135 rfl rfl
theorem zw_376 : Jvm.Cond.code ({ cls := "TaleHoles$Words", name := "lengthOf", desc := "(II)I" } : Jvm.MethodName) prog_6_method_11_code (3 : Nat) (Option.some Jvm.ClassFile.FieldType.int) ∈ wz := zt2 136 rfl rfl
theorem zw_377 : Jvm.Cond.methodLink "TaleHoles$Words" (61 : Nat) ({ cls := "TaleHoles$Words", name := "stemLengthOf", desc := "(I)I" } : Jvm.MethodName) ∈ wz := zt2 137 rfl rfl
theorem zw_379 : Jvm.Cond.instanceMethod ({ cls := "TaleHoles$Words", name := "stemLengthOf", desc := "(I)I" } : Jvm.MethodName) ∈ wz := zt2 139 rfl rfl
theorem zw_380 : Jvm.Cond.code ({ cls := "TaleHoles$Words", name := "stemLengthOf", desc := "(I)I" } : Jvm.MethodName) prog_6_method_7_code (2 : Nat) (Option.some Jvm.ClassFile.FieldType.int) ∈ wz := zt2 140 rfl rfl
theorem zw_381 : Jvm.Cond.methodLink "TaleHoles$Words" (64 : Nat) ({ cls := "TaleHoles$Words", name := "kindOf", desc := "(I)I" } : Jvm.MethodName) ∈ wz := zt2 141 rfl rfl
theorem zw_383 : Jvm.Cond.instanceMethod ({ cls := "TaleHoles$Words", name := "kindOf", desc := "(I)I" } : Jvm.MethodName) ∈ wz := zt2 143 rfl rfl
theorem zw_384 : Jvm.Cond.code ({ cls := "TaleHoles$Words", name := "kindOf", desc := "(I)I" } : Jvm.MethodName) prog_6_method_5_code (2 : Nat) (Option.some Jvm.ClassFile.FieldType.int) ∈ wz := zt2 144 rfl rfl
theorem zw_385 : Jvm.Cond.methodLink "TaleHoles$Words" (67 : Nat) ({ cls := "TaleHoles$Words", name := "endingLengthOf", desc := "(II)I" } : Jvm.MethodName) ∈ wz := zt2 145 rfl rfl
theorem zw_387 : Jvm.Cond.instanceMethod ({ cls := "TaleHoles$Words", name := "endingLengthOf", desc := "(II)I" } : Jvm.MethodName) ∈ wz := zt2 147 rfl rfl
theorem zw_388 : Jvm.Cond.code ({ cls := "TaleHoles$Words", name := "endingLengthOf", desc := "(II)I" } : Jvm.MethodName) prog_6_method_10_code (4 : Nat) (Option.some Jvm.ClassFile.FieldType.int) ∈ wz := zt2 148 rfl rfl
theorem zw_389 : Jvm.Cond.methodLink "TaleHoles$Words" (58 : Nat) ({ cls := "TaleHoles$Words", name := "endingOf", desc := "(II)I" } : Jvm.MethodName) ∈ wz := zt2 149 rfl rfl
theorem zw_391 : Jvm.Cond.instanceMethod ({ cls := "TaleHoles$Words", name := "endingOf", desc := "(II)I" } : Jvm.MethodName) ∈ wz := zt2 151 rfl rfl
theorem zw_392 : Jvm.Cond.code ({ cls := "TaleHoles$Words", name := "endingOf", desc := "(II)I" } : Jvm.MethodName) prog_6_method_8_code (3 : Nat) (Option.some Jvm.ClassFile.FieldType.int) ∈ wz := zt2 152 rfl rfl
theorem zw_393 : Jvm.Cond.methodLinkNest "TaleHoles$Words" (54 : Nat) ({ cls := "TaleHoles", name := "isBelow", desc := "(II)Z" } : Jvm.MethodName) "TaleHoles" ∈ wn := zn2 153 rfl rfl
theorem zw_394 : Jvm.Cond.methodLinkNest "TaleHoles" (207 : Nat) ({ cls := "TaleHoles$State", name := "lettersInHoles", desc := "()I" } : Jvm.MethodName) "TaleHoles" ∈ wn := zn2 154 rfl rfl
theorem zw_396 : Jvm.Cond.instanceMethod ({ cls := "TaleHoles$State", name := "lettersInHoles", desc := "()I" } : Jvm.MethodName) ∈ wz := zt2 156 rfl rfl
theorem zw_397 : Jvm.Cond.code ({ cls := "TaleHoles$State", name := "lettersInHoles", desc := "()I" } : Jvm.MethodName) prog_3_method_7_code (3 : Nat) (Option.some Jvm.ClassFile.FieldType.int) ∈ wz := zt2 157 rfl rfl
theorem zw_398 : Jvm.Cond.methodLink "TaleHoles$State" (92 : Nat) ({ cls := "TaleHoles$State", name := "lettersIn", desc := "(I)I" } : Jvm.MethodName) ∈ wz := zt2 158 rfl rfl
theorem zw_400 : Jvm.Cond.instanceMethod ({ cls := "TaleHoles$State", name := "lettersIn", desc := "(I)I" } : Jvm.MethodName) ∈ wz := zt2 160 rfl rfl
theorem zw_401 : Jvm.Cond.code ({ cls := "TaleHoles$State", name := "lettersIn", desc := "(I)I" } : Jvm.MethodName) prog_3_method_6_code (2 : Nat) (Option.some Jvm.ClassFile.FieldType.int) ∈ wz := zt2 161 rfl rfl
theorem zw_402 : Jvm.Cond.methodLinkNest "TaleHoles" (210 : Nat) ({ cls := "TaleHoles$Tale", name := "tiesWithHoles", desc := "()I" } : Jvm.MethodName) "TaleHoles" ∈ wn := zn2 162 rfl rfl
theorem zw_404 : Jvm.Cond.instanceMethod ({ cls := "TaleHoles$Tale", name := "tiesWithHoles", desc := "()I" } : Jvm.MethodName) ∈ wz := zt2 164 rfl rfl
theorem zw_405 : Jvm.Cond.code ({ cls := "TaleHoles$Tale", name := "tiesWithHoles", desc := "()I" } : Jvm.MethodName) prog_4_method_17_code (3 : Nat) (Option.some Jvm.ClassFile.FieldType.int) ∈ wz := zt2 165 rfl rfl
theorem zw_406 : Jvm.Cond.methodLink "TaleHoles$Tale" (92 : Nat) ({ cls := "TaleHoles$Tale", name := "holesOfTie", desc := "(IZ)I" } : Jvm.MethodName) ∈ wz := zt2 166 rfl rfl
theorem zw_408 : Jvm.Cond.instanceMethod ({ cls := "TaleHoles$Tale", name := "holesOfTie", desc := "(IZ)I" } : Jvm.MethodName) ∈ wz := zt2 168 rfl rfl
theorem zw_409 : Jvm.Cond.code ({ cls := "TaleHoles$Tale", name := "holesOfTie", desc := "(IZ)I" } : Jvm.MethodName) prog_4_method_16_code (5 : Nat) (Option.some Jvm.ClassFile.FieldType.int) ∈ wz := zt2 169 rfl rfl
theorem zw_410 : Jvm.Cond.methodLink "TaleHoles$Tale" (86 : Nat) ({ cls := "TaleHoles$Tale", name := "tieOf", desc := "(I)I" } : Jvm.MethodName) ∈ wz := zt2 170 rfl rfl
theorem zw_411 : Jvm.Cond.methodLink "TaleHoles$Tale" (89 : Nat) ({ cls := "TaleHoles$Tale", name := "isEmptyHole", desc := "(I)Z" } : Jvm.MethodName) ∈ wz := zt2 171 rfl rfl
theorem zw_412 : Jvm.Cond.methodLink "TaleHolesLaw" (112 : Nat) ({ cls := "TaleHolesLaw", name := "isStep", desc := "(LTaleHoles;LTaleHoles;II)Z" } : Jvm.MethodName) ∈ wz := zt2 172 rfl rfl
theorem zw_413 : Jvm.Cond.static ({ cls := "TaleHolesLaw", name := "isStep", desc := "(LTaleHoles;LTaleHoles;II)Z" } : Jvm.MethodName) ∈ wz := zt2 173 rfl rfl
theorem zw_414 : Jvm.Cond.code ({ cls := "TaleHolesLaw", name := "isStep", desc := "(LTaleHoles;LTaleHoles;II)Z" } : Jvm.MethodName) method_8_code (13 : Nat) (Option.some Jvm.ClassFile.FieldType.boolean) ∈ wz := zt2 174 rfl rfl
theorem zw_415 : Jvm.Cond.methodLink "TaleHolesLaw" (46 : Nat) ({ cls := "TaleHolesLaw", name := "isWordy", desc := "(LTaleHoles;LTaleHoles;II)Z" } : Jvm.MethodName) ∈ wz := zt2 175 rfl rfl
theorem zw_416 : Jvm.Cond.static ({ cls := "TaleHolesLaw", name := "isWordy", desc := "(LTaleHoles;LTaleHoles;II)Z" } : Jvm.MethodName) ∈ wz := zt2 176 rfl rfl
theorem zw_417 : Jvm.Cond.code ({ cls := "TaleHolesLaw", name := "isWordy", desc := "(LTaleHoles;LTaleHoles;II)Z" } : Jvm.MethodName) method_6_code (10 : Nat) (Option.some Jvm.ClassFile.FieldType.boolean) ∈ wz := zt2 177 rfl rfl
theorem zw_418 : Jvm.Cond.methodLink "TaleHolesLaw" (33 : Nat) ({ cls := "TaleHoles", name := "addWord", desc := "(II)I" } : Jvm.MethodName) ∈ wz := zt2 178 rfl rfl
theorem zw_419 : Jvm.Cond.instanceMethod ({ cls := "TaleHoles", name := "addWord", desc := "(II)I" } : Jvm.MethodName) ∈ wz := zt2 179 rfl rfl
theorem zw_420 : Jvm.Cond.selects "TaleHoles" ({ cls := "TaleHoles", name := "addWord", desc := "(II)I" } : Jvm.MethodName) ({ cls := "TaleHoles", name := "addWord", desc := "(II)I" } : Jvm.MethodName) ∈ wz := zt2 180 rfl rfl
theorem zw_421 : Jvm.Cond.code ({ cls := "TaleHoles", name := "addWord", desc := "(II)I" } : Jvm.MethodName) prog_1_method_2_code (4 : Nat) (Option.some Jvm.ClassFile.FieldType.int) ∈ wz := zt2 181 rfl rfl
theorem zw_422 : Jvm.Cond.methodLink "TaleHoles" (37 : Nat) ({ cls := "TaleHoles", name := "isBelow", desc := "(II)Z" } : Jvm.MethodName) ∈ wz := zt2 182 rfl rfl
theorem zw_423 : Jvm.Cond.methodLinkNest "TaleHoles" (59 : Nat) ({ cls := "TaleHoles$Words", name := "learn", desc := "(IILTaleHoles$Text;)V" } : Jvm.MethodName) "TaleHoles" ∈ wn := zn2 183 rfl rfl
theorem zw_425 : Jvm.Cond.instanceMethod ({ cls := "TaleHoles$Words", name := "learn", desc := "(IILTaleHoles$Text;)V" } : Jvm.MethodName) ∈ wz := zt2 185 rfl rfl
theorem zw_426 : Jvm.Cond.code ({ cls := "TaleHoles$Words", name := "learn", desc := "(IILTaleHoles$Text;)V" } : Jvm.MethodName) prog_6_method_4_code (5 : Nat) (Option.none : Option Jvm.ClassFile.FieldType) ∈ wz := zt2 186 rfl rfl
theorem zw_427 : Jvm.Cond.methodLink "TaleHoles$Words" (40 : Nat) ({ cls := "java/lang/Math", name := "min", desc := "(II)I" } : Jvm.MethodName) ∈ wz := zt2 187 rfl rfl
theorem zw_428 : Jvm.Cond.methodLinkNest "TaleHoles$Words" (46 : Nat) ({ cls := "TaleHoles$Text", name := "letterNumberAt", desc := "(I)I" } : Jvm.MethodName) "TaleHoles" ∈ wn := zn2 188 rfl rfl
theorem zw_430 : Jvm.Cond.instanceMethod ({ cls := "TaleHoles$Text", name := "letterNumberAt", desc := "(I)I" } : Jvm.MethodName) ∈ wz := zt2 190 rfl rfl
theorem zw_431 : Jvm.Cond.code ({ cls := "TaleHoles$Text", name := "letterNumberAt", desc := "(I)I" } : Jvm.MethodName) prog_5_method_5_code (2 : Nat) (Option.some Jvm.ClassFile.FieldType.int) ∈ wz := zt2 191 rfl rfl
theorem zw_432 : Jvm.Cond.methodLink "TaleHolesLaw" (36 : Nat) ({ cls := "TaleHoles", name := "word", desc := "(II)I" } : Jvm.MethodName) ∈ wz := zt2 192 rfl rfl
theorem zw_433 : Jvm.Cond.instanceMethod ({ cls := "TaleHoles", name := "word", desc := "(II)I" } : Jvm.MethodName) ∈ wz := zt2 193 rfl rfl
theorem zw_434 : Jvm.Cond.selects "TaleHoles" ({ cls := "TaleHoles", name := "word", desc := "(II)I" } : Jvm.MethodName) ({ cls := "TaleHoles", name := "word", desc := "(II)I" } : Jvm.MethodName) ∈ wz := zt2 194 rfl rfl
theorem zw_435 : Jvm.Cond.code ({ cls := "TaleHoles", name := "word", desc := "(II)I" } : Jvm.MethodName) prog_1_method_16_code (3 : Nat) (Option.some Jvm.ClassFile.FieldType.int) ∈ wz := zt2 195 rfl rfl
theorem zw_436 : Jvm.Cond.methodLinkNest "TaleHoles" (101 : Nat) ({ cls := "TaleHoles$Words", name := "knows", desc := "(I)Z" } : Jvm.MethodName) "TaleHoles" ∈ wn := zn2 196 rfl rfl
theorem zw_437 : Jvm.Cond.methodLinkNest "TaleHoles" (144 : Nat) ({ cls := "TaleHoles$Words", name := "kindOf", desc := "(I)I" } : Jvm.MethodName) "TaleHoles" ∈ wn := zn2 197 rfl rfl
theorem zw_438 : Jvm.Cond.methodLinkNest "TaleHoles" (147 : Nat) ({ cls := "TaleHoles$Words", name := "genderOf", desc := "(I)I" } : Jvm.MethodName) "TaleHoles" ∈ wn := zn2 198 rfl rfl
theorem zw_439 : Jvm.Cond.methodLinkNest "TaleHoles" (150 : Nat) ({ cls := "TaleHoles$Words", name := "stemLengthOf", desc := "(I)I" } : Jvm.MethodName) "TaleHoles" ∈ wn := zn2 199 rfl rfl
theorem zw_440 : Jvm.Cond.methodLink "TaleHolesLaw" (50 : Nat) ({ cls := "TaleHoles", name := "setEnding", desc := "(IIII)I" } : Jvm.MethodName) ∈ wz := zt2 200 rfl rfl
theorem zw_441 : Jvm.Cond.instanceMethod ({ cls := "TaleHoles", name := "setEnding", desc := "(IIII)I" } : Jvm.MethodName) ∈ wz := zt2 201 rfl rfl
theorem zw_442 : Jvm.Cond.selects "TaleHoles" ({ cls := "TaleHoles", name := "setEnding", desc := "(IIII)I" } : Jvm.MethodName) ({ cls := "TaleHoles", name := "setEnding", desc := "(IIII)I" } : Jvm.MethodName) ∈ wz := zt2 202 rfl rfl
theorem zw_443 : Jvm.Cond.code ({ cls := "TaleHoles", name := "setEnding", desc := "(IIII)I" } : Jvm.MethodName) prog_1_method_3_code (7 : Nat) (Option.some Jvm.ClassFile.FieldType.int) ∈ wz := zt2 203 rfl rfl
theorem zw_444 : Jvm.Cond.methodLink "TaleHoles" (63 : Nat) ({ cls := "TaleHoles", name := "isEnding", desc := "(II)Z" } : Jvm.MethodName) ∈ wz := zt2 204 rfl rfl
theorem zw_445 : Jvm.Cond.static ({ cls := "TaleHoles", name := "isEnding", desc := "(II)Z" } : Jvm.MethodName) ∈ wz := zt2 205 rfl rfl
theorem zw_446 : Jvm.Cond.code ({ cls := "TaleHoles", name := "isEnding", desc := "(II)Z" } : Jvm.MethodName) prog_1_method_26_code (2 : Nat) (Option.some Jvm.ClassFile.FieldType.boolean) ∈ wz := zt2 206 rfl rfl
theorem zw_447 : Jvm.Cond.methodLinkNest "TaleHoles" (66 : Nat) ({ cls := "TaleHoles$Words", name := "endingOf", desc := "(II)I" } : Jvm.MethodName) "TaleHoles" ∈ wn := zn2 207 rfl rfl
theorem zw_448 : Jvm.Cond.methodLinkNest "TaleHoles" (70 : Nat) ({ cls := "TaleHoles$Words", name := "changeEnding", desc := "(III)V" } : Jvm.MethodName) "TaleHoles" ∈ wn := zn2 208 rfl rfl
theorem zw_450 : Jvm.Cond.instanceMethod ({ cls := "TaleHoles$Words", name := "changeEnding", desc := "(III)V" } : Jvm.MethodName) ∈ wz := zt2 210 rfl rfl
theorem zw_451 : Jvm.Cond.code ({ cls := "TaleHoles$Words", name := "changeEnding", desc := "(III)V" } : Jvm.MethodName) prog_6_method_9_code (4 : Nat) (Option.none : Option Jvm.ClassFile.FieldType) ∈ wz := zt2 211 rfl rfl
theorem zw_452 : Jvm.Cond.methodLink "TaleHolesLaw" (54 : Nat) ({ cls := "TaleHolesLaw", name := "next", desc := "(I)I" } : Jvm.MethodName) ∈ wz := zt2 212 rfl rfl
theorem zw_453 : Jvm.Cond.static ({ cls := "TaleHolesLaw", name := "next", desc := "(I)I" } : Jvm.MethodName) ∈ wz := zt2 213 rfl rfl
theorem zw_454 : Jvm.Cond.code ({ cls := "TaleHolesLaw", name := "next", desc := "(I)I" } : Jvm.MethodName) method_4_code (1 : Nat) (Option.some Jvm.ClassFile.FieldType.int) ∈ wz := zt2 214 rfl rfl
theorem zw_455 : Jvm.Cond.methodLink "TaleHolesLaw" (57 : Nat) ({ cls := "TaleHoles", name := "tie", desc := "(II)I" } : Jvm.MethodName) ∈ wz := zt2 215 rfl rfl
theorem zw_456 : Jvm.Cond.instanceMethod ({ cls := "TaleHoles", name := "tie", desc := "(II)I" } : Jvm.MethodName) ∈ wz := zt2 216 rfl rfl
theorem zw_457 : Jvm.Cond.selects "TaleHoles" ({ cls := "TaleHoles", name := "tie", desc := "(II)I" } : Jvm.MethodName) ({ cls := "TaleHoles", name := "tie", desc := "(II)I" } : Jvm.MethodName) ∈ wz := zt2 217 rfl rfl
theorem zw_458 : Jvm.Cond.code ({ cls := "TaleHoles", name := "tie", desc := "(II)I" } : Jvm.MethodName) prog_1_method_19_code (3 : Nat) (Option.some Jvm.ClassFile.FieldType.int) ∈ wz := zt2 218 rfl rfl
theorem zw_459 : Jvm.Cond.methodLinkNest "TaleHoles" (178 : Nat) ({ cls := "TaleHoles$State", name := "genderOfTie", desc := "(I)I" } : Jvm.MethodName) "TaleHoles" ∈ wn := zn2 219 rfl rfl
theorem zw_460 : Jvm.Cond.methodLinkNest "TaleHoles" (181 : Nat) ({ cls := "TaleHoles$Tale", name := "holesOfTie", desc := "(IZ)I" } : Jvm.MethodName) "TaleHoles" ∈ wn := zn2 220 rfl rfl
theorem zw_461 : Jvm.Cond.methodLinkNest "TaleHoles" (185 : Nat) ({ cls := "TaleHoles$Tale", name := "nounIn", desc := "(II)I" } : Jvm.MethodName) "TaleHoles" ∈ wn := zn2 221 rfl rfl
theorem zw_462 : Jvm.Cond.methodLink "TaleHolesLaw" (60 : Nat) ({ cls := "TaleHoles", name := "setTie", desc := "(III)I" } : Jvm.MethodName) ∈ wz := zt2 222 rfl rfl
theorem zw_463 : Jvm.Cond.instanceMethod ({ cls := "TaleHoles", name := "setTie", desc := "(III)I" } : Jvm.MethodName) ∈ wz := zt2 223 rfl rfl
theorem zw_464 : Jvm.Cond.selects "TaleHoles" ({ cls := "TaleHoles", name := "setTie", desc := "(III)I" } : Jvm.MethodName) ({ cls := "TaleHoles", name := "setTie", desc := "(III)I" } : Jvm.MethodName) ∈ wz := zt2 224 rfl rfl
theorem zw_465 : Jvm.Cond.code ({ cls := "TaleHoles", name := "setTie", desc := "(III)I" } : Jvm.MethodName) prog_1_method_5_code (6 : Nat) (Option.some Jvm.ClassFile.FieldType.int) ∈ wz := zt2 225 rfl rfl
theorem zw_466 : Jvm.Cond.methodLink "TaleHolesLaw" (64 : Nat) ({ cls := "TaleHoles", name := "reason", desc := "(II)I" } : Jvm.MethodName) ∈ wz := zt2 226 rfl rfl
theorem zw_467 : Jvm.Cond.instanceMethod ({ cls := "TaleHoles", name := "reason", desc := "(II)I" } : Jvm.MethodName) ∈ wz := zt2 227 rfl rfl
theorem zw_468 : Jvm.Cond.selects "TaleHoles" ({ cls := "TaleHoles", name := "reason", desc := "(II)I" } : Jvm.MethodName) ({ cls := "TaleHoles", name := "reason", desc := "(II)I" } : Jvm.MethodName) ∈ wz := zt2 228 rfl rfl
theorem zw_469 : Jvm.Cond.code ({ cls := "TaleHoles", name := "reason", desc := "(II)I" } : Jvm.MethodName) prog_1_method_21_code (3 : Nat) (Option.some Jvm.ClassFile.FieldType.int) ∈ wz := zt2 229 rfl rfl
theorem zw_470 : Jvm.Cond.methodLinkNest "TaleHoles" (97 : Nat) ({ cls := "TaleHoles$Tale", name := "hasHole", desc := "(I)Z" } : Jvm.MethodName) "TaleHoles" ∈ wn := zn2 230 rfl rfl
theorem zw_471 : Jvm.Cond.methodLinkNest "TaleHoles" (104 : Nat) ({ cls := "TaleHoles$State", name := "reasonAgainst", desc := "(II)I" } : Jvm.MethodName) "TaleHoles" ∈ wn := zn2 231 rfl rfl
theorem zw_473 : Jvm.Cond.instanceMethod ({ cls := "TaleHoles$State", name := "reasonAgainst", desc := "(II)I" } : Jvm.MethodName) ∈ wz := zt2 233 rfl rfl
theorem zw_474 : Jvm.Cond.code ({ cls := "TaleHoles$State", name := "reasonAgainst", desc := "(II)I" } : Jvm.MethodName) prog_3_method_8_code (3 : Nat) (Option.some Jvm.ClassFile.FieldType.int) ∈ wz := zt2 234 rfl rfl
theorem zw_475 : Jvm.Cond.methodLinkNest "TaleHoles$State" (95 : Nat) ({ cls := "TaleHoles$Words", name := "kindOf", desc := "(I)I" } : Jvm.MethodName) "TaleHoles" ∈ wn := zn2 235 rfl rfl
theorem zw_476 : Jvm.Cond.methodLink "TaleHoles$State" (98 : Nat) ({ cls := "TaleHoles$State", name := "disagrees", desc := "(II)Z" } : Jvm.MethodName) ∈ wz := zt2 236 rfl rfl
theorem zw_478 : Jvm.Cond.instanceMethod ({ cls := "TaleHoles$State", name := "disagrees", desc := "(II)Z" } : Jvm.MethodName) ∈ wz := zt2 238 rfl rfl
theorem zw_479 : Jvm.Cond.code ({ cls := "TaleHoles$State", name := "disagrees", desc := "(II)Z" } : Jvm.MethodName) prog_3_method_9_code (4 : Nat) (Option.some Jvm.ClassFile.FieldType.boolean) ∈ wz := zt2 239 rfl rfl
theorem zw_480 : Jvm.Cond.methodLinkNest "TaleHoles$State" (101 : Nat) ({ cls := "TaleHoles$Tale", name := "holesWith", desc := "(I)I" } : Jvm.MethodName) "TaleHoles" ∈ wn := zn3 0 rfl rfl
theorem zw_481 : Jvm.Cond.methodLink "TaleHolesLaw" (67 : Nat) ({ cls := "TaleHoles", name := "hole", desc := "(II)I" } : Jvm.MethodName) ∈ wz := zt3 1 rfl rfl
theorem zw_482 : Jvm.Cond.instanceMethod ({ cls := "TaleHoles", name := "hole", desc := "(II)I" } : Jvm.MethodName) ∈ wz := zt3 2 rfl rfl
theorem zw_483 : Jvm.Cond.selects "TaleHoles" ({ cls := "TaleHoles", name := "hole", desc := "(II)I" } : Jvm.MethodName) ({ cls := "TaleHoles", name := "hole", desc := "(II)I" } : Jvm.MethodName) ∈ wz := zt3 3 rfl rfl
theorem zw_484 : Jvm.Cond.code ({ cls := "TaleHoles", name := "hole", desc := "(II)I" } : Jvm.MethodName) prog_1_method_18_code (3 : Nat) (Option.some Jvm.ClassFile.FieldType.int) ∈ wz := zt3 4 rfl rfl
theorem zw_485 : Jvm.Cond.methodLinkNest "TaleHoles" (160 : Nat) ({ cls := "TaleHoles$Tale", name := "kindOfHole", desc := "(I)I" } : Jvm.MethodName) "TaleHoles" ∈ wn := zn3 5 rfl rfl
theorem zw_486 : Jvm.Cond.methodLinkNest "TaleHoles" (163 : Nat) ({ cls := "TaleHoles$Tale", name := "tieOf", desc := "(I)I" } : Jvm.MethodName) "TaleHoles" ∈ wn := zn3 6 rfl rfl
theorem zw_487 : Jvm.Cond.methodLinkNest "TaleHoles" (166 : Nat) ({ cls := "TaleHoles$Tale", name := "isEmptyHole", desc := "(I)Z" } : Jvm.MethodName) "TaleHoles" ∈ wn := zn3 7 rfl rfl
theorem zw_488 : Jvm.Cond.methodLinkNest "TaleHoles" (107 : Nat) ({ cls := "TaleHoles$Tale", name := "wordIn", desc := "(I)I" } : Jvm.MethodName) "TaleHoles" ∈ wn := zn3 8 rfl rfl
theorem zw_489 : Jvm.Cond.methodLinkNest "TaleHoles" (169 : Nat) ({ cls := "TaleHoles$State", name := "formIn", desc := "(I)I" } : Jvm.MethodName) "TaleHoles" ∈ wn := zn3 9 rfl rfl
theorem zw_490 : Jvm.Cond.methodLinkNest "TaleHoles" (172 : Nat) ({ cls := "TaleHoles$State", name := "lettersIn", desc := "(I)I" } : Jvm.MethodName) "TaleHoles" ∈ wn := zn3 10 rfl rfl
theorem zw_491 : Jvm.Cond.methodLinkNest "TaleHoles" (175 : Nat) ({ cls := "TaleHoles$Tale", name := "itemOf", desc := "(I)I" } : Jvm.MethodName) "TaleHoles" ∈ wn := zn3 11 rfl rfl
theorem zw_493 : Jvm.Cond.instanceMethod ({ cls := "TaleHoles$Tale", name := "itemOf", desc := "(I)I" } : Jvm.MethodName) ∈ wz := zt3 13 rfl rfl
theorem zw_494 : Jvm.Cond.code ({ cls := "TaleHoles$Tale", name := "itemOf", desc := "(I)I" } : Jvm.MethodName) prog_4_method_9_code (2 : Nat) (Option.some Jvm.ClassFile.FieldType.int) ∈ wz := zt3 14 rfl rfl
theorem zw_495 : Jvm.Cond.methodLink "TaleHolesLaw" (70 : Nat) ({ cls := "TaleHoles", name := "fill", desc := "(II)I" } : Jvm.MethodName) ∈ wz := zt3 15 rfl rfl
theorem zw_496 : Jvm.Cond.instanceMethod ({ cls := "TaleHoles", name := "fill", desc := "(II)I" } : Jvm.MethodName) ∈ wz := zt3 16 rfl rfl
theorem zw_497 : Jvm.Cond.selects "TaleHoles" ({ cls := "TaleHoles", name := "fill", desc := "(II)I" } : Jvm.MethodName) ({ cls := "TaleHoles", name := "fill", desc := "(II)I" } : Jvm.MethodName) ∈ wz := zt3 17 rfl rfl
theorem zw_498 : Jvm.Cond.code ({ cls := "TaleHoles", name := "fill", desc := "(II)I" } : Jvm.MethodName) prog_1_method_6_code (5 : Nat) (Option.some Jvm.ClassFile.FieldType.int) ∈ wz := zt3 18 rfl rfl
theorem zw_499 : Jvm.Cond.methodLinkNest "TaleHoles" (111 : Nat) ({ cls := "TaleHoles$State", name := "putIn", desc := "(II)V" } : Jvm.MethodName) "TaleHoles" ∈ wn := zn3 19 rfl rfl
theorem zw_501 : Jvm.Cond.instanceMethod ({ cls := "TaleHoles$State", name := "putIn", desc := "(II)V" } : Jvm.MethodName) ∈ wz := zt3 21 rfl rfl
theorem zw_502 : Jvm.Cond.code ({ cls := "TaleHoles$State", name := "putIn", desc := "(II)V" } : Jvm.MethodName) prog_3_method_10_code (3 : Nat) (Option.none : Option Jvm.ClassFile.FieldType) ∈ wz := zt3 22 rfl rfl
theorem zw_503 : Jvm.Cond.methodLinkNest "TaleHoles$State" (104 : Nat) ({ cls := "TaleHoles$Tale", name := "hasHole", desc := "(I)Z" } : Jvm.MethodName) "TaleHoles" ∈ wn := zn3 23 rfl rfl
theorem zw_504 : Jvm.Cond.methodLink "TaleHolesLaw" (73 : Nat) ({ cls := "TaleHoles", name := "empty", desc := "(I)I" } : Jvm.MethodName) ∈ wz := zt3 24 rfl rfl
theorem zw_505 : Jvm.Cond.instanceMethod ({ cls := "TaleHoles", name := "empty", desc := "(I)I" } : Jvm.MethodName) ∈ wz := zt3 25 rfl rfl
theorem zw_506 : Jvm.Cond.selects "TaleHoles" ({ cls := "TaleHoles", name := "empty", desc := "(I)I" } : Jvm.MethodName) ({ cls := "TaleHoles", name := "empty", desc := "(I)I" } : Jvm.MethodName) ∈ wz := zt3 26 rfl rfl
theorem zw_507 : Jvm.Cond.code ({ cls := "TaleHoles", name := "empty", desc := "(I)I" } : Jvm.MethodName) prog_1_method_7_code (3 : Nat) (Option.some Jvm.ClassFile.FieldType.int) ∈ wz := zt3 27 rfl rfl
theorem zw_508 : Jvm.Cond.methodLink "TaleHolesLaw" (76 : Nat) ({ cls := "TaleHoles", name := "fillAll", desc := "()I" } : Jvm.MethodName) ∈ wz := zt3 28 rfl rfl
theorem zw_509 : Jvm.Cond.instanceMethod ({ cls := "TaleHoles", name := "fillAll", desc := "()I" } : Jvm.MethodName) ∈ wz := zt3 29 rfl rfl
theorem zw_510 : Jvm.Cond.selects "TaleHoles" ({ cls := "TaleHoles", name := "fillAll", desc := "()I" } : Jvm.MethodName) ({ cls := "TaleHoles", name := "fillAll", desc := "()I" } : Jvm.MethodName) ∈ wz := zt3 30 rfl rfl
theorem zw_511 : Jvm.Cond.code ({ cls := "TaleHoles", name := "fillAll", desc := "()I" } : Jvm.MethodName) prog_1_method_8_code (1 : Nat) (Option.some Jvm.ClassFile.FieldType.int) ∈ wz := zt3 31 rfl rfl
theorem zw_512 : Jvm.Cond.methodLinkNest "TaleHoles" (118 : Nat) ({ cls := "TaleHoles$State", name := "someHoleCanBeFilled", desc := "()Z" } : Jvm.MethodName) "TaleHoles" ∈ wn := zn3 32 rfl rfl
theorem zw_514 : Jvm.Cond.instanceMethod ({ cls := "TaleHoles$State", name := "someHoleCanBeFilled", desc := "()Z" } : Jvm.MethodName) ∈ wz := zt3 34 rfl rfl
theorem zw_515 : Jvm.Cond.code ({ cls := "TaleHoles$State", name := "someHoleCanBeFilled", desc := "()Z" } : Jvm.MethodName) prog_3_method_12_code (2 : Nat) (Option.some Jvm.ClassFile.FieldType.boolean) ∈ wz := zt3 35 rfl rfl
theorem zw_516 : Jvm.Cond.methodLink "TaleHoles$State" (116 : Nat) ({ cls := "TaleHoles$State", name := "lowestFitting", desc := "(I)I" } : Jvm.MethodName) ∈ wz := zt3 36 rfl rfl
theorem zw_518 : Jvm.Cond.instanceMethod ({ cls := "TaleHoles$State", name := "lowestFitting", desc := "(I)I" } : Jvm.MethodName) ∈ wz := zt3 38 rfl rfl
theorem zw_519 : Jvm.Cond.code ({ cls := "TaleHoles$State", name := "lowestFitting", desc := "(I)I" } : Jvm.MethodName) prog_3_method_11_code (3 : Nat) (Option.some Jvm.ClassFile.FieldType.int) ∈ wz := zt3 39 rfl rfl
theorem zw_520 : Jvm.Cond.methodLink "TaleHoles$State" (113 : Nat) ({ cls := "TaleHoles$State", name := "reasonAgainst", desc := "(II)I" } : Jvm.MethodName) ∈ wz := zt3 40 rfl rfl
theorem zw_521 : Jvm.Cond.methodLinkNest "TaleHoles" (122 : Nat) ({ cls := "TaleHoles$State", name := "fillEmptyHoles", desc := "()I" } : Jvm.MethodName) "TaleHoles" ∈ wn := zn3 41 rfl rfl
theorem zw_523 : Jvm.Cond.instanceMethod ({ cls := "TaleHoles$State", name := "fillEmptyHoles", desc := "()I" } : Jvm.MethodName) ∈ wz := zt3 43 rfl rfl
theorem zw_524 : Jvm.Cond.code ({ cls := "TaleHoles$State", name := "fillEmptyHoles", desc := "()I" } : Jvm.MethodName) prog_3_method_13_code (4 : Nat) (Option.some Jvm.ClassFile.FieldType.int) ∈ wz := zt3 44 rfl rfl
theorem zw_525 : Jvm.Cond.methodLink "TaleHoles$State" (119 : Nat) ({ cls := "TaleHoles$State", name := "putIn", desc := "(II)V" } : Jvm.MethodName) ∈ wz := zt3 45 rfl rfl
theorem zw_526 : Jvm.Cond.methodLink "TaleHolesLaw" (79 : Nat) ({ cls := "TaleHoles", name := "set", desc := "(I)I" } : Jvm.MethodName) ∈ wz := zt3 46 rfl rfl
theorem zw_527 : Jvm.Cond.instanceMethod ({ cls := "TaleHoles", name := "set", desc := "(I)I" } : Jvm.MethodName) ∈ wz := zt3 47 rfl rfl
theorem zw_528 : Jvm.Cond.selects "TaleHoles" ({ cls := "TaleHoles", name := "set", desc := "(I)I" } : Jvm.MethodName) ({ cls := "TaleHoles", name := "set", desc := "(I)I" } : Jvm.MethodName) ∈ wz := zt3 48 rfl rfl
theorem zw_529 : Jvm.Cond.code ({ cls := "TaleHoles", name := "set", desc := "(I)I" } : Jvm.MethodName) prog_1_method_9_code (3 : Nat) (Option.some Jvm.ClassFile.FieldType.int) ∈ wz := zt3 49 rfl rfl
theorem zw_530 : Jvm.Cond.methodLink "TaleHolesLaw" (85 : Nat) ({ cls := "TaleHoles", name := "undo", desc := "()I" } : Jvm.MethodName) ∈ wz := zt3 50 rfl rfl
theorem zw_531 : Jvm.Cond.instanceMethod ({ cls := "TaleHoles", name := "undo", desc := "()I" } : Jvm.MethodName) ∈ wz := zt3 51 rfl rfl
theorem zw_532 : Jvm.Cond.selects "TaleHoles" ({ cls := "TaleHoles", name := "undo", desc := "()I" } : Jvm.MethodName) ({ cls := "TaleHoles", name := "undo", desc := "()I" } : Jvm.MethodName) ∈ wz := zt3 52 rfl rfl
theorem zw_533 : Jvm.Cond.code ({ cls := "TaleHoles", name := "undo", desc := "()I" } : Jvm.MethodName) prog_1_method_13_code (1 : Nat) (Option.some Jvm.ClassFile.FieldType.int) ∈ wz := zt3 53 rfl rfl
theorem zw_534 : Jvm.Cond.methodLinkNest "TaleHoles" (138 : Nat) ({ cls := "TaleHoles$History", name := "bringBack", desc := "(LTaleHoles$State;)V" } : Jvm.MethodName) "TaleHoles" ∈ wn := zn3 54 rfl rfl
theorem zw_536 : Jvm.Cond.instanceMethod ({ cls := "TaleHoles$History", name := "bringBack", desc := "(LTaleHoles$State;)V" } : Jvm.MethodName) ∈ wz := zt3 56 rfl rfl
theorem zw_537 : Jvm.Cond.code ({ cls := "TaleHoles$History", name := "bringBack", desc := "(LTaleHoles$State;)V" } : Jvm.MethodName) prog_2_method_4_code (3 : Nat) (Option.none : Option Jvm.ClassFile.FieldType) ∈ wz := zt3 57 rfl rfl
theorem zw_538 : Jvm.Cond.methodLink "TaleHolesLaw" (88 : Nat) ({ cls := "TaleHoles", name := "keep", desc := "()I" } : Jvm.MethodName) ∈ wz := zt3 58 rfl rfl
theorem zw_539 : Jvm.Cond.instanceMethod ({ cls := "TaleHoles", name := "keep", desc := "()I" } : Jvm.MethodName) ∈ wz := zt3 59 rfl rfl
theorem zw_540 : Jvm.Cond.selects "TaleHoles" ({ cls := "TaleHoles", name := "keep", desc := "()I" } : Jvm.MethodName) ({ cls := "TaleHoles", name := "keep", desc := "()I" } : Jvm.MethodName) ∈ wz := zt3 60 rfl rfl
theorem zw_541 : Jvm.Cond.code ({ cls := "TaleHoles", name := "keep", desc := "()I" } : Jvm.MethodName) prog_1_method_14_code (1 : Nat) (Option.some Jvm.ClassFile.FieldType.int) ∈ wz := zt3 61 rfl rfl
theorem zw_542 : Jvm.Cond.methodLinkNest "TaleHoles" (141 : Nat) ({ cls := "TaleHoles$State", name := "copyFrom", desc := "(LTaleHoles$State;)V" } : Jvm.MethodName) "TaleHoles" ∈ wn := zn3 62 rfl rfl
theorem zw_543 : Jvm.Cond.methodLink "TaleHolesLaw" (91 : Nat) ({ cls := "TaleHoles", name := "restore", desc := "()I" } : Jvm.MethodName) ∈ wz := zt3 63 rfl rfl
theorem zw_544 : Jvm.Cond.instanceMethod ({ cls := "TaleHoles", name := "restore", desc := "()I" } : Jvm.MethodName) ∈ wz := zt3 64 rfl rfl
theorem zw_545 : Jvm.Cond.selects "TaleHoles" ({ cls := "TaleHoles", name := "restore", desc := "()I" } : Jvm.MethodName) ({ cls := "TaleHoles", name := "restore", desc := "()I" } : Jvm.MethodName) ∈ wz := zt3 65 rfl rfl
theorem zw_546 : Jvm.Cond.code ({ cls := "TaleHoles", name := "restore", desc := "()I" } : Jvm.MethodName) prog_1_method_15_code (1 : Nat) (Option.some Jvm.ClassFile.FieldType.int) ∈ wz := zt3 66 rfl rfl
theorem zw_547 : Jvm.Cond.methodLink "TaleHolesLaw" (119 : Nat) ({ cls := "TaleHolesLaw", name := "areAlike", desc := "(LTaleHoles;LTaleHoles;)Z" } : Jvm.MethodName) ∈ wz := zt3 67 rfl rfl
theorem zw_548 : Jvm.Cond.static ({ cls := "TaleHolesLaw", name := "areAlike", desc := "(LTaleHoles;LTaleHoles;)Z" } : Jvm.MethodName) ∈ wz := zt3 68 rfl rfl
theorem zw_549 : Jvm.Cond.code ({ cls := "TaleHolesLaw", name := "areAlike", desc := "(LTaleHoles;LTaleHoles;)Z" } : Jvm.MethodName) method_9_code (6 : Nat) (Option.some Jvm.ClassFile.FieldType.boolean) ∈ wz := zt3 69 rfl rfl
theorem zw_550 : Jvm.Cond.methodLink "TaleHolesLaw" (94 : Nat) ({ cls := "TaleHoles", name := "fits", desc := "(I)I" } : Jvm.MethodName) ∈ wz := zt3 70 rfl rfl
theorem zw_551 : Jvm.Cond.instanceMethod ({ cls := "TaleHoles", name := "fits", desc := "(I)I" } : Jvm.MethodName) ∈ wz := zt3 71 rfl rfl
theorem zw_552 : Jvm.Cond.selects "TaleHoles" ({ cls := "TaleHoles", name := "fits", desc := "(I)I" } : Jvm.MethodName) ({ cls := "TaleHoles", name := "fits", desc := "(I)I" } : Jvm.MethodName) ∈ wz := zt3 72 rfl rfl
theorem zw_553 : Jvm.Cond.code ({ cls := "TaleHoles", name := "fits", desc := "(I)I" } : Jvm.MethodName) prog_1_method_22_code (4 : Nat) (Option.some Jvm.ClassFile.FieldType.int) ∈ wz := zt3 73 rfl rfl
theorem zw_554 : Jvm.Cond.methodLink "TaleHolesLaw" (97 : Nat) ({ cls := "TaleHoles", name := "letter", desc := "(III)I" } : Jvm.MethodName) ∈ wz := zt3 74 rfl rfl
theorem zw_555 : Jvm.Cond.instanceMethod ({ cls := "TaleHoles", name := "letter", desc := "(III)I" } : Jvm.MethodName) ∈ wz := zt3 75 rfl rfl
theorem zw_556 : Jvm.Cond.selects "TaleHoles" ({ cls := "TaleHoles", name := "letter", desc := "(III)I" } : Jvm.MethodName) ({ cls := "TaleHoles", name := "letter", desc := "(III)I" } : Jvm.MethodName) ∈ wz := zt3 76 rfl rfl
theorem zw_557 : Jvm.Cond.code ({ cls := "TaleHoles", name := "letter", desc := "(III)I" } : Jvm.MethodName) prog_1_method_17_code (5 : Nat) (Option.some Jvm.ClassFile.FieldType.int) ∈ wz := zt3 77 rfl rfl
theorem zw_558 : Jvm.Cond.methodLinkNest "TaleHoles" (156 : Nat) ({ cls := "TaleHoles$Words", name := "letterAt", desc := "(III)I" } : Jvm.MethodName) "TaleHoles" ∈ wn := zn3 78 rfl rfl
theorem zw_560 : Jvm.Cond.instanceMethod ({ cls := "TaleHoles$Words", name := "letterAt", desc := "(III)I" } : Jvm.MethodName) ∈ wz := zt3 80 rfl rfl
theorem zw_561 : Jvm.Cond.code ({ cls := "TaleHoles$Words", name := "letterAt", desc := "(III)I" } : Jvm.MethodName) prog_6_method_12_code (6 : Nat) (Option.some Jvm.ClassFile.FieldType.int) ∈ wz := zt3 81 rfl rfl
theorem zw_562 : Jvm.Cond.methodLink "TaleHolesLaw" (100 : Nat) ({ cls := "TaleHoles", name := "tieCould", desc := "(IZ)I" } : Jvm.MethodName) ∈ wz := zt3 82 rfl rfl
theorem zw_563 : Jvm.Cond.instanceMethod ({ cls := "TaleHoles", name := "tieCould", desc := "(IZ)I" } : Jvm.MethodName) ∈ wz := zt3 83 rfl rfl
theorem zw_564 : Jvm.Cond.selects "TaleHoles" ({ cls := "TaleHoles", name := "tieCould", desc := "(IZ)I" } : Jvm.MethodName) ({ cls := "TaleHoles", name := "tieCould", desc := "(IZ)I" } : Jvm.MethodName) ∈ wz := zt3 84 rfl rfl
theorem zw_565 : Jvm.Cond.code ({ cls := "TaleHoles", name := "tieCould", desc := "(IZ)I" } : Jvm.MethodName) prog_1_method_23_code (6 : Nat) (Option.some Jvm.ClassFile.FieldType.int) ∈ wz := zt3 85 rfl rfl
theorem zw_566 : Jvm.Cond.methodLinkNest "TaleHoles" (191 : Nat) ({ cls := "TaleHoles$Tale", name := "hasNounHole", desc := "(I)Z" } : Jvm.MethodName) "TaleHoles" ∈ wn := zn3 86 rfl rfl
theorem zw_568 : Jvm.Cond.instanceMethod ({ cls := "TaleHoles$Tale", name := "hasNounHole", desc := "(I)Z" } : Jvm.MethodName) ∈ wz := zt3 88 rfl rfl
theorem zw_569 : Jvm.Cond.code ({ cls := "TaleHoles$Tale", name := "hasNounHole", desc := "(I)Z" } : Jvm.MethodName) prog_4_method_18_code (3 : Nat) (Option.some Jvm.ClassFile.FieldType.boolean) ∈ wz := zt3 89 rfl rfl
theorem zw_570 : Jvm.Cond.methodLink "TaleHoles$Tale" (96 : Nat) ({ cls := "TaleHoles$Tale", name := "kindOfHole", desc := "(I)I" } : Jvm.MethodName) ∈ wz := zt3 90 rfl rfl
theorem zw_571 : Jvm.Cond.methodLinkNest "TaleHoles" (194 : Nat) ({ cls := "TaleHoles$State", name := "lettersTieCould", desc := "(IIZ)I" } : Jvm.MethodName) "TaleHoles" ∈ wn := zn3 91 rfl rfl
theorem zw_573 : Jvm.Cond.instanceMethod ({ cls := "TaleHoles$State", name := "lettersTieCould", desc := "(IIZ)I" } : Jvm.MethodName) ∈ wz := zt3 93 rfl rfl
theorem zw_574 : Jvm.Cond.code ({ cls := "TaleHoles$State", name := "lettersTieCould", desc := "(IIZ)I" } : Jvm.MethodName) prog_3_method_14_code (9 : Nat) (Option.some Jvm.ClassFile.FieldType.int) ∈ wz := zt3 94 rfl rfl
theorem zw_575 : Jvm.Cond.methodLinkNest "TaleHoles$State" (123 : Nat) ({ cls := "TaleHoles$Words", name := "lettersKindCould", desc := "(IIIZ)I" } : Jvm.MethodName) "TaleHoles" ∈ wn := zn3 95 rfl rfl
theorem zw_577 : Jvm.Cond.instanceMethod ({ cls := "TaleHoles$Words", name := "lettersKindCould", desc := "(IIIZ)I" } : Jvm.MethodName) ∈ wz := zt3 97 rfl rfl
theorem zw_578 : Jvm.Cond.code ({ cls := "TaleHoles$Words", name := "lettersKindCould", desc := "(IIIZ)I" } : Jvm.MethodName) prog_6_method_13_code (8 : Nat) (Option.some Jvm.ClassFile.FieldType.int) ∈ wz := zt3 98 rfl rfl
theorem zw_579 : Jvm.Cond.methodLink "TaleHoles$Words" (70 : Nat) ({ cls := "TaleHoles$Words", name := "genderOf", desc := "(I)I" } : Jvm.MethodName) ∈ wz := zt3 99 rfl rfl
theorem zw_580 : Jvm.Cond.methodLink "TaleHoles$Words" (73 : Nat) ({ cls := "TaleHoles$Words", name := "lengthOf", desc := "(II)I" } : Jvm.MethodName) ∈ wz := zt3 100 rfl rfl
theorem zw_581 : Jvm.Cond.methodLinkNest "TaleHoles$Words" (76 : Nat) ({ cls := "TaleHoles", name := "better", desc := "(IIZ)I" } : Jvm.MethodName) "TaleHoles" ∈ wn := zn3 101 rfl rfl
theorem zw_582 : Jvm.Cond.static ({ cls := "TaleHoles", name := "better", desc := "(IIZ)I" } : Jvm.MethodName) ∈ wz := zt3 102 rfl rfl
theorem zw_583 : Jvm.Cond.code ({ cls := "TaleHoles", name := "better", desc := "(IIZ)I" } : Jvm.MethodName) prog_1_method_27_code (3 : Nat) (Option.some Jvm.ClassFile.FieldType.int) ∈ wz := zt3 103 rfl rfl
theorem zw_584 : Jvm.Cond.methodLink "TaleHoles" (216 : Nat) ({ cls := "java/lang/Math", name := "max", desc := "(II)I" } : Jvm.MethodName) ∈ wz := zt3 104 rfl rfl
theorem zw_585 : Jvm.Cond.methodLink "TaleHoles" (198 : Nat) ({ cls := "TaleHoles", name := "better", desc := "(IIZ)I" } : Jvm.MethodName) ∈ wz := zt3 105 rfl rfl
theorem zw_586 : Jvm.Cond.methodLink "TaleHolesLaw" (104 : Nat) ({ cls := "TaleHoles", name := "told", desc := "(I)I" } : Jvm.MethodName) ∈ wz := zt3 106 rfl rfl
theorem zw_587 : Jvm.Cond.instanceMethod ({ cls := "TaleHoles", name := "told", desc := "(I)I" } : Jvm.MethodName) ∈ wz := zt3 107 rfl rfl
theorem zw_588 : Jvm.Cond.selects "TaleHoles" ({ cls := "TaleHoles", name := "told", desc := "(I)I" } : Jvm.MethodName) ({ cls := "TaleHoles", name := "told", desc := "(I)I" } : Jvm.MethodName) ∈ wz := zt3 108 rfl rfl
theorem zw_589 : Jvm.Cond.code ({ cls := "TaleHoles", name := "told", desc := "(I)I" } : Jvm.MethodName) prog_1_method_20_code (2 : Nat) (Option.some Jvm.ClassFile.FieldType.int) ∈ wz := zt3 109 rfl rfl
theorem zw_590 : Jvm.Cond.methodLinkNest "TaleHoles" (188 : Nat) ({ cls := "TaleHoles$State", name := "signToldAt", desc := "(I)I" } : Jvm.MethodName) "TaleHoles" ∈ wn := zn3 110 rfl rfl
theorem zw_592 : Jvm.Cond.instanceMethod ({ cls := "TaleHoles$State", name := "signToldAt", desc := "(I)I" } : Jvm.MethodName) ∈ wz := zt3 112 rfl rfl
theorem zw_593 : Jvm.Cond.code ({ cls := "TaleHoles$State", name := "signToldAt", desc := "(I)I" } : Jvm.MethodName) prog_3_method_18_code (5 : Nat) (Option.some Jvm.ClassFile.FieldType.int) ∈ wz := zt3 113 rfl rfl
theorem zw_594 : Jvm.Cond.methodLink "TaleHoles$State" (150 : Nat) ({ cls := "TaleHoles$State", name := "signOfItem", desc := "(II)I" } : Jvm.MethodName) ∈ wz := zt3 114 rfl rfl
theorem zw_596 : Jvm.Cond.instanceMethod ({ cls := "TaleHoles$State", name := "signOfItem", desc := "(II)I" } : Jvm.MethodName) ∈ wz := zt3 116 rfl rfl
theorem zw_597 : Jvm.Cond.code ({ cls := "TaleHoles$State", name := "signOfItem", desc := "(II)I" } : Jvm.MethodName) prog_3_method_17_code (4 : Nat) (Option.some Jvm.ClassFile.FieldType.int) ∈ wz := zt3 117 rfl rfl
theorem zw_598 : Jvm.Cond.methodLinkNest "TaleHoles$State" (144 : Nat) ({ cls := "TaleHoles$Tale", name := "plainSignOf", desc := "(II)I" } : Jvm.MethodName) "TaleHoles" ∈ wn := zn3 118 rfl rfl
theorem zw_600 : Jvm.Cond.instanceMethod ({ cls := "TaleHoles$Tale", name := "plainSignOf", desc := "(II)I" } : Jvm.MethodName) ∈ wz := zt3 120 rfl rfl
theorem zw_601 : Jvm.Cond.code ({ cls := "TaleHoles$Tale", name := "plainSignOf", desc := "(II)I" } : Jvm.MethodName) prog_4_method_14_code (4 : Nat) (Option.some Jvm.ClassFile.FieldType.int) ∈ wz := zt3 121 rfl rfl
theorem zw_602 : Jvm.Cond.methodLinkNest "TaleHoles$State" (147 : Nat) ({ cls := "TaleHoles$Words", name := "letterAt", desc := "(III)I" } : Jvm.MethodName) "TaleHoles" ∈ wn := zn3 122 rfl rfl
theorem zw_603 : Jvm.Cond.methodLink "TaleHolesLaw" (115 : Nat) ({ cls := "TaleHolesLaw", name := "isWell", desc := "(LTaleHoles;)Z" } : Jvm.MethodName) ∈ wz := zt3 123 rfl rfl
theorem zw_604 : Jvm.Cond.static ({ cls := "TaleHolesLaw", name := "isWell", desc := "(LTaleHoles;)Z" } : Jvm.MethodName) ∈ wz := zt3 124 rfl rfl
theorem zw_605 : Jvm.Cond.code ({ cls := "TaleHolesLaw", name := "isWell", desc := "(LTaleHoles;)Z" } : Jvm.MethodName) method_10_code (11 : Nat) (Option.some Jvm.ClassFile.FieldType.boolean) ∈ wz := zt3 125 rfl rfl
theorem zw_ao : Jvm.Cond.arrayOver (Jvm.ClassFile.FieldType.object "TaleHoles$State") ∈ tables_1 := (fun h => List.mem_append_left _ (List.mem_of_getElem? h)) (rfl : tables_1_1[143]? = some (Jvm.Cond.arrayOver (Jvm.ClassFile.FieldType.object "TaleHoles$State")))
theorem zlay_0 : ∀ w ∈ u_ws RX0 TX0 2, w ∈ wz := by decide +kernel
theorem zlay_1 : ∀ w ∈ u_ws RX1 TX1 6, w ∈ wz := by decide +kernel
theorem zlay_2 : ∀ w ∈ u_ws RX2 TX2 10, w ∈ wz := by decide +kernel
theorem zlay_3 : ∀ w ∈ u_ws RX3 TX3 2, w ∈ wz := by decide +kernel
theorem zlay_4 : ∀ w ∈ u_ws RX4 TX4 6, w ∈ wz := by decide +kernel
theorem zlay_5 : ∀ w ∈ u_ws RX5 TX5 5, w ∈ wz := by decide +kernel
abbrev zD : Type := MethodName × ByteArray × Nat × Option FieldType × Room × Nat
def zOKb (md : zD) (n : Nat) : Prop := Cond.code md.1 md.2.1 md.2.2.1 md.2.2.2.1 ∈ wz ∧ Cond.initialized md.1.cls ∈ wz ∧ (md.1.cls ≠ "java/lang/invoke/MethodHandle" ∧ md.1.cls ≠ "java/lang/invoke/VarHandle") ∧ (parseMethodDescriptor md.1.desc).map (fun d => d.parameters.length) = some n
def zOKi (md : zD) (n : Nat) : Prop := zOKb md n ∧ Cond.instanceMethod md.1 ∈ wz ∧ Cond.selects md.1.cls md.1 md.1 ∈ wz ∧ md.1.name ≠ "<init>"
def zOKs (md : zD) (n : Nat) : Prop := zOKb md n ∧ Cond.static md.1 ∈ wz ∧ md.1.name ≠ "<init>"
def zOKc (md : zD) (n : Nat) : Prop := zOKb md n ∧ Cond.instanceMethod md.1 ∈ wz ∧ md.1.name = "<init>"
def md_5_init : zD := (⟨"TaleHoles", "<init>", "()V"⟩, prog_1_method_1_code, 1, none, { frames := 4, cells := 112, slots := 3212, locals := 75 }, 5)
theorem ok_5_init : zOKc md_5_init 0 := ⟨⟨zw_13, zw_1, ⟨by decide, by decide⟩, by decide +kernel⟩, zw_12, rfl⟩
def md_5_addWord : zD := (⟨"TaleHoles", "addWord", "(II)I"⟩, prog_1_method_2_code, 4, some .int, { frames := 5, cells := 0, slots := 0, locals := 109 }, 5)
theorem ok_5_addWord : zOKi md_5_addWord 2 := ⟨⟨zw_421, zw_1, ⟨by decide, by decide⟩, by decide +kernel⟩, zw_419, zw_420, by decide⟩
def md_5_setEnding : zD := (⟨"TaleHoles", "setEnding", "(IIII)I"⟩, prog_1_method_3_code, 7, some .int, { frames := 5, cells := 0, slots := 0, locals := 103 }, 5)
theorem ok_5_setEnding : zOKi md_5_setEnding 4 := ⟨⟨zw_443, zw_1, ⟨by decide, by decide⟩, by decide +kernel⟩, zw_441, zw_442, by decide⟩
def md_5_readTale : zD := (⟨"TaleHoles", "readTale", "()I"⟩, prog_1_method_4_code, 2, some .int, { frames := 6, cells := 0, slots := 0, locals := 132 }, 5)
theorem ok_5_readTale : zOKi md_5_readTale 0 := ⟨⟨zw_245, zw_1, ⟨by decide, by decide⟩, by decide +kernel⟩, zw_243, zw_244, by decide⟩
def md_5_setTie : zD := (⟨"TaleHoles", "setTie", "(III)I"⟩, prog_1_method_5_code, 6, some .int, { frames := 5, cells := 0, slots := 0, locals := 103 }, 5)
theorem ok_5_setTie : zOKi md_5_setTie 3 := ⟨⟨zw_465, zw_1, ⟨by decide, by decide⟩, by decide +kernel⟩, zw_463, zw_464, by decide⟩
def md_5_fill : zD := (⟨"TaleHoles", "fill", "(II)I"⟩, prog_1_method_6_code, 5, some .int, { frames := 5, cells := 0, slots := 0, locals := 103 }, 5)
theorem ok_5_fill : zOKi md_5_fill 2 := ⟨⟨zw_498, zw_1, ⟨by decide, by decide⟩, by decide +kernel⟩, zw_496, zw_497, by decide⟩
def md_5_empty : zD := (⟨"TaleHoles", "empty", "(I)I"⟩, prog_1_method_7_code, 3, some .int, { frames := 5, cells := 0, slots := 0, locals := 103 }, 5)
theorem ok_5_empty : zOKi md_5_empty 1 := ⟨⟨zw_507, zw_1, ⟨by decide, by decide⟩, by decide +kernel⟩, zw_505, zw_506, by decide⟩
def md_5_fillAll : zD := (⟨"TaleHoles", "fillAll", "()I"⟩, prog_1_method_8_code, 1, some .int, { frames := 6, cells := 0, slots := 0, locals := 132 }, 5)
theorem ok_5_fillAll : zOKi md_5_fillAll 0 := ⟨⟨zw_511, zw_1, ⟨by decide, by decide⟩, by decide +kernel⟩, zw_509, zw_510, by decide⟩
def md_5_set : zD := (⟨"TaleHoles", "set", "(I)I"⟩, prog_1_method_9_code, 3, some .int, { frames := 5, cells := 0, slots := 0, locals := 103 }, 5)
theorem ok_5_set : zOKi md_5_set 1 := ⟨⟨zw_529, zw_1, ⟨by decide, by decide⟩, by decide +kernel⟩, zw_527, zw_528, by decide⟩
def md_5_type : zD := (⟨"TaleHoles", "type", "(C)I"⟩, prog_1_method_10_code, 2, some .int, { frames := 1, cells := 0, slots := 0, locals := 21 }, 5)
theorem ok_5_type : zOKi md_5_type 1 := ⟨⟨zw_187, zw_1, ⟨by decide, by decide⟩, by decide +kernel⟩, zw_185, zw_186, by decide⟩
def md_5_clearText : zD := (⟨"TaleHoles", "clearText", "()I"⟩, prog_1_method_11_code, 2, some .int, { frames := 0, cells := 0, slots := 0, locals := 0 }, 5)
theorem ok_5_clearText : zOKi md_5_clearText 0 := ⟨⟨zw_179, zw_1, ⟨by decide, by decide⟩, by decide +kernel⟩, zw_177, zw_178, by decide⟩
def md_5_fault : zD := (⟨"TaleHoles", "fault", "(Z)I"⟩, prog_1_method_12_code, 3, some .int, { frames := 6, cells := 0, slots := 0, locals := 132 }, 5)
theorem ok_5_fault : zOKi md_5_fault 1 := ⟨⟨zw_198, zw_1, ⟨by decide, by decide⟩, by decide +kernel⟩, zw_196, zw_197, by decide⟩
def md_5_undo : zD := (⟨"TaleHoles", "undo", "()I"⟩, prog_1_method_13_code, 1, some .int, { frames := 5, cells := 0, slots := 0, locals := 103 }, 5)
theorem ok_5_undo : zOKi md_5_undo 0 := ⟨⟨zw_533, zw_1, ⟨by decide, by decide⟩, by decide +kernel⟩, zw_531, zw_532, by decide⟩
def md_5_keep : zD := (⟨"TaleHoles", "keep", "()I"⟩, prog_1_method_14_code, 1, some .int, { frames := 4, cells := 0, slots := 0, locals := 81 }, 5)
theorem ok_5_keep : zOKi md_5_keep 0 := ⟨⟨zw_541, zw_1, ⟨by decide, by decide⟩, by decide +kernel⟩, zw_539, zw_540, by decide⟩
def md_5_restore : zD := (⟨"TaleHoles", "restore", "()I"⟩, prog_1_method_15_code, 1, some .int, { frames := 5, cells := 0, slots := 0, locals := 103 }, 5)
theorem ok_5_restore : zOKi md_5_restore 0 := ⟨⟨zw_546, zw_1, ⟨by decide, by decide⟩, by decide +kernel⟩, zw_544, zw_545, by decide⟩
def md_5_word : zD := (⟨"TaleHoles", "word", "(II)I"⟩, prog_1_method_16_code, 3, some .int, { frames := 3, cells := 0, slots := 0, locals := 65 }, 5)
theorem ok_5_word : zOKi md_5_word 2 := ⟨⟨zw_435, zw_1, ⟨by decide, by decide⟩, by decide +kernel⟩, zw_433, zw_434, by decide⟩
def md_5_letter : zD := (⟨"TaleHoles", "letter", "(III)I"⟩, prog_1_method_17_code, 5, some .int, { frames := 3, cells := 0, slots := 0, locals := 68 }, 5)
theorem ok_5_letter : zOKi md_5_letter 3 := ⟨⟨zw_557, zw_1, ⟨by decide, by decide⟩, by decide +kernel⟩, zw_555, zw_556, by decide⟩
def md_5_hole : zD := (⟨"TaleHoles", "hole", "(II)I"⟩, prog_1_method_18_code, 3, some .int, { frames := 5, cells := 0, slots := 0, locals := 109 }, 5)
theorem ok_5_hole : zOKi md_5_hole 2 := ⟨⟨zw_484, zw_1, ⟨by decide, by decide⟩, by decide +kernel⟩, zw_482, zw_483, by decide⟩
def md_5_tie : zD := (⟨"TaleHoles", "tie", "(II)I"⟩, prog_1_method_19_code, 3, some .int, { frames := 4, cells := 0, slots := 0, locals := 87 }, 5)
theorem ok_5_tie : zOKi md_5_tie 2 := ⟨⟨zw_458, zw_1, ⟨by decide, by decide⟩, by decide +kernel⟩, zw_456, zw_457, by decide⟩
def md_5_told : zD := (⟨"TaleHoles", "told", "(I)I"⟩, prog_1_method_20_code, 2, some .int, { frames := 6, cells := 0, slots := 0, locals := 134 }, 5)
theorem ok_5_told : zOKi md_5_told 1 := ⟨⟨zw_589, zw_1, ⟨by decide, by decide⟩, by decide +kernel⟩, zw_587, zw_588, by decide⟩
def md_5_reason : zD := (⟨"TaleHoles", "reason", "(II)I"⟩, prog_1_method_21_code, 3, some .int, { frames := 4, cells := 0, slots := 0, locals := 87 }, 5)
theorem ok_5_reason : zOKi md_5_reason 2 := ⟨⟨zw_469, zw_1, ⟨by decide, by decide⟩, by decide +kernel⟩, zw_467, zw_468, by decide⟩
def md_5_fits : zD := (⟨"TaleHoles", "fits", "(I)I"⟩, prog_1_method_22_code, 4, some .int, { frames := 4, cells := 0, slots := 0, locals := 87 }, 5)
theorem ok_5_fits : zOKi md_5_fits 1 := ⟨⟨zw_553, zw_1, ⟨by decide, by decide⟩, by decide +kernel⟩, zw_551, zw_552, by decide⟩
def md_5_tieCould : zD := (⟨"TaleHoles", "tieCould", "(IZ)I"⟩, prog_1_method_23_code, 6, some .int, { frames := 6, cells := 0, slots := 0, locals := 143 }, 5)
theorem ok_5_tieCould : zOKi md_5_tieCould 2 := ⟨⟨zw_565, zw_1, ⟨by decide, by decide⟩, by decide +kernel⟩, zw_563, zw_564, by decide⟩
def md_5_count : zD := (⟨"TaleHoles", "count", "(I)I"⟩, prog_1_method_24_code, 2, some .int, { frames := 6, cells := 0, slots := 0, locals := 132 }, 5)
theorem ok_5_count : zOKi md_5_count 1 := ⟨⟨zw_299, zw_1, ⟨by decide, by decide⟩, by decide +kernel⟩, zw_297, zw_298, by decide⟩
def md_5_isBelow : zD := (⟨"TaleHoles", "isBelow", "(II)Z"⟩, prog_1_method_25_code, 2, some .boolean, { frames := 0, cells := 0, slots := 0, locals := 0 }, 5)
theorem ok_5_isBelow : zOKs md_5_isBelow 2 := ⟨⟨zw_217, zw_1, ⟨by decide, by decide⟩, by decide +kernel⟩, zw_216, by decide⟩
def md_5_isEnding : zD := (⟨"TaleHoles", "isEnding", "(II)Z"⟩, prog_1_method_26_code, 2, some .boolean, { frames := 1, cells := 0, slots := 0, locals := 21 }, 5)
theorem ok_5_isEnding : zOKs md_5_isEnding 2 := ⟨⟨zw_446, zw_1, ⟨by decide, by decide⟩, by decide +kernel⟩, zw_445, by decide⟩
def md_5_better : zD := (⟨"TaleHoles", "better", "(IIZ)I"⟩, prog_1_method_27_code, 3, some .int, { frames := 1, cells := 0, slots := 0, locals := 17 }, 5)
theorem ok_5_better : zOKs md_5_better 3 := ⟨⟨zw_583, zw_1, ⟨by decide, by decide⟩, by decide +kernel⟩, zw_582, by decide⟩
def md_5_copyRow : zD := (⟨"TaleHoles", "copyRow", "([I[I)V"⟩, prog_1_method_28_code, 2, none, { frames := 1, cells := 0, slots := 0, locals := 18 }, 5)
theorem ok_5_copyRow : zOKs md_5_copyRow 2 := ⟨⟨zw_269, zw_1, ⟨by decide, by decide⟩, by decide +kernel⟩, zw_268, by decide⟩
def md_0_init : zD := (⟨"TaleHoles$History", "<init>", "()V"⟩, prog_2_method_1_code, 2, none, { frames := 3, cells := 73, slots := 2100, locals := 54 }, 0)
theorem ok_0_init : zOKc md_0_init 0 := ⟨⟨zw_140, zw_6, ⟨by decide, by decide⟩, by decide +kernel⟩, zw_139, rfl⟩
def md_0_record : zD := (⟨"TaleHoles$History", "record", "(LTaleHoles$State;)V"⟩, prog_2_method_2_code, 3, none, { frames := 4, cells := 0, slots := 0, locals := 81 }, 0)
theorem ok_0_record : zOKi md_0_record 1 := ⟨⟨zw_249, zw_6, ⟨by decide, by decide⟩, by decide +kernel⟩, zw_248, zp1 11 rfl, by decide⟩
def md_0_dropOldest : zD := (⟨"TaleHoles$History", "dropOldest", "()V"⟩, prog_2_method_3_code, 3, none, { frames := 0, cells := 0, slots := 0, locals := 0 }, 0)
theorem ok_0_dropOldest : zOKi md_0_dropOldest 0 := ⟨⟨zw_253, zw_6, ⟨by decide, by decide⟩, by decide +kernel⟩, zw_252, zp1 12 rfl, by decide⟩
def md_0_bringBack : zD := (⟨"TaleHoles$History", "bringBack", "(LTaleHoles$State;)V"⟩, prog_2_method_4_code, 3, none, { frames := 4, cells := 0, slots := 0, locals := 81 }, 0)
theorem ok_0_bringBack : zOKi md_0_bringBack 1 := ⟨⟨zw_537, zw_6, ⟨by decide, by decide⟩, by decide +kernel⟩, zw_536, zp4 7 rfl, by decide⟩
def md_0_rowAt : zD := (⟨"TaleHoles$History", "rowAt", "(I)LTaleHoles$State;"⟩, prog_2_method_5_code, 2, some (.object "TaleHoles$State"), { frames := 1, cells := 0, slots := 0, locals := 21 }, 0)
theorem ok_0_rowAt : zOKi md_0_rowAt 1 := ⟨⟨zw_257, zw_6, ⟨by decide, by decide⟩, by decide +kernel⟩, zw_256, zp1 13 rfl, by decide⟩
def md_1_init : zD := (⟨"TaleHoles$State", "<init>", "()V"⟩, prog_3_method_1_code, 1, none, { frames := 2, cells := 17, slots := 518, locals := 34 }, 1)
theorem ok_1_init : zOKc md_1_init 0 := ⟨⟨zw_38, zw_3, ⟨by decide, by decide⟩, by decide +kernel⟩, zw_37, rfl⟩
def md_1_copyFrom : zD := (⟨"TaleHoles$State", "copyFrom", "(LTaleHoles$State;)V"⟩, prog_3_method_2_code, 2, none, { frames := 3, cells := 0, slots := 0, locals := 60 }, 1)
theorem ok_1_copyFrom : zOKi md_1_copyFrom 1 := ⟨⟨zw_262, zw_3, ⟨by decide, by decide⟩, by decide +kernel⟩, zw_261, zp1 14 rfl, by decide⟩
def md_1_genderOfTie : zD := (⟨"TaleHoles$State", "genderOfTie", "(I)I"⟩, prog_3_method_3_code, 2, some .int, { frames := 2, cells := 0, slots := 0, locals := 42 }, 1)
theorem ok_1_genderOfTie : zOKi md_1_genderOfTie 1 := ⟨⟨zw_355, zw_3, ⟨by decide, by decide⟩, by decide +kernel⟩, zw_354, zp2 15 rfl, by decide⟩
def md_1_formOf : zD := (⟨"TaleHoles$State", "formOf", "(III)I"⟩, prog_3_method_4_code, 4, some .int, { frames := 1, cells := 0, slots := 0, locals := 21 }, 1)
theorem ok_1_formOf : zOKi md_1_formOf 3 := ⟨⟨zw_371, zw_3, ⟨by decide, by decide⟩, by decide +kernel⟩, zw_370, zp3 3 rfl, by decide⟩
def md_1_formIn : zD := (⟨"TaleHoles$State", "formIn", "(I)I"⟩, prog_3_method_5_code, 3, some .int, { frames := 3, cells := 0, slots := 0, locals := 63 }, 1)
theorem ok_1_formIn : zOKi md_1_formIn 1 := ⟨⟨zw_343, zw_3, ⟨by decide, by decide⟩, by decide +kernel⟩, zw_342, zp2 12 rfl, by decide⟩
def md_1_lettersIn : zD := (⟨"TaleHoles$State", "lettersIn", "(I)I"⟩, prog_3_method_6_code, 2, some .int, { frames := 4, cells := 0, slots := 0, locals := 88 }, 1)
theorem ok_1_lettersIn : zOKi md_1_lettersIn 1 := ⟨⟨zw_401, zw_3, ⟨by decide, by decide⟩, by decide +kernel⟩, zw_400, zp3 10 rfl, by decide⟩
def md_1_lettersInHoles : zD := (⟨"TaleHoles$State", "lettersInHoles", "()I"⟩, prog_3_method_7_code, 3, some .int, { frames := 5, cells := 0, slots := 0, locals := 109 }, 1)
theorem ok_1_lettersInHoles : zOKi md_1_lettersInHoles 0 := ⟨⟨zw_397, zw_3, ⟨by decide, by decide⟩, by decide +kernel⟩, zw_396, zp3 9 rfl, by decide⟩
def md_1_reasonAgainst : zD := (⟨"TaleHoles$State", "reasonAgainst", "(II)I"⟩, prog_3_method_8_code, 3, some .int, { frames := 3, cells := 0, slots := 0, locals := 65 }, 1)
theorem ok_1_reasonAgainst : zOKi md_1_reasonAgainst 2 := ⟨⟨zw_474, zw_3, ⟨by decide, by decide⟩, by decide +kernel⟩, zw_473, zp4 0 rfl, by decide⟩
def md_1_disagrees : zD := (⟨"TaleHoles$State", "disagrees", "(II)Z"⟩, prog_3_method_9_code, 4, some .boolean, { frames := 2, cells := 0, slots := 0, locals := 42 }, 1)
theorem ok_1_disagrees : zOKi md_1_disagrees 2 := ⟨⟨zw_479, zw_3, ⟨by decide, by decide⟩, by decide +kernel⟩, zw_478, zp4 1 rfl, by decide⟩
def md_1_putIn : zD := (⟨"TaleHoles$State", "putIn", "(II)V"⟩, prog_3_method_10_code, 3, none, { frames := 1, cells := 0, slots := 0, locals := 21 }, 1)
theorem ok_1_putIn : zOKi md_1_putIn 2 := ⟨⟨zw_502, zw_3, ⟨by decide, by decide⟩, by decide +kernel⟩, zw_501, zp4 3 rfl, by decide⟩
def md_1_lowestFitting : zD := (⟨"TaleHoles$State", "lowestFitting", "(I)I"⟩, prog_3_method_11_code, 3, some .int, { frames := 4, cells := 0, slots := 0, locals := 87 }, 1)
theorem ok_1_lowestFitting : zOKi md_1_lowestFitting 1 := ⟨⟨zw_519, zw_3, ⟨by decide, by decide⟩, by decide +kernel⟩, zw_518, zp4 5 rfl, by decide⟩
def md_1_someHoleCanBeFilled : zD := (⟨"TaleHoles$State", "someHoleCanBeFilled", "()Z"⟩, prog_3_method_12_code, 2, some .boolean, { frames := 5, cells := 0, slots := 0, locals := 109 }, 1)
theorem ok_1_someHoleCanBeFilled : zOKi md_1_someHoleCanBeFilled 0 := ⟨⟨zw_515, zw_3, ⟨by decide, by decide⟩, by decide +kernel⟩, zw_514, zp4 4 rfl, by decide⟩
def md_1_fillEmptyHoles : zD := (⟨"TaleHoles$State", "fillEmptyHoles", "()I"⟩, prog_3_method_13_code, 4, some .int, { frames := 5, cells := 0, slots := 0, locals := 109 }, 1)
theorem ok_1_fillEmptyHoles : zOKi md_1_fillEmptyHoles 0 := ⟨⟨zw_524, zw_3, ⟨by decide, by decide⟩, by decide +kernel⟩, zw_523, zp4 6 rfl, by decide⟩
def md_1_lettersTieCould : zD := (⟨"TaleHoles$State", "lettersTieCould", "(IIZ)I"⟩, prog_3_method_14_code, 9, some .int, { frames := 5, cells := 0, slots := 0, locals := 115 }, 1)
theorem ok_1_lettersTieCould : zOKi md_1_lettersTieCould 3 := ⟨⟨zw_574, zw_3, ⟨by decide, by decide⟩, by decide +kernel⟩, zw_573, zp4 10 rfl, by decide⟩
def md_1_lengthOfItem : zD := (⟨"TaleHoles$State", "lengthOfItem", "(I)I"⟩, prog_3_method_15_code, 3, some .int, { frames := 4, cells := 0, slots := 0, locals := 88 }, 1)
theorem ok_1_lengthOfItem : zOKi md_1_lengthOfItem 1 := ⟨⟨zw_322, zw_3, ⟨by decide, by decide⟩, by decide +kernel⟩, zw_321, zp2 7 rfl, by decide⟩
def md_1_lengthTold : zD := (⟨"TaleHoles$State", "lengthTold", "()I"⟩, prog_3_method_16_code, 3, some .int, { frames := 5, cells := 0, slots := 0, locals := 110 }, 1)
theorem ok_1_lengthTold : zOKi md_1_lengthTold 0 := ⟨⟨zw_315, zw_3, ⟨by decide, by decide⟩, by decide +kernel⟩, zw_314, zp2 6 rfl, by decide⟩
def md_1_signOfItem : zD := (⟨"TaleHoles$State", "signOfItem", "(II)I"⟩, prog_3_method_17_code, 4, some .int, { frames := 4, cells := 0, slots := 0, locals := 85 }, 1)
theorem ok_1_signOfItem : zOKi md_1_signOfItem 2 := ⟨⟨zw_597, zw_3, ⟨by decide, by decide⟩, by decide +kernel⟩, zw_596, zp4 13 rfl, by decide⟩
def md_1_signToldAt : zD := (⟨"TaleHoles$State", "signToldAt", "(I)I"⟩, prog_3_method_18_code, 5, some .int, { frames := 5, cells := 0, slots := 0, locals := 110 }, 1)
theorem ok_1_signToldAt : zOKi md_1_signToldAt 1 := ⟨⟨zw_593, zw_3, ⟨by decide, by decide⟩, by decide +kernel⟩, zw_592, zp4 12 rfl, by decide⟩
def md_2_init : zD := (⟨"TaleHoles$Tale", "<init>", "()V"⟩, prog_4_method_1_code, 1, none, { frames := 1, cells := 8, slots := 200, locals := 14 }, 2)
theorem ok_2_init : zOKc md_2_init 0 := ⟨⟨zw_72, zw_5, ⟨by decide, by decide⟩, by decide +kernel⟩, zw_71, rfl⟩
def md_2_copyTaleFrom : zD := (⟨"TaleHoles$Tale", "copyTaleFrom", "(LTaleHoles$Tale;)V"⟩, prog_4_method_2_code, 2, none, { frames := 2, cells := 0, slots := 0, locals := 39 }, 2)
theorem ok_2_copyTaleFrom : zOKi md_2_copyTaleFrom 1 := ⟨⟨zw_279, zw_5, ⟨by decide, by decide⟩, by decide +kernel⟩, zw_278, zp2 0 rfl, by decide⟩
def md_2_takeFrom : zD := (⟨"TaleHoles$Tale", "takeFrom", "(LTaleHoles$Text;)V"⟩, prog_4_method_3_code, 5, none, { frames := 5, cells := 0, slots := 0, locals := 108 }, 2)
theorem ok_2_takeFrom : zOKi md_2_takeFrom 1 := ⟨⟨zw_285, zw_5, ⟨by decide, by decide⟩, by decide +kernel⟩, zw_284, zp2 1 rfl, by decide⟩
def md_2_addHole : zD := (⟨"TaleHoles$Tale", "addHole", "(III)V"⟩, prog_4_method_4_code, 4, none, { frames := 1, cells := 0, slots := 0, locals := 21 }, 2)
theorem ok_2_addHole : zOKi md_2_addHole 3 := ⟨⟨zw_294, zw_5, ⟨by decide, by decide⟩, by decide +kernel⟩, zw_293, zp2 2 rfl, by decide⟩
def md_2_hasItem : zD := (⟨"TaleHoles$Tale", "hasItem", "(I)Z"⟩, prog_4_method_5_code, 2, some .boolean, { frames := 0, cells := 0, slots := 0, locals := 0 }, 2)
theorem ok_2_hasItem : zOKi md_2_hasItem 1 := ⟨⟨zw_330, zw_5, ⟨by decide, by decide⟩, by decide +kernel⟩, zw_329, zp2 9 rfl, by decide⟩
def md_2_hasHole : zD := (⟨"TaleHoles$Tale", "hasHole", "(I)Z"⟩, prog_4_method_6_code, 2, some .boolean, { frames := 0, cells := 0, slots := 0, locals := 0 }, 2)
theorem ok_2_hasHole : zOKi md_2_hasHole 1 := ⟨⟨zw_311, zw_5, ⟨by decide, by decide⟩, by decide +kernel⟩, zw_310, zp2 5 rfl, by decide⟩
def md_2_kindOfHole : zD := (⟨"TaleHoles$Tale", "kindOfHole", "(I)I"⟩, prog_4_method_7_code, 2, some .int, { frames := 1, cells := 0, slots := 0, locals := 21 }, 2)
theorem ok_2_kindOfHole : zOKi md_2_kindOfHole 1 := ⟨⟨zw_351, zw_5, ⟨by decide, by decide⟩, by decide +kernel⟩, zw_350, zp2 14 rfl, by decide⟩
def md_2_tieOf : zD := (⟨"TaleHoles$Tale", "tieOf", "(I)I"⟩, prog_4_method_8_code, 2, some .int, { frames := 1, cells := 0, slots := 0, locals := 21 }, 2)
theorem ok_2_tieOf : zOKi md_2_tieOf 1 := ⟨⟨zw_347, zw_5, ⟨by decide, by decide⟩, by decide +kernel⟩, zw_346, zp2 13 rfl, by decide⟩
def md_2_itemOf : zD := (⟨"TaleHoles$Tale", "itemOf", "(I)I"⟩, prog_4_method_9_code, 2, some .int, { frames := 1, cells := 0, slots := 0, locals := 21 }, 2)
theorem ok_2_itemOf : zOKi md_2_itemOf 1 := ⟨⟨zw_494, zw_5, ⟨by decide, by decide⟩, by decide +kernel⟩, zw_493, zp4 2 rfl, by decide⟩
def md_2_wordIn : zD := (⟨"TaleHoles$Tale", "wordIn", "(I)I"⟩, prog_4_method_10_code, 2, some .int, { frames := 1, cells := 0, slots := 0, locals := 21 }, 2)
theorem ok_2_wordIn : zOKi md_2_wordIn 1 := ⟨⟨zw_307, zw_5, ⟨by decide, by decide⟩, by decide +kernel⟩, zw_306, zp2 4 rfl, by decide⟩
def md_2_isEmptyHole : zD := (⟨"TaleHoles$Tale", "isEmptyHole", "(I)Z"⟩, prog_4_method_11_code, 2, some .boolean, { frames := 2, cells := 0, slots := 0, locals := 42 }, 2)
theorem ok_2_isEmptyHole : zOKi md_2_isEmptyHole 1 := ⟨⟨zw_338, zw_5, ⟨by decide, by decide⟩, by decide +kernel⟩, zw_337, zp2 11 rfl, by decide⟩
def md_2_holeOfItem : zD := (⟨"TaleHoles$Tale", "holeOfItem", "(I)I"⟩, prog_4_method_12_code, 2, some .int, { frames := 1, cells := 0, slots := 0, locals := 21 }, 2)
theorem ok_2_holeOfItem : zOKi md_2_holeOfItem 1 := ⟨⟨zw_326, zw_5, ⟨by decide, by decide⟩, by decide +kernel⟩, zw_325, zp2 8 rfl, by decide⟩
def md_2_plainLengthOf : zD := (⟨"TaleHoles$Tale", "plainLengthOf", "(I)I"⟩, prog_4_method_13_code, 2, some .int, { frames := 1, cells := 0, slots := 0, locals := 21 }, 2)
theorem ok_2_plainLengthOf : zOKi md_2_plainLengthOf 1 := ⟨⟨zw_334, zw_5, ⟨by decide, by decide⟩, by decide +kernel⟩, zw_333, zp2 10 rfl, by decide⟩
def md_2_plainSignOf : zD := (⟨"TaleHoles$Tale", "plainSignOf", "(II)I"⟩, prog_4_method_14_code, 4, some .int, { frames := 1, cells := 0, slots := 0, locals := 21 }, 2)
theorem ok_2_plainSignOf : zOKi md_2_plainSignOf 2 := ⟨⟨zw_601, zw_5, ⟨by decide, by decide⟩, by decide +kernel⟩, zw_600, zp4 14 rfl, by decide⟩
def md_2_holesWith : zD := (⟨"TaleHoles$Tale", "holesWith", "(I)I"⟩, prog_4_method_15_code, 4, some .int, { frames := 2, cells := 0, slots := 0, locals := 42 }, 2)
theorem ok_2_holesWith : zOKi md_2_holesWith 1 := ⟨⟨zw_303, zw_5, ⟨by decide, by decide⟩, by decide +kernel⟩, zw_302, zp2 3 rfl, by decide⟩
def md_2_holesOfTie : zD := (⟨"TaleHoles$Tale", "holesOfTie", "(IZ)I"⟩, prog_4_method_16_code, 5, some .int, { frames := 3, cells := 0, slots := 0, locals := 63 }, 2)
theorem ok_2_holesOfTie : zOKi md_2_holesOfTie 2 := ⟨⟨zw_409, zw_5, ⟨by decide, by decide⟩, by decide +kernel⟩, zw_408, zp3 12 rfl, by decide⟩
def md_2_tiesWithHoles : zD := (⟨"TaleHoles$Tale", "tiesWithHoles", "()I"⟩, prog_4_method_17_code, 3, some .int, { frames := 4, cells := 0, slots := 0, locals := 87 }, 2)
theorem ok_2_tiesWithHoles : zOKi md_2_tiesWithHoles 0 := ⟨⟨zw_405, zw_5, ⟨by decide, by decide⟩, by decide +kernel⟩, zw_404, zp3 11 rfl, by decide⟩
def md_2_hasNounHole : zD := (⟨"TaleHoles$Tale", "hasNounHole", "(I)Z"⟩, prog_4_method_18_code, 3, some .boolean, { frames := 2, cells := 0, slots := 0, locals := 42 }, 2)
theorem ok_2_hasNounHole : zOKi md_2_hasNounHole 1 := ⟨⟨zw_569, zw_5, ⟨by decide, by decide⟩, by decide +kernel⟩, zw_568, zp4 9 rfl, by decide⟩
def md_2_nounIn : zD := (⟨"TaleHoles$Tale", "nounIn", "(II)I"⟩, prog_4_method_19_code, 5, some .int, { frames := 0, cells := 0, slots := 0, locals := 0 }, 2)
theorem ok_2_nounIn : zOKi md_2_nounIn 2 := ⟨⟨zw_359, zw_5, ⟨by decide, by decide⟩, by decide +kernel⟩, zw_358, zp3 0 rfl, by decide⟩
def md_3_init : zD := (⟨"TaleHoles$Text", "<init>", "()V"⟩, prog_5_method_1_code, 1, none, { frames := 1, cells := 1, slots := 60, locals := 14 }, 3)
theorem ok_3_init : zOKc md_3_init 0 := ⟨⟨zw_21, zw_2, ⟨by decide, by decide⟩, by decide +kernel⟩, zw_20, rfl⟩
def md_3_append : zD := (⟨"TaleHoles$Text", "append", "(C)V"⟩, prog_5_method_2_code, 2, none, { frames := 0, cells := 0, slots := 0, locals := 0 }, 3)
theorem ok_3_append : zOKi md_3_append 1 := ⟨⟨zw_191, zw_2, ⟨by decide, by decide⟩, by decide +kernel⟩, zw_190, zp1 0 rfl, by decide⟩
def md_3_signAt : zD := (⟨"TaleHoles$Text", "signAt", "(I)I"⟩, prog_5_method_3_code, 2, some .int, { frames := 1, cells := 0, slots := 0, locals := 21 }, 3)
theorem ok_3_signAt : zOKi md_3_signAt 1 := ⟨⟨zw_214, zw_2, ⟨by decide, by decide⟩, by decide +kernel⟩, zw_213, zp1 4 rfl, by decide⟩
def md_3_hasLetterAt : zD := (⟨"TaleHoles$Text", "hasLetterAt", "(I)Z"⟩, prog_5_method_4_code, 3, some .boolean, { frames := 2, cells := 0, slots := 0, locals := 42 }, 3)
theorem ok_3_hasLetterAt : zOKi md_3_hasLetterAt 1 := ⟨⟨zw_221, zw_2, ⟨by decide, by decide⟩, by decide +kernel⟩, zw_220, zp1 5 rfl, by decide⟩
def md_3_letterNumberAt : zD := (⟨"TaleHoles$Text", "letterNumberAt", "(I)I"⟩, prog_5_method_5_code, 2, some .int, { frames := 3, cells := 0, slots := 0, locals := 64 }, 3)
theorem ok_3_letterNumberAt : zOKi md_3_letterNumberAt 1 := ⟨⟨zw_431, zw_2, ⟨by decide, by decide⟩, by decide +kernel⟩, zw_430, zp3 14 rfl, by decide⟩
def md_3_hasHoleAt : zD := (⟨"TaleHoles$Text", "hasHoleAt", "(I)Z"⟩, prog_5_method_6_code, 2, some .boolean, { frames := 2, cells := 0, slots := 0, locals := 42 }, 3)
theorem ok_3_hasHoleAt : zOKi md_3_hasHoleAt 1 := ⟨⟨zw_210, zw_2, ⟨by decide, by decide⟩, by decide +kernel⟩, zw_209, zp1 3 rfl, by decide⟩
def md_3_kindAt : zD := (⟨"TaleHoles$Text", "kindAt", "(I)I"⟩, prog_5_method_7_code, 2, some .int, { frames := 2, cells := 0, slots := 0, locals := 42 }, 3)
theorem ok_3_kindAt : zOKi md_3_kindAt 1 := ⟨⟨zw_225, zw_2, ⟨by decide, by decide⟩, by decide +kernel⟩, zw_224, zp1 6 rfl, by decide⟩
def md_3_digitAt : zD := (⟨"TaleHoles$Text", "digitAt", "(I)I"⟩, prog_5_method_8_code, 3, some .int, { frames := 2, cells := 0, slots := 0, locals := 42 }, 3)
theorem ok_3_digitAt : zOKi md_3_digitAt 1 := ⟨⟨zw_229, zw_2, ⟨by decide, by decide⟩, by decide +kernel⟩, zw_228, zp1 7 rfl, by decide⟩
def md_3_endOfLetters : zD := (⟨"TaleHoles$Text", "endOfLetters", "(II)I"⟩, prog_5_method_9_code, 4, some .int, { frames := 3, cells := 0, slots := 0, locals := 64 }, 3)
theorem ok_3_endOfLetters : zOKi md_3_endOfLetters 2 := ⟨⟨zw_237, zw_2, ⟨by decide, by decide⟩, by decide +kernel⟩, zw_236, zp1 9 rfl, by decide⟩
def md_3_endOfItem : zD := (⟨"TaleHoles$Text", "endOfItem", "(I)I"⟩, prog_5_method_10_code, 2, some .int, { frames := 4, cells := 0, slots := 0, locals := 87 }, 3)
theorem ok_3_endOfItem : zOKi md_3_endOfItem 1 := ⟨⟨zw_233, zw_2, ⟨by decide, by decide⟩, by decide +kernel⟩, zw_232, zp1 8 rfl, by decide⟩
def md_3_faultAsStem : zD := (⟨"TaleHoles$Text", "faultAsStem", "()I"⟩, prog_5_method_11_code, 2, some .int, { frames := 4, cells := 0, slots := 0, locals := 87 }, 3)
theorem ok_3_faultAsStem : zOKi md_3_faultAsStem 0 := ⟨⟨zw_241, zw_2, ⟨by decide, by decide⟩, by decide +kernel⟩, zw_240, zp1 10 rfl, by decide⟩
def md_3_faultAsTale : zD := (⟨"TaleHoles$Text", "faultAsTale", "()I"⟩, prog_5_method_12_code, 5, some .int, { frames := 5, cells := 0, slots := 0, locals := 108 }, 3)
theorem ok_3_faultAsTale : zOKi md_3_faultAsTale 0 := ⟨⟨zw_202, zw_2, ⟨by decide, by decide⟩, by decide +kernel⟩, zw_201, zp1 1 rfl, by decide⟩
def md_3_faultInItem : zD := (⟨"TaleHoles$Text", "faultInItem", "(I)I"⟩, prog_5_method_13_code, 2, some .int, { frames := 3, cells := 0, slots := 0, locals := 64 }, 3)
theorem ok_3_faultInItem : zOKi md_3_faultInItem 1 := ⟨⟨zw_206, zw_2, ⟨by decide, by decide⟩, by decide +kernel⟩, zw_205, zp1 2 rfl, by decide⟩
def md_4_init : zD := (⟨"TaleHoles$Words", "<init>", "()V"⟩, prog_6_method_1_code, 1, none, { frames := 1, cells := 5, slots := 282, locals := 14 }, 4)
theorem ok_4_init : zOKc md_4_init 0 := ⟨⟨zw_44, zw_4, ⟨by decide, by decide⟩, by decide +kernel⟩, zw_43, rfl⟩
def md_4_copyWordsFrom : zD := (⟨"TaleHoles$Words", "copyWordsFrom", "(LTaleHoles$Words;)V"⟩, prog_6_method_2_code, 2, none, { frames := 2, cells := 0, slots := 0, locals := 39 }, 4)
theorem ok_4_copyWordsFrom : zOKi md_4_copyWordsFrom 1 := ⟨⟨zw_266, zw_4, ⟨by decide, by decide⟩, by decide +kernel⟩, zw_265, zp1 15 rfl, by decide⟩
def md_4_knows : zD := (⟨"TaleHoles$Words", "knows", "(I)Z"⟩, prog_6_method_3_code, 2, some .boolean, { frames := 0, cells := 0, slots := 0, locals := 0 }, 4)
theorem ok_4_knows : zOKi md_4_knows 1 := ⟨⟨zw_367, zw_4, ⟨by decide, by decide⟩, by decide +kernel⟩, zw_366, zp3 2 rfl, by decide⟩
def md_4_learn : zD := (⟨"TaleHoles$Words", "learn", "(IILTaleHoles$Text;)V"⟩, prog_6_method_4_code, 5, none, { frames := 4, cells := 0, slots := 0, locals := 85 }, 4)
theorem ok_4_learn : zOKi md_4_learn 3 := ⟨⟨zw_426, zw_4, ⟨by decide, by decide⟩, by decide +kernel⟩, zw_425, zp3 13 rfl, by decide⟩
def md_4_kindOf : zD := (⟨"TaleHoles$Words", "kindOf", "(I)I"⟩, prog_6_method_5_code, 2, some .int, { frames := 1, cells := 0, slots := 0, locals := 21 }, 4)
theorem ok_4_kindOf : zOKi md_4_kindOf 1 := ⟨⟨zw_384, zw_4, ⟨by decide, by decide⟩, by decide +kernel⟩, zw_383, zp3 6 rfl, by decide⟩
def md_4_genderOf : zD := (⟨"TaleHoles$Words", "genderOf", "(I)I"⟩, prog_6_method_6_code, 2, some .int, { frames := 1, cells := 0, slots := 0, locals := 21 }, 4)
theorem ok_4_genderOf : zOKi md_4_genderOf 1 := ⟨⟨zw_363, zw_4, ⟨by decide, by decide⟩, by decide +kernel⟩, zw_362, zp3 1 rfl, by decide⟩
def md_4_stemLengthOf : zD := (⟨"TaleHoles$Words", "stemLengthOf", "(I)I"⟩, prog_6_method_7_code, 2, some .int, { frames := 1, cells := 0, slots := 0, locals := 21 }, 4)
theorem ok_4_stemLengthOf : zOKi md_4_stemLengthOf 1 := ⟨⟨zw_380, zw_4, ⟨by decide, by decide⟩, by decide +kernel⟩, zw_379, zp3 5 rfl, by decide⟩
def md_4_endingOf : zD := (⟨"TaleHoles$Words", "endingOf", "(II)I"⟩, prog_6_method_8_code, 3, some .int, { frames := 1, cells := 0, slots := 0, locals := 21 }, 4)
theorem ok_4_endingOf : zOKi md_4_endingOf 2 := ⟨⟨zw_392, zw_4, ⟨by decide, by decide⟩, by decide +kernel⟩, zw_391, zp3 8 rfl, by decide⟩
def md_4_changeEnding : zD := (⟨"TaleHoles$Words", "changeEnding", "(III)V"⟩, prog_6_method_9_code, 4, none, { frames := 1, cells := 0, slots := 0, locals := 21 }, 4)
theorem ok_4_changeEnding : zOKi md_4_changeEnding 3 := ⟨⟨zw_451, zw_4, ⟨by decide, by decide⟩, by decide +kernel⟩, zw_450, zp3 15 rfl, by decide⟩
def md_4_endingLengthOf : zD := (⟨"TaleHoles$Words", "endingLengthOf", "(II)I"⟩, prog_6_method_10_code, 4, some .int, { frames := 2, cells := 0, slots := 0, locals := 43 }, 4)
theorem ok_4_endingLengthOf : zOKi md_4_endingLengthOf 2 := ⟨⟨zw_388, zw_4, ⟨by decide, by decide⟩, by decide +kernel⟩, zw_387, zp3 7 rfl, by decide⟩
def md_4_lengthOf : zD := (⟨"TaleHoles$Words", "lengthOf", "(II)I"⟩, prog_6_method_11_code, 3, some .int, { frames := 3, cells := 0, slots := 0, locals := 66 }, 4)
theorem ok_4_lengthOf : zOKi md_4_lengthOf 2 := ⟨⟨zw_376, zw_4, ⟨by decide, by decide⟩, by decide +kernel⟩, zw_375, zp3 4 rfl, by decide⟩
def md_4_letterAt : zD := (⟨"TaleHoles$Words", "letterAt", "(III)I"⟩, prog_6_method_12_code, 6, some .int, { frames := 2, cells := 0, slots := 0, locals := 43 }, 4)
theorem ok_4_letterAt : zOKi md_4_letterAt 3 := ⟨⟨zw_561, zw_4, ⟨by decide, by decide⟩, by decide +kernel⟩, zw_560, zp4 8 rfl, by decide⟩
def md_4_lettersKindCould : zD := (⟨"TaleHoles$Words", "lettersKindCould", "(IIIZ)I"⟩, prog_6_method_13_code, 8, some .int, { frames := 4, cells := 0, slots := 0, locals := 88 }, 4)
theorem ok_4_lettersKindCould : zOKi md_4_lettersKindCould 4 := ⟨⟨zw_578, zw_4, ⟨by decide, by decide⟩, by decide +kernel⟩, zw_577, zp4 11 rfl, by decide⟩
def md_6_cell : zD := (⟨"TaleHolesLaw", "cell", "([II)I"⟩, method_2_code, 2, some .int, { frames := 0, cells := 0, slots := 0, locals := 0 }, 6)
theorem ok_6_cell : zOKs md_6_cell 2 := ⟨⟨zw_171, zw_0, ⟨by decide, by decide⟩, by decide +kernel⟩, zw_170, by decide⟩
def md_6_up : zD := (⟨"TaleHolesLaw", "up", "(II)I"⟩, method_3_code, 2, some .int, { frames := 0, cells := 0, slots := 0, locals := 0 }, 6)
theorem ok_6_up : zOKs md_6_up 2 := ⟨⟨zw_182, zw_0, ⟨by decide, by decide⟩, by decide +kernel⟩, zw_181, by decide⟩
def md_6_next : zD := (⟨"TaleHolesLaw", "next", "(I)I"⟩, method_4_code, 1, some .int, { frames := 0, cells := 0, slots := 0, locals := 0 }, 6)
theorem ok_6_next : zOKs md_6_next 1 := ⟨⟨zw_454, zw_0, ⟨by decide, by decide⟩, by decide +kernel⟩, zw_453, by decide⟩
def md_6_both : zD := (⟨"TaleHolesLaw", "both", "(LTaleHoles;LTaleHoles;I)Z"⟩, method_5_code, 3, some .boolean, { frames := 2, cells := 0, slots := 0, locals := 42 }, 6)
theorem ok_6_both : zOKs md_6_both 3 := ⟨⟨zw_194, zw_0, ⟨by decide, by decide⟩, by decide +kernel⟩, zw_193, by decide⟩
def md_6_isWordy : zD := (⟨"TaleHolesLaw", "isWordy", "(LTaleHoles;LTaleHoles;II)Z"⟩, method_6_code, 10, some .boolean, { frames := 7, cells := 0, slots := 0, locals := 153 }, 6)
theorem ok_6_isWordy : zOKs md_6_isWordy 4 := ⟨⟨zw_417, zw_0, ⟨by decide, by decide⟩, by decide +kernel⟩, zw_416, by decide⟩
def md_6_isRead : zD := (⟨"TaleHolesLaw", "isRead", "(LTaleHoles;LTaleHoles;II)Z"⟩, method_7_code, 11, some .boolean, { frames := 7, cells := 0, slots := 0, locals := 154 }, 6)
theorem ok_6_isRead : zOKs md_6_isRead 4 := ⟨⟨zw_175, zw_0, ⟨by decide, by decide⟩, by decide +kernel⟩, zw_174, by decide⟩
def md_6_isStep : zD := (⟨"TaleHolesLaw", "isStep", "(LTaleHoles;LTaleHoles;II)Z"⟩, method_8_code, 13, some .boolean, { frames := 8, cells := 0, slots := 0, locals := 184 }, 6)
theorem ok_6_isStep : zOKs md_6_isStep 4 := ⟨⟨zw_414, zw_0, ⟨by decide, by decide⟩, by decide +kernel⟩, zw_413, by decide⟩
def md_6_areAlike : zD := (⟨"TaleHolesLaw", "areAlike", "(LTaleHoles;LTaleHoles;)Z"⟩, method_9_code, 6, some .boolean, { frames := 7, cells := 0, slots := 0, locals := 168 }, 6)
theorem ok_6_areAlike : zOKs md_6_areAlike 2 := ⟨⟨zw_549, zw_0, ⟨by decide, by decide⟩, by decide +kernel⟩, zw_548, by decide⟩
def md_6_isWell : zD := (⟨"TaleHolesLaw", "isWell", "(LTaleHoles;)Z"⟩, method_10_code, 11, some .boolean, { frames := 7, cells := 0, slots := 0, locals := 168 }, 6)
theorem ok_6_isWell : zOKs md_6_isWell 1 := ⟨⟨zw_605, zw_0, ⟨by decide, by decide⟩, by decide +kernel⟩, zw_604, by decide⟩
def zflT : List (Nat × Nat × Nat × Nat × Bool) := [(3, 9, 3, 0, false), (3, 15, 3, 1, false), (2, 53, 3, 1, true), (4, 35, 3, 1, true), (5, 128, 3, 1, true), (4, 9, 4, 0, false), (5, 49, 4, 0, true), (1, 110, 4, 0, true), (4, 15, 4, 1, false), (4, 19, 4, 2, false), (4, 22, 4, 3, false), (4, 25, 4, 4, false), (4, 28, 4, 5, false), (2, 9, 2, 0, false), (1, 133, 2, 0, true), (5, 201, 2, 0, true), (2, 15, 2, 1, false), (5, 87, 2, 1, true), (1, 89, 2, 1, true), (2, 18, 2, 2, false), (2, 22, 2, 3, false), (2, 25, 2, 4, false), (2, 28, 2, 5, false), (2, 31, 2, 6, false), (2, 34, 2, 7, false), (2, 37, 2, 8, false), (2, 40, 2, 9, false), (5, 115, 2, 9, true), (1, 107, 2, 9, true), (1, 12, 1, 0, false), (5, 45, 1, 0, true), (1, 21, 1, 1, false), (5, 77, 1, 1, true), (1, 25, 1, 2, false), (5, 90, 1, 2, true), (1, 29, 1, 3, false), (5, 94, 1, 3, true), (1, 32, 1, 4, false), (5, 125, 1, 4, true), (1, 36, 1, 5, false), (5, 213, 1, 5, true), (0, 11, 0, 0, false), (0, 17, 0, 1, false), (5, 135, 0, 1, true), (5, 12, 5, 0, false), (5, 19, 5, 1, false), (5, 23, 5, 2, false), (5, 29, 5, 3, false), (5, 33, 5, 4, false)]
def zfl (own idx : Nat) : Option (Nat × Nat × Bool) := (zflT.find? fun e => e.1 == own && e.2.1 == idx).map fun e => e.2.2
def zflP (e : Nat × Nat × Nat × Nat × Bool) : Prop := ∃ r : vw_C, vwCl[e.2.2.1]? = some r ∧ e.2.2.2.1 < r.2.2 ∧ (e.2.2.2.2 = false → Cond.fieldLink (zcn e.1) e.2.1 (r.2.1 e.2.2.2.1).1 (r.2.1 e.2.2.2.1).2.1 (r.2.1 e.2.2.2.1).2.2.1 ∈ wz) ∧ (e.2.2.2.2 = true → Cond.fieldLinkNest (zcn e.1) e.2.1 (r.2.1 e.2.2.2.1).1 (r.2.1 e.2.2.2.1).2.1 (r.2.1 e.2.2.2.1).2.2.1 "TaleHoles" ∈ wn)
theorem zfl_0 : zflP (3, 9, 3, 0, false) := ⟨_, rfl, by decide, fun _ => zw_23, (fun h => by cases h)⟩
theorem zfl_1 : zflP (3, 15, 3, 1, false) := ⟨_, rfl, by decide, fun _ => zw_24, (fun h => by cases h)⟩
theorem zfl_2 : zflP (2, 53, 3, 1, true) := ⟨_, rfl, by decide, (fun h => by cases h), fun _ => zw_25⟩
theorem zfl_3 : zflP (4, 35, 3, 1, true) := ⟨_, rfl, by decide, (fun h => by cases h), fun _ => zw_26⟩
theorem zfl_4 : zflP (5, 128, 3, 1, true) := ⟨_, rfl, by decide, (fun h => by cases h), fun _ => zw_27⟩
theorem zfl_5 : zflP (4, 9, 4, 0, false) := ⟨_, rfl, by decide, fun _ => zw_46, (fun h => by cases h)⟩
theorem zfl_6 : zflP (5, 49, 4, 0, true) := ⟨_, rfl, by decide, (fun h => by cases h), fun _ => zw_47⟩
theorem zfl_7 : zflP (1, 110, 4, 0, true) := ⟨_, rfl, by decide, (fun h => by cases h), fun _ => zw_48⟩
theorem zfl_8 : zflP (4, 15, 4, 1, false) := ⟨_, rfl, by decide, fun _ => zw_49, (fun h => by cases h)⟩
theorem zfl_9 : zflP (4, 19, 4, 2, false) := ⟨_, rfl, by decide, fun _ => zw_50, (fun h => by cases h)⟩
theorem zfl_10 : zflP (4, 22, 4, 3, false) := ⟨_, rfl, by decide, fun _ => zw_51, (fun h => by cases h)⟩
theorem zfl_11 : zflP (4, 25, 4, 4, false) := ⟨_, rfl, by decide, fun _ => zw_52, (fun h => by cases h)⟩
theorem zfl_12 : zflP (4, 28, 4, 5, false) := ⟨_, rfl, by decide, fun _ => zw_53, (fun h => by cases h)⟩
theorem zfl_13 : zflP (2, 9, 2, 0, false) := ⟨_, rfl, by decide, fun _ => zw_74, (fun h => by cases h)⟩
theorem zfl_14 : zflP (1, 133, 2, 0, true) := ⟨_, rfl, by decide, (fun h => by cases h), fun _ => zw_75⟩
theorem zfl_15 : zflP (5, 201, 2, 0, true) := ⟨_, rfl, by decide, (fun h => by cases h), fun _ => zw_76⟩
theorem zfl_16 : zflP (2, 15, 2, 1, false) := ⟨_, rfl, by decide, fun _ => zw_77, (fun h => by cases h)⟩
theorem zfl_17 : zflP (5, 87, 2, 1, true) := ⟨_, rfl, by decide, (fun h => by cases h), fun _ => zw_78⟩
theorem zfl_18 : zflP (1, 89, 2, 1, true) := ⟨_, rfl, by decide, (fun h => by cases h), fun _ => zw_79⟩
theorem zfl_19 : zflP (2, 18, 2, 2, false) := ⟨_, rfl, by decide, fun _ => zw_80, (fun h => by cases h)⟩
theorem zfl_20 : zflP (2, 22, 2, 3, false) := ⟨_, rfl, by decide, fun _ => zw_81, (fun h => by cases h)⟩
theorem zfl_21 : zflP (2, 25, 2, 4, false) := ⟨_, rfl, by decide, fun _ => zw_82, (fun h => by cases h)⟩
theorem zfl_22 : zflP (2, 28, 2, 5, false) := ⟨_, rfl, by decide, fun _ => zw_83, (fun h => by cases h)⟩
theorem zfl_23 : zflP (2, 31, 2, 6, false) := ⟨_, rfl, by decide, fun _ => zw_84, (fun h => by cases h)⟩
theorem zfl_24 : zflP (2, 34, 2, 7, false) := ⟨_, rfl, by decide, fun _ => zw_85, (fun h => by cases h)⟩
theorem zfl_25 : zflP (2, 37, 2, 8, false) := ⟨_, rfl, by decide, fun _ => zw_86, (fun h => by cases h)⟩
theorem zfl_26 : zflP (2, 40, 2, 9, false) := ⟨_, rfl, by decide, fun _ => zw_87, (fun h => by cases h)⟩
theorem zfl_27 : zflP (5, 115, 2, 9, true) := ⟨_, rfl, by decide, (fun h => by cases h), fun _ => zw_88⟩
theorem zfl_28 : zflP (1, 107, 2, 9, true) := ⟨_, rfl, by decide, (fun h => by cases h), fun _ => zw_89⟩
theorem zfl_29 : zflP (1, 12, 1, 0, false) := ⟨_, rfl, by decide, fun _ => zw_111, (fun h => by cases h)⟩
theorem zfl_30 : zflP (5, 45, 1, 0, true) := ⟨_, rfl, by decide, (fun h => by cases h), fun _ => zw_112⟩
theorem zfl_31 : zflP (1, 21, 1, 1, false) := ⟨_, rfl, by decide, fun _ => zw_113, (fun h => by cases h)⟩
theorem zfl_32 : zflP (5, 77, 1, 1, true) := ⟨_, rfl, by decide, (fun h => by cases h), fun _ => zw_114⟩
theorem zfl_33 : zflP (1, 25, 1, 2, false) := ⟨_, rfl, by decide, fun _ => zw_115, (fun h => by cases h)⟩
theorem zfl_34 : zflP (5, 90, 1, 2, true) := ⟨_, rfl, by decide, (fun h => by cases h), fun _ => zw_116⟩
theorem zfl_35 : zflP (1, 29, 1, 3, false) := ⟨_, rfl, by decide, fun _ => zw_117, (fun h => by cases h)⟩
theorem zfl_36 : zflP (5, 94, 1, 3, true) := ⟨_, rfl, by decide, (fun h => by cases h), fun _ => zw_118⟩
theorem zfl_37 : zflP (1, 32, 1, 4, false) := ⟨_, rfl, by decide, fun _ => zw_119, (fun h => by cases h)⟩
theorem zfl_38 : zflP (5, 125, 1, 4, true) := ⟨_, rfl, by decide, (fun h => by cases h), fun _ => zw_120⟩
theorem zfl_39 : zflP (1, 36, 1, 5, false) := ⟨_, rfl, by decide, fun _ => zw_121, (fun h => by cases h)⟩
theorem zfl_40 : zflP (5, 213, 1, 5, true) := ⟨_, rfl, by decide, (fun h => by cases h), fun _ => zw_122⟩
theorem zfl_41 : zflP (0, 11, 0, 0, false) := ⟨_, rfl, by decide, fun _ => zw_145, (fun h => by cases h)⟩
theorem zfl_42 : zflP (0, 17, 0, 1, false) := ⟨_, rfl, by decide, fun _ => zw_146, (fun h => by cases h)⟩
theorem zfl_43 : zflP (5, 135, 0, 1, true) := ⟨_, rfl, by decide, (fun h => by cases h), fun _ => zw_147⟩
theorem zfl_44 : zflP (5, 12, 5, 0, false) := ⟨_, rfl, by decide, fun _ => zw_153, (fun h => by cases h)⟩
theorem zfl_45 : zflP (5, 19, 5, 1, false) := ⟨_, rfl, by decide, fun _ => zw_154, (fun h => by cases h)⟩
theorem zfl_46 : zflP (5, 23, 5, 2, false) := ⟨_, rfl, by decide, fun _ => zw_155, (fun h => by cases h)⟩
theorem zfl_47 : zflP (5, 29, 5, 3, false) := ⟨_, rfl, by decide, fun _ => zw_156, (fun h => by cases h)⟩
theorem zfl_48 : zflP (5, 33, 5, 4, false) := ⟨_, rfl, by decide, fun _ => zw_157, (fun h => by cases h)⟩
theorem zflT_ok : ∀ e ∈ zflT, zflP e := List.forall_mem_cons.mpr ⟨zfl_0, List.forall_mem_cons.mpr ⟨zfl_1, List.forall_mem_cons.mpr ⟨zfl_2, List.forall_mem_cons.mpr ⟨zfl_3, List.forall_mem_cons.mpr ⟨zfl_4, List.forall_mem_cons.mpr ⟨zfl_5, List.forall_mem_cons.mpr ⟨zfl_6, List.forall_mem_cons.mpr ⟨zfl_7, List.forall_mem_cons.mpr ⟨zfl_8, List.forall_mem_cons.mpr ⟨zfl_9, List.forall_mem_cons.mpr ⟨zfl_10, List.forall_mem_cons.mpr ⟨zfl_11, List.forall_mem_cons.mpr ⟨zfl_12, List.forall_mem_cons.mpr ⟨zfl_13, List.forall_mem_cons.mpr ⟨zfl_14, List.forall_mem_cons.mpr ⟨zfl_15, List.forall_mem_cons.mpr ⟨zfl_16, List.forall_mem_cons.mpr ⟨zfl_17, List.forall_mem_cons.mpr ⟨zfl_18, List.forall_mem_cons.mpr ⟨zfl_19, List.forall_mem_cons.mpr ⟨zfl_20, List.forall_mem_cons.mpr ⟨zfl_21, List.forall_mem_cons.mpr ⟨zfl_22, List.forall_mem_cons.mpr ⟨zfl_23, List.forall_mem_cons.mpr ⟨zfl_24, List.forall_mem_cons.mpr ⟨zfl_25, List.forall_mem_cons.mpr ⟨zfl_26, List.forall_mem_cons.mpr ⟨zfl_27, List.forall_mem_cons.mpr ⟨zfl_28, List.forall_mem_cons.mpr ⟨zfl_29, List.forall_mem_cons.mpr ⟨zfl_30, List.forall_mem_cons.mpr ⟨zfl_31, List.forall_mem_cons.mpr ⟨zfl_32, List.forall_mem_cons.mpr ⟨zfl_33, List.forall_mem_cons.mpr ⟨zfl_34, List.forall_mem_cons.mpr ⟨zfl_35, List.forall_mem_cons.mpr ⟨zfl_36, List.forall_mem_cons.mpr ⟨zfl_37, List.forall_mem_cons.mpr ⟨zfl_38, List.forall_mem_cons.mpr ⟨zfl_39, List.forall_mem_cons.mpr ⟨zfl_40, List.forall_mem_cons.mpr ⟨zfl_41, List.forall_mem_cons.mpr ⟨zfl_42, List.forall_mem_cons.mpr ⟨zfl_43, List.forall_mem_cons.mpr ⟨zfl_44, List.forall_mem_cons.mpr ⟨zfl_45, List.forall_mem_cons.mpr ⟨zfl_46, List.forall_mem_cons.mpr ⟨zfl_47, List.forall_mem_cons.mpr ⟨zfl_48, fun _ h => absurd h List.not_mem_nil⟩⟩⟩⟩⟩⟩⟩⟩⟩⟩⟩⟩⟩⟩⟩⟩⟩⟩⟩⟩⟩⟩⟩⟩⟩⟩⟩⟩⟩⟩⟩⟩⟩⟩⟩⟩⟩⟩⟩⟩⟩⟩⟩⟩⟩⟩⟩⟩⟩
theorem zfl_ok {own idx ci k : Nat} {b : Bool} (h : zfl own idx = some (ci, k, b)) : zflP (own, idx, ci, k, b) := by
  obtain ⟨e, he, h2⟩ := Option.map_eq_some_iff.mp h
  have h3 := List.find?_some he
  simp only [Bool.and_eq_true, beq_iff_eq] at h3
  have h4 := zflT_ok e (List.mem_of_find?_eq_some he)
  obtain ⟨a, b', c⟩ := e
  obtain ⟨rfl, rfl⟩ := h3
  cases h2
  exact h4
def zlcT : List (Nat × Nat × Nat) := []
def zlc (own idx : Nat) : Option Nat := (zlcT.find? fun e => e.1 == own && e.2.1 == idx).map fun e => e.2.2
def zlcP (e : Nat × Nat × Nat) : Prop := Cond.constantLong (zcn e.1) e.2.1 (Int64.ofInt (e.2.2 : Int)) ∈ wz
theorem zlcT_ok : ∀ e ∈ zlcT, zlcP e := fun _ h => absurd h List.not_mem_nil
theorem zlc_ok {own idx v : Nat} (h : zlc own idx = some v) : Cond.constantLong (zcn own) idx (Int64.ofInt (v : Int)) ∈ wz := by
  obtain ⟨e, he, h2⟩ := Option.map_eq_some_iff.mp h
  have h3 := List.find?_some he
  simp only [Bool.and_eq_true, beq_iff_eq] at h3
  have h4 := zlcT_ok e (List.mem_of_find?_eq_some he)
  obtain ⟨a, b', c⟩ := e
  obtain ⟨rfl, rfl⟩ := h3
  cases h2
  exact h4
def zicT : List (Nat × Nat × Nat) := [(6, 7, 2144592325), (6, 8, 2147483647)]
def zic (own idx : Nat) : Option Nat := (zicT.find? fun e => e.1 == own && e.2.1 == idx).map fun e => e.2.2
def zicP (e : Nat × Nat × Nat) : Prop := Cond.constant (zcn e.1) e.2.1 (Int32.ofInt (e.2.2 : Int)) ∈ wz
theorem zicT_ok : ∀ e ∈ zicT, zicP e := List.forall_mem_cons.mpr ⟨zw_172, List.forall_mem_cons.mpr ⟨zw_183, fun _ h => absurd h List.not_mem_nil⟩⟩
theorem zic_ok {own idx v : Nat} (h : zic own idx = some v) : Cond.constant (zcn own) idx (Int32.ofInt (v : Int)) ∈ wz := by
  obtain ⟨e, he, h2⟩ := Option.map_eq_some_iff.mp h
  have h3 := List.find?_some he
  simp only [Bool.and_eq_true, beq_iff_eq] at h3
  have h4 := zicT_ok e (List.mem_of_find?_eq_some he)
  obtain ⟨a, b', c⟩ := e
  obtain ⟨rfl, rfl⟩ := h3
  cases h2
  exact h4
theorem zy_maxS : Jvm.Cond.static ({ cls := "java/lang/Math", name := "max", desc := "(II)I" } : Jvm.MethodName) ∈ wz := zw_317
theorem zy_maxC : Jvm.Cond.code ({ cls := "java/lang/Math", name := "max", desc := "(II)I" } : Jvm.MethodName) prog_9_method_65_code (2 : Nat) (Option.some Jvm.ClassFile.FieldType.int) ∈ wz := zw_318
theorem zy_minS : Jvm.Cond.static ({ cls := "java/lang/Math", name := "min", desc := "(II)I" } : Jvm.MethodName) ∈ wz := zw_271
theorem zy_minC : Jvm.Cond.code ({ cls := "java/lang/Math", name := "min", desc := "(II)I" } : Jvm.MethodName) prog_9_method_69_code (2 : Nat) (Option.some Jvm.ClassFile.FieldType.int) ∈ wz := zw_272
theorem zy_copyS : Jvm.Cond.static ({ cls := "java/lang/System", name := "arraycopy", desc := "(Ljava/lang/Object;ILjava/lang/Object;II)V" } : Jvm.MethodName) ∈ wz := zw_274
theorem zy_copyN : Jvm.Cond.native ({ cls := "java/lang/System", name := "arraycopy", desc := "(Ljava/lang/Object;ILjava/lang/Object;II)V" } : Jvm.MethodName) ∈ wz := zw_275
theorem zy_objM : Jvm.Cond.instanceMethod ({ cls := "java/lang/Object", name := "<init>", desc := "()V" } : Jvm.MethodName) ∈ wz := zw_15
theorem zy_objC : Jvm.Cond.code ({ cls := "java/lang/Object", name := "<init>", desc := "()V" } : Jvm.MethodName) object_method_1_code (1 : Nat) (Option.none : Option Jvm.ClassFile.FieldType) ∈ wz := zw_16
theorem zy_mathI : Jvm.Cond.initialized "java/lang/Math" ∈ wz := zw_7
theorem zy_sysI : Jvm.Cond.initialized "java/lang/System" ∈ wz := zw_8
theorem zy_aI : Jvm.Cond.arrayClass Jvm.ClassFile.FieldType.int ∈ wz := zw_67
theorem zy_aC : Jvm.Cond.arrayClass Jvm.ClassFile.FieldType.char ∈ wz := zw_33
theorem zy_objL_0 : Jvm.Cond.methodLink "TaleHoles$History" (3 : Nat) ({ cls := "java/lang/Object", name := "<init>", desc := "()V" } : Jvm.MethodName) ∈ wz := zw_141
theorem zy_inst_0 : Jvm.Cond.instantiable "TaleHoles$History" (2 : Nat) ∈ wz := zw_137
theorem zy_objL_1 : Jvm.Cond.methodLink "TaleHoles$State" (3 : Nat) ({ cls := "java/lang/Object", name := "<init>", desc := "()V" } : Jvm.MethodName) ∈ wz := zw_39
theorem zy_inst_1 : Jvm.Cond.instantiable "TaleHoles$State" (6 : Nat) ∈ wz := zw_35
theorem zy_objL_2 : Jvm.Cond.methodLink "TaleHoles$Tale" (3 : Nat) ({ cls := "java/lang/Object", name := "<init>", desc := "()V" } : Jvm.MethodName) ∈ wz := zw_73
theorem zy_inst_2 : Jvm.Cond.instantiable "TaleHoles$Tale" (10 : Nat) ∈ wz := zw_69
theorem zy_objL_3 : Jvm.Cond.methodLink "TaleHoles$Text" (3 : Nat) ({ cls := "java/lang/Object", name := "<init>", desc := "()V" } : Jvm.MethodName) ∈ wz := zw_22
theorem zy_inst_3 : Jvm.Cond.instantiable "TaleHoles$Text" (2 : Nat) ∈ wz := zw_18
theorem zy_objL_4 : Jvm.Cond.methodLink "TaleHoles$Words" (3 : Nat) ({ cls := "java/lang/Object", name := "<init>", desc := "()V" } : Jvm.MethodName) ∈ wz := zw_45
theorem zy_inst_4 : Jvm.Cond.instantiable "TaleHoles$Words" (6 : Nat) ∈ wz := zw_41
theorem zy_objL_5 : Jvm.Cond.methodLink "TaleHoles" (3 : Nat) ({ cls := "java/lang/Object", name := "<init>", desc := "()V" } : Jvm.MethodName) ∈ wz := zw_14
theorem zy_inst_5 : Jvm.Cond.instantiable "TaleHoles" (5 : Nat) ∈ wz := zw_10
theorem zy_init_5 : Jvm.Cond.initialized "TaleHoles" ∈ wz := zw_1
theorem zy_lawCL_5 : Jvm.Cond.classLink "TaleHolesLaw" (10 : Nat) "TaleHoles" ∈ wz := zw_9
theorem zy_lawML_5 : Jvm.Cond.methodLink "TaleHolesLaw" (107 : Nat) ({ cls := "TaleHoles", name := "<init>", desc := "()V" } : Jvm.MethodName) ∈ wz := zw_11
