/-! The tables: classes, fields, links. -/
def jT_0 : u_T := fun k => match k with
  | 0 => ("BeanContexts", "catalog", "LBeanContexts$Catalog;", true)
  | 1 => ("BeanContexts", "configurations", "Ljava/util/ArrayList;", true)
  | 2 => ("BeanContexts", "journal", "LBeanContexts$Journal;", true)
  | 3 => ("BeanContexts", "workshop", "LBeanContexts$Workshop;", true)
  | 4 => ("BeanContexts", "shelf", "LBeanContexts$Shelf;", true)
  | _ => ("BeanContexts", "down", "Z", false)
def jy_0 : Nat → FieldType := fun k => match k with
  | 0 => .object "BeanContexts$Catalog"
  | 1 => .object "java/util/ArrayList"
  | 2 => .object "BeanContexts$Journal"
  | 3 => .object "BeanContexts$Workshop"
  | 4 => .object "BeanContexts$Shelf"
  | _ => .boolean
abbrev jdv_0 : List Value := [.null, .null, .null, .null, .null, .int 0]
def jT_1 : u_T := fun k => match k with
  | 0 => ("BeanContexts$Catalog", "kinds", "[I", true)
  | _ => ("BeanContexts$Catalog", "definitions", "Ljava/util/ArrayList;", true)
def jy_1 : Nat → FieldType := fun k => match k with
  | 0 => .array .int
  | _ => .object "java/util/ArrayList"
abbrev jdv_1 : List Value := [.null, .null]
def jT_2 : u_T := fun k => match k with
  | 0 => ("java/util/AbstractList", "modCount", "I", false)
  | 1 => ("java/util/ArrayList", "elementData", "[Ljava/lang/Object;", false)
  | _ => ("java/util/ArrayList", "size", "I", false)
def jy_2 : Nat → FieldType := fun k => match k with
  | 0 => .int
  | 1 => .array (.object "java/lang/Object")
  | _ => .int
abbrev jdv_2 : List Value := [.int 0, .null, .int 0]
def jT_3 : u_T := fun k => match k with
  | 0 => ("BeanContexts$Journal", "ring", "[I", true)
  | _ => ("BeanContexts$Journal", "total", "I", false)
def jy_3 : Nat → FieldType := fun k => match k with
  | 0 => .array .int
  | _ => .int
abbrev jdv_3 : List Value := [.null, .int 0]
def jT_4 : u_T := fun k => match k with
  | 0 => ("BeanContexts$Workshop", "catalog", "LBeanContexts$Catalog;", true)
  | 1 => ("BeanContexts$Workshop", "journal", "LBeanContexts$Journal;", true)
  | _ => ("BeanContexts$Workshop", "beans", "Ljava/util/ArrayList;", true)
def jy_4 : Nat → FieldType := fun k => match k with
  | 0 => .object "BeanContexts$Catalog"
  | 1 => .object "BeanContexts$Journal"
  | _ => .object "java/util/ArrayList"
abbrev jdv_4 : List Value := [.null, .null, .null]
def jT_5 : u_T := fun k => match k with
  | 0 => ("BeanContexts$Shelf", "capacity", "I", true)
  | 1 => ("BeanContexts$Shelf", "workshop", "LBeanContexts$Workshop;", true)
  | 2 => ("BeanContexts$Shelf", "journal", "LBeanContexts$Journal;", true)
  | 3 => ("BeanContexts$Shelf", "begun", "Ljava/util/ArrayList;", true)
  | _ => ("BeanContexts$Shelf", "order", "Ljava/util/ArrayList;", true)
def jy_5 : Nat → FieldType := fun k => match k with
  | 0 => .int
  | 1 => .object "BeanContexts$Workshop"
  | 2 => .object "BeanContexts$Journal"
  | 3 => .object "java/util/ArrayList"
  | _ => .object "java/util/ArrayList"
abbrev jdv_5 : List Value := [.int 0, .null, .null, .null, .null]
def jT_6 : u_T := fun k => match k with
  | 0 => ("BeanContexts$Definition", "type", "I", true)
  | 1 => ("BeanContexts$Definition", "flags", "I", true)
  | 2 => ("BeanContexts$Definition", "qualifier", "I", true)
  | 3 => ("BeanContexts$Definition", "profile", "I", true)
  | _ => ("BeanContexts$Definition", "needs", "Ljava/util/ArrayList;", true)
def jy_6 : Nat → FieldType := fun k => match k with
  | 0 => .int
  | 1 => .int
  | 2 => .int
  | 3 => .int
  | _ => .object "java/util/ArrayList"
abbrev jdv_6 : List Value := [.int 0, .int 0, .int 0, .int 0, .null]
def jT_7 : u_T := fun k => match k with
  | 0 => ("BeanContexts$Need", "type", "I", true)
  | 1 => ("BeanContexts$Need", "qualifier", "I", true)
  | _ => ("BeanContexts$Need", "name", "I", true)
def jy_7 : Nat → FieldType := fun k => match k with
  | 0 => .int
  | 1 => .int
  | _ => .int
abbrev jdv_7 : List Value := [.int 0, .int 0, .int 0]
def jT_8 : u_T := fun k => match k with
  | 0 => ("BeanContexts$Key", "number", "I", true)
  | 1 => ("BeanContexts$Key", "inside", "I", true)
  | 2 => ("BeanContexts$Key", "mocked", "I", true)
  | 3 => ("BeanContexts$Key", "single", "I", true)
  | 4 => ("BeanContexts$Key", "eager", "I", true)
  | 5 => ("BeanContexts$Key", "parent", "LBeanContexts$Key;", true)
  | _ => ("BeanContexts$Key", "failedBuilds", "I", false)
def jy_8 : Nat → FieldType := fun k => match k with
  | 0 => .int
  | 1 => .int
  | 2 => .int
  | 3 => .int
  | 4 => .int
  | 5 => .object "BeanContexts$Key"
  | _ => .int
abbrev jdv_8 : List Value := [.int 0, .int 0, .int 0, .int 0, .int 0, .null, .int 0]
def jT_9 : u_T := fun k => match k with
  | 0 => ("BeanContexts$Context", "number", "I", true)
  | 1 => ("BeanContexts$Context", "key", "LBeanContexts$Key;", true)
  | 2 => ("BeanContexts$Context", "parent", "LBeanContexts$Context;", true)
  | 3 => ("BeanContexts$Context", "singles", "[I", true)
  | 4 => ("BeanContexts$Context", "open", "I", false)
  | 5 => ("BeanContexts$Context", "cached", "Z", false)
  | _ => ("BeanContexts$Context", "gone", "Z", false)
def jy_9 : Nat → FieldType := fun k => match k with
  | 0 => .int
  | 1 => .object "BeanContexts$Key"
  | 2 => .object "BeanContexts$Context"
  | 3 => .array .int
  | 4 => .int
  | 5 => .boolean
  | _ => .boolean
abbrev jdv_9 : List Value := [.int 0, .null, .null, .null, .int 0, .int 0, .int 0]
def jT_10 : u_T := fun k => match k with
  | 0 => ("BeanContexts$Bean", "definition", "I", true)
  | 1 => ("BeanContexts$Bean", "home", "LBeanContexts$Context;", true)
  | 2 => ("BeanContexts$Bean", "isMock", "Z", true)
  | 3 => ("BeanContexts$Bean", "wires", "[I", true)
  | 4 => ("BeanContexts$Bean", "answer", "I", false)
  | 5 => ("BeanContexts$Bean", "count", "I", false)
  | _ => ("BeanContexts$Bean", "last", "I", false)
def jy_10 : Nat → FieldType := fun k => match k with
  | 0 => .int
  | 1 => .object "BeanContexts$Context"
  | 2 => .boolean
  | 3 => .array .int
  | 4 => .int
  | 5 => .int
  | _ => .int
abbrev jdv_10 : List Value := [.int 0, .null, .int 0, .null, .int 0, .int 0, .int 0]
def jT_11 : u_T := fun k => match k with
  | 0 => ("BeanContextsModel", "capacity", "I", true)
  | 1 => ("BeanContextsModel", "extended", "[Z", true)
  | 2 => ("BeanContextsModel", "definitions", "I", false)
  | 3 => ("BeanContextsModel", "typeOf", "[I", true)
  | 4 => ("BeanContextsModel", "flagsOf", "[I", true)
  | 5 => ("BeanContextsModel", "qualifierOf", "[I", true)
  | 6 => ("BeanContextsModel", "profileOf", "[I", true)
  | 7 => ("BeanContextsModel", "needs", "[I", true)
  | 8 => ("BeanContextsModel", "needType", "[I", true)
  | 9 => ("BeanContextsModel", "needQualifier", "[I", true)
  | 10 => ("BeanContextsModel", "needName", "[I", true)
  | 11 => ("BeanContextsModel", "configurations", "I", false)
  | 12 => ("BeanContextsModel", "inside", "[I", true)
  | 13 => ("BeanContextsModel", "mocked", "[I", true)
  | 14 => ("BeanContextsModel", "parentOf", "[I", true)
  | 15 => ("BeanContextsModel", "failed", "[I", true)
  | 16 => ("BeanContextsModel", "builds", "I", false)
  | 17 => ("BeanContextsModel", "keyOf", "[I", true)
  | 18 => ("BeanContextsModel", "above", "[I", true)
  | 19 => ("BeanContextsModel", "kept", "[Z", true)
  | 20 => ("BeanContextsModel", "used", "[I", true)
  | 21 => ("BeanContextsModel", "clock", "I", false)
  | 22 => ("BeanContextsModel", "shut", "Z", false)
  | 23 => ("BeanContextsModel", "beans", "I", false)
  | 24 => ("BeanContextsModel", "home", "[I", true)
  | 25 => ("BeanContextsModel", "kind", "[I", true)
  | 26 => ("BeanContextsModel", "mock", "[Z", true)
  | 27 => ("BeanContextsModel", "gone", "[Z", true)
  | 28 => ("BeanContextsModel", "given", "[I", true)
  | 29 => ("BeanContextsModel", "answer", "[I", true)
  | 30 => ("BeanContextsModel", "calls", "[I", true)
  | 31 => ("BeanContextsModel", "last", "[I", true)
  | 32 => ("BeanContextsModel", "depth", "I", false)
  | 33 => ("BeanContextsModel", "madeIn", "[I", true)
  | 34 => ("BeanContextsModel", "madeOf", "[I", true)
  | 35 => ("BeanContextsModel", "filled", "[I", true)
  | 36 => ("BeanContextsModel", "parts", "[I", true)
  | 37 => ("BeanContextsModel", "foundIn", "I", false)
  | 38 => ("BeanContextsModel", "events", "I", false)
  | _ => ("BeanContextsModel", "log", "[I", true)
def jy_11 : Nat → FieldType := fun k => match k with
  | 0 => .int
  | 1 => .array .boolean
  | 2 => .int
  | 3 => .array .int
  | 4 => .array .int
  | 5 => .array .int
  | 6 => .array .int
  | 7 => .array .int
  | 8 => .array .int
  | 9 => .array .int
  | 10 => .array .int
  | 11 => .int
  | 12 => .array .int
  | 13 => .array .int
  | 14 => .array .int
  | 15 => .array .int
  | 16 => .int
  | 17 => .array .int
  | 18 => .array .int
  | 19 => .array .boolean
  | 20 => .array .int
  | 21 => .int
  | 22 => .boolean
  | 23 => .int
  | 24 => .array .int
  | 25 => .array .int
  | 26 => .array .boolean
  | 27 => .array .boolean
  | 28 => .array .int
  | 29 => .array .int
  | 30 => .array .int
  | 31 => .array .int
  | 32 => .int
  | 33 => .array .int
  | 34 => .array .int
  | 35 => .array .int
  | 36 => .array .int
  | 37 => .int
  | 38 => .int
  | _ => .array .int
abbrev jdv_11 : List Value := [.int 0, .null, .int 0, .null, .null, .null, .null, .null, .null, .null, .null, .int 0, .null, .null, .null, .null, .int 0, .null, .null, .null, .null, .int 0, .int 0, .int 0, .null, .null, .null, .null, .null, .null, .null, .null, .int 0, .null, .null, .null, .null, .int 0, .int 0, .null]
abbrev qC : List vw_C := [("BeanContexts", jT_0, 6), ("BeanContexts$Catalog", jT_1, 2), ("java/util/ArrayList", jT_2, 3), ("BeanContexts$Journal", jT_3, 2), ("BeanContexts$Workshop", jT_4, 3), ("BeanContexts$Shelf", jT_5, 5), ("BeanContexts$Definition", jT_6, 5), ("BeanContexts$Need", jT_7, 3), ("BeanContexts$Key", jT_8, 7), ("BeanContexts$Context", jT_9, 7), ("BeanContexts$Bean", jT_10, 7), ("BeanContextsModel", jT_11, 40)]
def q_MT : List q_M := [jq_Bc_init, jq_Ca_init, jq_AL_init, jq_AbL_init, jq_AbC_init, jq_Jo_init, jq_Sh_init, jq_Wo_init, jq_Bc_cached, jq_Sh_numberAt, jq_Bc_isBelow, jq_AL_get, jq_AL_elementData, jq_Obs_checkIndex, jq_Pre_checkIndex, jq_AL_size, jq_Bc_call, jq_Wo_answerOf, jq_Be_note, jq_Wo_liveBean, jq_Bc_configure, jq_Bc_isConfiguration, jq_Bc_isProfile, jq_Bc_sharedKey, jq_Ca_flagged, jq_Ke_init, jq_Ca_ofProfile, jq_Ke_canBeParent, jq_AL_add, jq_AL_add3, jq_AL_grow, jq_AL_growTo, jq_Arr_copyOf, jq_Arr_copyOfC, jq_ArS_newLength, jq_ArS_hugeLength, jq_Bc_define, jq_Bc_isQualifier, jq_Bc_isType, jq_Ca_add, jq_Ca_size, jq_De_init, jq_AL_isEmpty, jq_Bc_definition, jq_Bc_dirty, jq_Bc_contextOf, jq_Sh_cachedFor, jq_Sh_close, jq_Jo_write, jq_Sh_removeFromOrder, jq_AL_remove, jq_AL_fastRemove, jq_Wo_destroyBeans, jq_Bc_contains, jq_Bc_event, jq_Jo_before, jq_Bc_events, jq_Jo_size, jq_Bc_extend, jq_Ca_addKind, jq_Ca_isKind, jq_Bc_failures, jq_Bc_get, jq_Bc_isName, jq_Ne_init, jq_Rec_init, jq_Wo_supplyNeed, jq_Ca_candidates, jq_Ne_qualifier, jq_Ne_type, jq_Ca_choose, jq_Int_bitCount, jq_Int_numberOfTrailingZeros, jq_Ne_name, jq_Wo_supply, jq_Be_init, jq_Wo_assemble, jq_Ca_at, jq_Wo_keep, jq_Bc_key, jq_Bc_need, jq_De_addNeed, jq_Bc_recorded, jq_Wo_liveMock, jq_Bc_request, jq_Sh_obtain, jq_Sh_build, jq_Co_init, jq_Arr_fill, jq_Sh_putUp, jq_Sh_displaceFor, jq_Co_hasAncestor, jq_Sh_use, jq_AL_addAt, jq_AL_rangeCheckForAdd, jq_Sh_takeBack, jq_Bc_reset, jq_Wo_clearMocks, jq_Be_clear, jq_Bc_shutdown, jq_Sh_closeAll, jq_Bc_stub, jq_Bc_wired, jq_La_cell, jq_Mo_init, jq_Mo_cached, jq_Mo_call, jq_Mo_live, jq_Mo_in, jq_Mo_configure, jq_Mo_isConfiguration, jq_Mo_define, jq_Mo_definition, jq_Mo_dirty, jq_Mo_cachedFor, jq_Mo_contextOf, jq_Mo_key, jq_Mo_equal, jq_Mo_close, jq_Mo_child, jq_Mo_closeOne, jq_Mo_destroy, jq_Mo_many, jq_Mo_isMocked, jq_Mo_note, jq_Mo_event, jq_Mo_events, jq_Mo_extend, jq_Mo_is, jq_Mo_failures, jq_Mo_get, jq_Mo_asked, jq_Mo_find, jq_Mo_isIn, jq_Mo_supply, jq_Mo_make, jq_Mo_start, jq_Mo_beanOf, jq_Mo_need, jq_Mo_recorded, jq_Mo_request, jq_Mo_obtain, jq_Mo_build, jq_Mo_displace, jq_Mo_isAbove, jq_Mo_keptNow, jq_Mo_use, jq_Mo_stamp, jq_Mo_parentKey, jq_Mo_reset, jq_Mo_shutdown, jq_Mo_stub, jq_Mo_wired]
def q_FL : List q_F := [("BeanContexts", 10, 0, 0, "BeanContexts", none, (.object "BeanContexts$Catalog"), true), ("BeanContexts", 19, 0, 1, "BeanContexts", none, (.object "java/util/ArrayList"), true), ("BeanContexts", 26, 0, 2, "BeanContexts", none, (.object "BeanContexts$Journal"), true), ("BeanContexts", 35, 0, 3, "BeanContexts", none, (.object "BeanContexts$Workshop"), true), ("BeanContexts", 53, 0, 4, "BeanContexts", none, (.object "BeanContexts$Shelf"), true), ("BeanContexts$Catalog", 9, 1, 0, "BeanContexts$Catalog", none, (.array .int), true), ("BeanContexts$Catalog", 18, 1, 1, "BeanContexts$Catalog", none, (.object "java/util/ArrayList"), true), ("java/util/ArrayList", 9, 2, 1, "java/util/ArrayList", none, (.array (.object "java/lang/Object")), false), ("java/util/AbstractList", 7, 2, 0, "java/util/AbstractList", none, .int, false), ("BeanContexts$Journal", 9, 3, 0, "BeanContexts$Journal", none, (.array .int), true), ("BeanContexts$Shelf", 12, 5, 3, "BeanContexts$Shelf", none, (.object "java/util/ArrayList"), true), ("BeanContexts$Shelf", 18, 5, 4, "BeanContexts$Shelf", none, (.object "java/util/ArrayList"), true), ("BeanContexts$Shelf", 21, 5, 0, "BeanContexts$Shelf", none, .int, true), ("BeanContexts$Shelf", 25, 5, 1, "BeanContexts$Shelf", none, (.object "BeanContexts$Workshop"), true), ("BeanContexts$Shelf", 29, 5, 2, "BeanContexts$Shelf", none, (.object "BeanContexts$Journal"), true), ("BeanContexts$Workshop", 12, 4, 2, "BeanContexts$Workshop", none, (.object "java/util/ArrayList"), true), ("BeanContexts$Workshop", 18, 4, 0, "BeanContexts$Workshop", none, (.object "BeanContexts$Catalog"), true), ("BeanContexts$Workshop", 22, 4, 1, "BeanContexts$Workshop", none, (.object "BeanContexts$Journal"), true), ("BeanContexts$Shelf", 51, 9, 0, "BeanContexts$Context", some "BeanContexts", .int, true), ("java/util/ArrayList", 48, 2, 2, "java/util/ArrayList", none, .int, false), ("BeanContexts$Workshop", 141, 10, 2, "BeanContexts$Bean", some "BeanContexts", .boolean, true), ("BeanContexts$Workshop", 121, 10, 0, "BeanContexts$Bean", some "BeanContexts", .int, true), ("BeanContexts$Workshop", 144, 10, 3, "BeanContexts$Bean", some "BeanContexts", (.array .int), true), ("BeanContexts$Bean", 25, 10, 5, "BeanContexts$Bean", none, .int, false), ("BeanContexts$Bean", 28, 10, 6, "BeanContexts$Bean", none, .int, false), ("BeanContexts$Bean", 31, 10, 4, "BeanContexts$Bean", none, .int, false), ("BeanContexts$Workshop", 118, 10, 1, "BeanContexts$Bean", some "BeanContexts", (.object "BeanContexts$Context"), true), ("BeanContexts$Workshop", 130, 9, 6, "BeanContexts$Context", some "BeanContexts", .boolean, false), ("BeanContexts", 210, 8, 1, "BeanContexts$Key", some "BeanContexts", .int, true), ("BeanContexts", 213, 8, 2, "BeanContexts$Key", some "BeanContexts", .int, true), ("BeanContexts", 216, 8, 5, "BeanContexts$Key", some "BeanContexts", (.object "BeanContexts$Key"), true), ("BeanContexts$Catalog", 47, 6, 1, "BeanContexts$Definition", some "BeanContexts", .int, true), ("BeanContexts$Key", 7, 8, 0, "BeanContexts$Key", none, .int, true), ("BeanContexts$Key", 13, 8, 1, "BeanContexts$Key", none, .int, true), ("BeanContexts$Key", 16, 8, 2, "BeanContexts$Key", none, .int, true), ("BeanContexts$Key", 19, 8, 3, "BeanContexts$Key", none, .int, true), ("BeanContexts$Key", 22, 8, 4, "BeanContexts$Key", none, .int, true), ("BeanContexts$Key", 25, 8, 5, "BeanContexts$Key", none, (.object "BeanContexts$Key"), true), ("BeanContexts$Catalog", 43, 6, 3, "BeanContexts$Definition", some "BeanContexts", .int, true), ("java/util/ArrayList", 63, 2, 0, "java/util/ArrayList", none, .int, false), ("BeanContexts$Definition", 12, 6, 4, "BeanContexts$Definition", none, (.object "java/util/ArrayList"), true), ("BeanContexts$Definition", 18, 6, 0, "BeanContexts$Definition", none, .int, true), ("BeanContexts$Definition", 22, 6, 1, "BeanContexts$Definition", none, .int, true), ("BeanContexts$Definition", 25, 6, 2, "BeanContexts$Definition", none, .int, true), ("BeanContexts$Definition", 28, 6, 3, "BeanContexts$Definition", none, .int, true), ("BeanContexts", 193, 10, 0, "BeanContexts$Bean", some "BeanContexts", .int, true), ("BeanContexts$Shelf", 43, 9, 1, "BeanContexts$Context", some "BeanContexts", (.object "BeanContexts$Key"), true), ("BeanContexts$Shelf", 106, 9, 5, "BeanContexts$Context", some "BeanContexts", .boolean, false), ("BeanContexts$Shelf", 133, 9, 2, "BeanContexts$Context", some "BeanContexts", (.object "BeanContexts$Context"), true), ("BeanContexts$Journal", 15, 3, 1, "BeanContexts$Journal", none, .int, false), ("BeanContexts$Workshop", 26, 9, 1, "BeanContexts$Context", some "BeanContexts", (.object "BeanContexts$Key"), true), ("BeanContexts$Workshop", 62, 8, 3, "BeanContexts$Key", some "BeanContexts", .int, true), ("BeanContexts", 199, 8, 6, "BeanContexts$Key", some "BeanContexts", .int, false), ("BeanContexts$Need", 7, 7, 0, "BeanContexts$Need", none, .int, true), ("BeanContexts$Need", 13, 7, 1, "BeanContexts$Need", none, .int, true), ("BeanContexts$Need", 16, 7, 2, "BeanContexts$Need", none, .int, true), ("BeanContexts$Workshop", 32, 8, 1, "BeanContexts$Key", some "BeanContexts", .int, true), ("BeanContexts$Workshop", 58, 9, 2, "BeanContexts$Context", some "BeanContexts", (.object "BeanContexts$Context"), true), ("BeanContexts$Catalog", 50, 6, 0, "BeanContexts$Definition", some "BeanContexts", .int, true), ("BeanContexts$Catalog", 60, 6, 2, "BeanContexts$Definition", some "BeanContexts", .int, true), ("BeanContexts$Workshop", 73, 8, 2, "BeanContexts$Key", some "BeanContexts", .int, true), ("BeanContexts$Workshop", 85, 9, 4, "BeanContexts$Context", some "BeanContexts", .int, false), ("BeanContexts$Workshop", 69, 9, 3, "BeanContexts$Context", some "BeanContexts", (.array .int), true), ("BeanContexts$Bean", 7, 10, 0, "BeanContexts$Bean", none, .int, true), ("BeanContexts$Bean", 13, 10, 1, "BeanContexts$Bean", none, (.object "BeanContexts$Context"), true), ("BeanContexts$Bean", 17, 10, 2, "BeanContexts$Bean", none, .boolean, true), ("BeanContexts$Bean", 21, 10, 3, "BeanContexts$Bean", none, (.array .int), true), ("BeanContexts$Workshop", 95, 6, 4, "BeanContexts$Definition", some "BeanContexts", (.object "java/util/ArrayList"), true), ("BeanContexts$Workshop", 111, 6, 1, "BeanContexts$Definition", some "BeanContexts", .int, true), ("BeanContexts", 135, 8, 0, "BeanContexts$Key", some "BeanContexts", .int, true), ("BeanContexts", 183, 10, 6, "BeanContexts$Bean", some "BeanContexts", .int, false), ("BeanContexts", 180, 10, 5, "BeanContexts$Bean", some "BeanContexts", .int, false), ("BeanContexts", 139, 0, 5, "BeanContexts", none, .boolean, false), ("BeanContexts$Shelf", 62, 8, 6, "BeanContexts$Key", some "BeanContexts", .int, false), ("BeanContexts$Shelf", 67, 8, 5, "BeanContexts$Key", some "BeanContexts", (.object "BeanContexts$Key"), true), ("BeanContexts$Shelf", 85, 8, 4, "BeanContexts$Key", some "BeanContexts", .int, true), ("BeanContexts$Context", 9, 9, 3, "BeanContexts$Context", none, (.array .int), true), ("BeanContexts$Context", 15, 9, 0, "BeanContexts$Context", none, .int, true), ("BeanContexts$Context", 19, 9, 1, "BeanContexts$Context", none, (.object "BeanContexts$Key"), true), ("BeanContexts$Context", 23, 9, 2, "BeanContexts$Context", none, (.object "BeanContexts$Context"), true), ("BeanContexts", 175, 10, 4, "BeanContexts$Bean", some "BeanContexts", .int, false), ("BeanContexts", 189, 10, 3, "BeanContexts$Bean", some "BeanContexts", (.array .int), true), ("BeanContextsModel", 7, 11, 1, "BeanContextsModel", none, (.array .boolean), true), ("BeanContextsModel", 13, 11, 3, "BeanContextsModel", none, (.array .int), true), ("BeanContextsModel", 17, 11, 4, "BeanContextsModel", none, (.array .int), true), ("BeanContextsModel", 20, 11, 5, "BeanContextsModel", none, (.array .int), true), ("BeanContextsModel", 23, 11, 6, "BeanContextsModel", none, (.array .int), true), ("BeanContextsModel", 26, 11, 7, "BeanContextsModel", none, (.array .int), true), ("BeanContextsModel", 29, 11, 8, "BeanContextsModel", none, (.array .int), true), ("BeanContextsModel", 32, 11, 9, "BeanContextsModel", none, (.array .int), true), ("BeanContextsModel", 35, 11, 10, "BeanContextsModel", none, (.array .int), true), ("BeanContextsModel", 38, 11, 12, "BeanContextsModel", none, (.array .int), true), ("BeanContextsModel", 41, 11, 13, "BeanContextsModel", none, (.array .int), true), ("BeanContextsModel", 44, 11, 14, "BeanContextsModel", none, (.array .int), true), ("BeanContextsModel", 47, 11, 15, "BeanContextsModel", none, (.array .int), true), ("BeanContextsModel", 50, 11, 17, "BeanContextsModel", none, (.array .int), true), ("BeanContextsModel", 53, 11, 18, "BeanContextsModel", none, (.array .int), true), ("BeanContextsModel", 56, 11, 19, "BeanContextsModel", none, (.array .boolean), true), ("BeanContextsModel", 59, 11, 20, "BeanContextsModel", none, (.array .int), true), ("BeanContextsModel", 62, 11, 24, "BeanContextsModel", none, (.array .int), true), ("BeanContextsModel", 65, 11, 25, "BeanContextsModel", none, (.array .int), true), ("BeanContextsModel", 68, 11, 26, "BeanContextsModel", none, (.array .boolean), true), ("BeanContextsModel", 71, 11, 27, "BeanContextsModel", none, (.array .boolean), true), ("BeanContextsModel", 74, 11, 28, "BeanContextsModel", none, (.array .int), true), ("BeanContextsModel", 77, 11, 29, "BeanContextsModel", none, (.array .int), true), ("BeanContextsModel", 80, 11, 30, "BeanContextsModel", none, (.array .int), true), ("BeanContextsModel", 83, 11, 31, "BeanContextsModel", none, (.array .int), true), ("BeanContextsModel", 86, 11, 33, "BeanContextsModel", none, (.array .int), true), ("BeanContextsModel", 89, 11, 34, "BeanContextsModel", none, (.array .int), true), ("BeanContextsModel", 92, 11, 35, "BeanContextsModel", none, (.array .int), true), ("BeanContextsModel", 95, 11, 36, "BeanContextsModel", none, (.array .int), true), ("BeanContextsModel", 98, 11, 39, "BeanContextsModel", none, (.array .int), true), ("BeanContextsModel", 101, 11, 0, "BeanContextsModel", none, .int, true), ("BeanContextsModel", 169, 11, 16, "BeanContextsModel", none, .int, false), ("BeanContextsModel", 135, 11, 23, "BeanContextsModel", none, .int, false), ("BeanContextsModel", 116, 11, 11, "BeanContextsModel", none, .int, false), ("BeanContextsModel", 119, 11, 2, "BeanContextsModel", none, .int, false), ("BeanContextsModel", 105, 11, 38, "BeanContextsModel", none, .int, false), ("BeanContextsModel", 141, 11, 37, "BeanContextsModel", none, .int, false), ("BeanContextsModel", 159, 11, 32, "BeanContextsModel", none, .int, false), ("BeanContextsModel", 220, 11, 22, "BeanContextsModel", none, .boolean, false), ("BeanContextsModel", 180, 11, 21, "BeanContextsModel", none, .int, false)]
def q_SL : List (String × Nat) := [("java/util/ArrayList", 39)]
def q_NL : List q_N := [("BeanContextsLaw", 7, 0, jdv_0), ("BeanContextsLaw", 18, 11, jdv_11), ("BeanContexts", 7, 1, jdv_1), ("BeanContexts", 16, 2, jdv_2), ("BeanContexts", 23, 3, jdv_3), ("BeanContexts", 30, 4, jdv_4), ("BeanContexts", 39, 5, jdv_5), ("BeanContexts$Catalog", 15, 2, jdv_2), ("BeanContexts$Shelf", 9, 2, jdv_2), ("BeanContexts$Workshop", 9, 2, jdv_2), ("BeanContexts", 119, 8, jdv_8), ("BeanContexts", 86, 6, jdv_6), ("BeanContexts$Definition", 9, 2, jdv_2), ("BeanContexts", 102, 7, jdv_7), ("BeanContexts$Workshop", 76, 10, jdv_10), ("BeanContexts$Shelf", 41, 9, jdv_9)]
def q_KL : List (String × Nat × String) := [("BeanContexts$Shelf", 41, "BeanContexts$Context"), ("BeanContexts$Workshop", 76, "BeanContexts$Bean"), ("BeanContexts", 119, "BeanContexts$Key"), ("BeanContexts$Catalog", 37, "BeanContexts$Definition"), ("BeanContexts$Workshop", 45, "BeanContexts$Need")]
def q_DL : List (String × Nat × Int64) := [("BeanContexts", 166, 4294967296), ("BeanContextsModel", 233, 4294967296)]
def q_IL : List (String × Nat × Int32) := [("jdk/internal/util/ArraysSupport", 200, 2147483639), ("java/lang/Integer", 265, 1431655765), ("java/lang/Integer", 266, 858993459), ("java/lang/Integer", 267, 252645135), ("java/lang/Integer", 264, 65536)]
def q_ML : List (String × Nat) := [("java/util/Arrays", 110)]
def q_OL : List (String × Nat) := [("BeanContexts", 1), ("BeanContexts$Catalog", 3), ("java/util/AbstractCollection", 1), ("BeanContexts$Journal", 3), ("BeanContexts$Shelf", 3), ("BeanContexts$Workshop", 3), ("BeanContexts$Key", 1), ("BeanContexts$Definition", 3), ("java/lang/Record", 1), ("BeanContexts$Bean", 1), ("BeanContexts$Context", 3), ("BeanContextsModel", 1)]
def q_GL : List (String × Nat) := [("java/util/Arrays", 86)]
def q_YL : List (String × Nat) := [("java/util/Arrays", 150), ("java/util/ArrayList", 112)]
def q_QL : List (String × Nat) := [("java/util/ArrayList", 7), ("java/util/Arrays", 2)]
def q_XL : List (String × Nat) := [("BeanContexts", 47), ("java/util/ArrayList", 79), ("jdk/internal/util/ArraysSupport", 194)]
def q_VL : List (String × Nat) := [("BeanContexts", 41), ("java/util/Arrays", 304)]
def q_CS : List q_L := [("BeanContextsLaw", 9, jq_La_cell, none), ("BeanContexts$Shelf", 47, jq_Bc_isBelow, some "BeanContexts"), ("java/util/ArrayList", 118, jq_Obs_checkIndex, none), ("java/util/Objects", 105, jq_Pre_checkIndex, none), ("BeanContexts$Workshop", 134, jq_Bc_isBelow, some "BeanContexts"), ("BeanContexts", 83, jq_Bc_isProfile, none), ("BeanContexts", 77, jq_Bc_isBelow, none), ("java/util/ArrayList", 73, jq_ArS_newLength, none), ("java/util/ArrayList", 66, jq_Arr_copyOf, none), ("java/util/Arrays", 300, jq_Arr_copyOfC, none), ("jdk/internal/util/ArraysSupport", 201, jq_ArS_hugeLength, none), ("BeanContexts", 61, jq_Bc_isType, none), ("BeanContexts", 80, jq_Bc_isQualifier, none), ("BeanContexts$Workshop", 65, jq_Bc_contains, some "BeanContexts"), ("BeanContexts$Journal", 19, jq_Bc_isBelow, some "BeanContexts"), ("BeanContexts$Catalog", 22, jq_Bc_contains, some "BeanContexts"), ("BeanContexts", 95, jq_Bc_isName, none), ("BeanContexts$Catalog", 62, jq_Int_bitCount, none), ("BeanContexts$Catalog", 68, jq_Int_numberOfTrailingZeros, none), ("BeanContexts$Shelf", 88, jq_Bc_contains, some "BeanContexts"), ("BeanContexts$Context", 27, jq_Arr_fill, none), ("BeanContextsModel", 108, jq_Mo_in, none), ("BeanContextsModel", 122, jq_Mo_asked, none)]
def q_CV : List q_L := [("BeanContextsLaw", 21, jq_Bc_extend, none), ("BeanContextsLaw", 25, jq_Mo_extend, none), ("BeanContextsLaw", 26, jq_Bc_define, none), ("BeanContextsLaw", 30, jq_Mo_define, none), ("BeanContextsLaw", 31, jq_Bc_need, none), ("BeanContextsLaw", 35, jq_Mo_need, none), ("BeanContextsLaw", 36, jq_Bc_configure, none), ("BeanContextsLaw", 39, jq_Mo_configure, none), ("BeanContextsLaw", 40, jq_Bc_key, none), ("BeanContextsLaw", 44, jq_Mo_key, none), ("BeanContextsLaw", 45, jq_Bc_request, none), ("BeanContextsLaw", 48, jq_Mo_request, none), ("BeanContextsLaw", 49, jq_Bc_dirty, none), ("BeanContextsLaw", 52, jq_Mo_dirty, none), ("BeanContextsLaw", 53, jq_Bc_shutdown, none), ("BeanContextsLaw", 57, jq_Mo_shutdown, none), ("BeanContextsLaw", 58, jq_Bc_get, none), ("BeanContextsLaw", 61, jq_Mo_get, none), ("BeanContextsLaw", 62, jq_Bc_call, none), ("BeanContextsLaw", 66, jq_Mo_call, none), ("BeanContextsLaw", 67, jq_Bc_stub, none), ("BeanContextsLaw", 70, jq_Mo_stub, none), ("BeanContextsLaw", 71, jq_Bc_recorded, none), ("BeanContextsLaw", 74, jq_Mo_recorded, none), ("BeanContextsLaw", 75, jq_Bc_reset, none), ("BeanContextsLaw", 78, jq_Mo_reset, none), ("BeanContextsLaw", 79, jq_Bc_wired, none), ("BeanContextsLaw", 83, jq_Mo_wired, none), ("BeanContextsLaw", 84, jq_Bc_definition, none), ("BeanContextsLaw", 87, jq_Mo_definition, none), ("BeanContextsLaw", 88, jq_Bc_cached, none), ("BeanContextsLaw", 91, jq_Mo_cached, none), ("BeanContextsLaw", 92, jq_Bc_failures, none), ("BeanContextsLaw", 95, jq_Mo_failures, none), ("BeanContextsLaw", 96, jq_Bc_events, none), ("BeanContextsLaw", 99, jq_Mo_events, none), ("BeanContextsLaw", 100, jq_Bc_event, none), ("BeanContextsLaw", 103, jq_Mo_event, none), ("BeanContexts", 196, jq_Sh_numberAt, none), ("BeanContexts$Shelf", 33, jq_AL_size, none), ("BeanContexts$Shelf", 37, jq_AL_get, none), ("java/util/ArrayList", 123, jq_AL_elementData, none), ("BeanContexts", 162, jq_Wo_liveBean, none), ("BeanContexts", 168, jq_Wo_answerOf, none), ("BeanContexts$Workshop", 147, jq_Be_note, none), ("BeanContexts$Workshop", 103, jq_AL_get, none), ("BeanContexts$Workshop", 100, jq_AL_size, none), ("BeanContexts", 111, jq_AL_size, none), ("BeanContexts", 115, jq_AL_get, none), ("BeanContexts", 124, jq_Ca_ofProfile, none), ("BeanContexts", 128, jq_Bc_sharedKey, none), ("BeanContexts", 132, jq_AL_add, none), ("BeanContexts", 112, jq_Bc_isConfiguration, none), ("BeanContexts", 121, jq_Ke_canBeParent, none), ("BeanContexts", 220, jq_Ca_flagged, none), ("BeanContexts$Catalog", 29, jq_AL_size, none), ("BeanContexts$Catalog", 33, jq_AL_get, none), ("java/util/ArrayList", 131, jq_AL_add3, none), ("java/util/ArrayList", 129, jq_AL_grow, none), ("java/util/ArrayList", 69, jq_AL_growTo, none), ("BeanContexts", 57, jq_AL_isEmpty, none), ("BeanContexts", 73, jq_Ca_size, none), ("BeanContexts", 91, jq_Ca_add, none), ("BeanContexts$Catalog", 39, jq_AL_add, none), ("BeanContexts", 147, jq_Bc_contextOf, none), ("BeanContexts", 151, jq_Sh_close, none), ("BeanContexts", 206, jq_Sh_cachedFor, none), ("BeanContexts$Shelf", 116, jq_Wo_destroyBeans, none), ("BeanContexts$Shelf", 127, jq_Sh_removeFromOrder, none), ("BeanContexts$Shelf", 110, jq_Jo_write, none), ("BeanContexts$Shelf", 123, jq_Sh_close, none), ("BeanContexts$Shelf", 136, jq_AL_remove, none), ("java/util/ArrayList", 144, jq_AL_fastRemove, none), ("BeanContexts$Workshop", 124, jq_Jo_write, none), ("BeanContexts", 203, jq_Jo_before, none), ("BeanContexts", 202, jq_Jo_size, none), ("BeanContexts", 65, jq_Ca_isKind, none), ("BeanContexts", 69, jq_Ca_addKind, none), ("BeanContexts$Catalog", 26, jq_Ca_isKind, none), ("BeanContexts", 158, jq_Wo_supplyNeed, none), ("BeanContexts$Workshop", 38, jq_Ca_candidates, none), ("BeanContexts$Workshop", 44, jq_Ne_name, none), ("BeanContexts$Workshop", 50, jq_Ca_choose, none), ("BeanContexts$Workshop", 54, jq_Wo_supply, none), ("BeanContexts$Catalog", 53, jq_Ne_type, none), ("BeanContexts$Catalog", 57, jq_Ne_qualifier, none), ("BeanContexts$Catalog", 71, jq_Ca_flagged, none), ("BeanContexts$Workshop", 88, jq_Wo_assemble, none), ("BeanContexts$Workshop", 81, jq_Wo_keep, none), ("BeanContexts$Workshop", 91, jq_Ca_at, none), ("BeanContexts$Workshop", 107, jq_Wo_supplyNeed, none), ("BeanContexts$Workshop", 114, jq_AL_add, none), ("BeanContexts", 98, jq_Ca_at, none), ("BeanContexts", 107, jq_De_addNeed, none), ("BeanContexts$Definition", 31, jq_AL_size, none), ("BeanContexts$Definition", 35, jq_AL_add, none), ("BeanContexts", 172, jq_Wo_liveMock, none), ("BeanContexts$Workshop", 137, jq_Wo_liveBean, none), ("BeanContexts", 143, jq_Sh_obtain, none), ("BeanContexts$Shelf", 54, jq_Sh_cachedFor, none), ("BeanContexts$Shelf", 74, jq_Sh_obtain, none), ("BeanContexts$Shelf", 70, jq_Sh_build, none), ("BeanContexts$Shelf", 58, jq_Sh_use, none), ("BeanContexts$Shelf", 81, jq_AL_add, none), ("BeanContexts$Shelf", 100, jq_Sh_putUp, none), ("BeanContexts$Shelf", 91, jq_Wo_supply, none), ("BeanContexts$Shelf", 97, jq_Sh_takeBack, none), ("BeanContexts$Shelf", 103, jq_Sh_displaceFor, none), ("BeanContexts$Shelf", 119, jq_Co_hasAncestor, none), ("BeanContexts$Shelf", 130, jq_AL_addAt, none), ("java/util/ArrayList", 135, jq_AL_rangeCheckForAdd, none), ("BeanContexts", 186, jq_Wo_clearMocks, none), ("BeanContexts$Workshop", 155, jq_Be_clear, none), ("BeanContexts$Workshop", 151, jq_Co_hasAncestor, none), ("BeanContexts", 155, jq_Sh_closeAll, none), ("BeanContextsModel", 230, jq_Mo_live, none), ("BeanContextsModel", 125, jq_Mo_isConfiguration, none), ("BeanContextsModel", 227, jq_Mo_cachedFor, none), ("BeanContextsModel", 211, jq_Mo_close, none), ("BeanContextsModel", 172, jq_Mo_key, none), ("BeanContextsModel", 183, jq_Mo_contextOf, none), ("BeanContextsModel", 129, jq_Mo_equal, none), ("BeanContextsModel", 214, jq_Mo_child, none), ("BeanContextsModel", 217, jq_Mo_closeOne, none), ("BeanContextsModel", 198, jq_Mo_destroy, none), ("BeanContextsModel", 144, jq_Mo_note, none), ("BeanContextsModel", 148, jq_Mo_many, none), ("BeanContextsModel", 132, jq_Mo_isMocked, none), ("BeanContextsModel", 112, jq_Mo_is, none), ("BeanContextsModel", 165, jq_Mo_find, none), ("BeanContextsModel", 195, jq_Mo_supply, none), ("BeanContextsModel", 138, jq_Mo_isIn, none), ("BeanContextsModel", 162, jq_Mo_start, none), ("BeanContextsModel", 155, jq_Mo_make, none), ("BeanContextsModel", 151, jq_Mo_beanOf, none), ("BeanContextsModel", 224, jq_Mo_obtain, none), ("BeanContextsModel", 186, jq_Mo_parentKey, none), ("BeanContextsModel", 192, jq_Mo_build, none), ("BeanContextsModel", 189, jq_Mo_use, none), ("BeanContextsModel", 201, jq_Mo_keptNow, none), ("BeanContextsModel", 205, jq_Mo_displace, none), ("BeanContextsModel", 208, jq_Mo_isAbove, none), ("BeanContextsModel", 176, jq_Mo_stamp, none)]
def q_CI : List q_L := [("BeanContextsLaw", 15, jq_Bc_init, none), ("BeanContextsLaw", 20, jq_Mo_init, none), ("BeanContexts", 9, jq_Ca_init, none), ("BeanContexts", 18, jq_AL_init, none), ("BeanContexts", 25, jq_Jo_init, some "BeanContexts"), ("BeanContexts", 32, jq_Wo_init, none), ("BeanContexts", 50, jq_Sh_init, none), ("BeanContexts$Catalog", 17, jq_AL_init, none), ("java/util/ArrayList", 1, jq_AbL_init, none), ("java/util/AbstractList", 1, jq_AbC_init, none), ("BeanContexts$Shelf", 11, jq_AL_init, none), ("BeanContexts$Workshop", 11, jq_AL_init, none), ("BeanContexts", 223, jq_Ke_init, none), ("BeanContexts", 88, jq_De_init, none), ("BeanContexts$Definition", 11, jq_AL_init, none), ("BeanContexts", 104, jq_Ne_init, some "BeanContexts"), ("BeanContexts$Need", 1, jq_Rec_init, none), ("BeanContexts$Workshop", 78, jq_Be_init, none), ("BeanContexts$Shelf", 78, jq_Co_init, none)]
def q_AL : List Nat := [6, 7, 8, 9, 10]
