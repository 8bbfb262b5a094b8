/-- a private method of a class that the tables say can be made, by its rows of tables_1 -/
def lw_okq (q : MethodName × Nat) : Prop := (q.1.cls ≠ "java/lang/invoke/MethodHandle" ∧ q.1.cls ≠ "java/lang/invoke/VarHandle") ∧ Cond.instantiable q.1.cls q.2 ∈ tables_1 ∧ Cond.privateMethod q.1 ∈ tables_1 ∧ Cond.instanceMethod q.1 ∈ tables_1
theorem lw_p0 : lw_okq (⟨"DamageView", "addBox", "(ILDamageView$Box;)I"⟩, 7) := ⟨⟨by decide +kernel, by decide +kernel⟩, List.mem_of_getElem? (i := 12) (by decide +kernel), List.mem_of_getElem? (i := 88) (by decide +kernel), List.mem_of_getElem? (i := 89) (by decide +kernel)⟩
theorem lw_p1 : lw_okq (⟨"DamageView", "showChanges", "()V"⟩, 7) := ⟨⟨by decide +kernel, by decide +kernel⟩, List.mem_of_getElem? (i := 12) (by decide +kernel), List.mem_of_getElem? (i := 151) (by decide +kernel), List.mem_of_getElem? (i := 152) (by decide +kernel)⟩
theorem lw_p2 : lw_okq (⟨"DamageView", "showBox", "(LDamageView$Box;)V"⟩, 7) := ⟨⟨by decide +kernel, by decide +kernel⟩, List.mem_of_getElem? (i := 12) (by decide +kernel), List.mem_of_getElem? (i := 191) (by decide +kernel), List.mem_of_getElem? (i := 192) (by decide +kernel)⟩
theorem lw_p3 : lw_okq (⟨"DamageView", "colourOf", "(LDamageView$Box;)I"⟩, 7) := ⟨⟨by decide +kernel, by decide +kernel⟩, List.mem_of_getElem? (i := 12) (by decide +kernel), List.mem_of_getElem? (i := 195) (by decide +kernel), List.mem_of_getElem? (i := 196) (by decide +kernel)⟩
theorem lw_p4 : lw_okq (⟨"DamageView", "isBox", "(I)Z"⟩, 7) := ⟨⟨by decide +kernel, by decide +kernel⟩, List.mem_of_getElem? (i := 12) (by decide +kernel), List.mem_of_getElem? (i := 240) (by decide +kernel), List.mem_of_getElem? (i := 241) (by decide +kernel)⟩
theorem lw_p5 : lw_okq (⟨"DamageView$Layout", "solve", "()Z"⟩, 6) := ⟨⟨by decide +kernel, by decide +kernel⟩, List.mem_of_getElem? (i := 37) (by decide +kernel), List.mem_of_getElem? (i := 293) (by decide +kernel), List.mem_of_getElem? (i := 294) (by decide +kernel)⟩
theorem lw_p6 : lw_okq (⟨"DamageView$Layout", "demandAll", "()V"⟩, 6) := ⟨⟨by decide +kernel, by decide +kernel⟩, List.mem_of_getElem? (i := 37) (by decide +kernel), List.mem_of_getElem? (i := 297) (by decide +kernel), List.mem_of_getElem? (i := 298) (by decide +kernel)⟩
theorem lw_p7 : lw_okq (⟨"DamageView$Layout", "chooseBest", "()V"⟩, 6) := ⟨⟨by decide +kernel, by decide +kernel⟩, List.mem_of_getElem? (i := 37) (by decide +kernel), List.mem_of_getElem? (i := 328) (by decide +kernel), List.mem_of_getElem? (i := 329) (by decide +kernel)⟩
theorem lw_p8 : lw_okq (⟨"DamageView", "isInnerBox", "(I)Z"⟩, 7) := ⟨⟨by decide +kernel, by decide +kernel⟩, List.mem_of_getElem? (i := 12) (by decide +kernel), List.mem_of_getElem? (i := 401) (by decide +kernel), List.mem_of_getElem? (i := 402) (by decide +kernel)⟩
theorem lw_p9 : lw_okq (⟨"DamageView", "isLastOfItsParent", "(LDamageView$Box;)Z"⟩, 7) := ⟨⟨by decide +kernel, by decide +kernel⟩, List.mem_of_getElem? (i := 12) (by decide +kernel), List.mem_of_getElem? (i := 409) (by decide +kernel), List.mem_of_getElem? (i := 410) (by decide +kernel)⟩
theorem lw_p10 : lw_okq (⟨"DamageView", "bringToFront", "(LDamageView$Box;)V"⟩, 7) := ⟨⟨by decide +kernel, by decide +kernel⟩, List.mem_of_getElem? (i := 12) (by decide +kernel), List.mem_of_getElem? (i := 413) (by decide +kernel), List.mem_of_getElem? (i := 414) (by decide +kernel)⟩
theorem lw_p11 : lw_okq (⟨"DamageView", "frontBox", "(II)LDamageView$Box;"⟩, 7) := ⟨⟨by decide +kernel, by decide +kernel⟩, List.mem_of_getElem? (i := 12) (by decide +kernel), List.mem_of_getElem? (i := 421) (by decide +kernel), List.mem_of_getElem? (i := 422) (by decide +kernel)⟩
theorem lw_p12 : lw_okq (⟨"DamageView", "frontChild", "(LDamageView$Box;II)LDamageView$Box;"⟩, 7) := ⟨⟨by decide +kernel, by decide +kernel⟩, List.mem_of_getElem? (i := 12) (by decide +kernel), List.mem_of_getElem? (i := 425) (by decide +kernel), List.mem_of_getElem? (i := 426) (by decide +kernel)⟩
theorem lw_p13 : lw_okq (⟨"DamageView", "pictureAt", "(II)I"⟩, 7) := ⟨⟨by decide +kernel, by decide +kernel⟩, List.mem_of_getElem? (i := 12) (by decide +kernel), List.mem_of_getElem? (i := 479) (by decide +kernel), List.mem_of_getElem? (i := 480) (by decide +kernel)⟩
theorem lw_p14 : lw_okq (⟨"DamageViewModel", "look", "()V"⟩, 29) := ⟨⟨by decide +kernel, by decide +kernel⟩, List.mem_of_getElem? (i := 498) (by decide +kernel), List.mem_of_getElem? (i := 504) (by decide +kernel), List.mem_of_getElem? (i := 505) (by decide +kernel)⟩
theorem lw_p15 : lw_okq (⟨"DamageViewModel", "can", "(I)Z"⟩, 29) := ⟨⟨by decide +kernel, by decide +kernel⟩, List.mem_of_getElem? (i := 498) (by decide +kernel), List.mem_of_getElem? (i := 508) (by decide +kernel), List.mem_of_getElem? (i := 509) (by decide +kernel)⟩
def lw_privs_1 : List (MethodName × Nat) := [(⟨"DamageView", "addBox", "(ILDamageView$Box;)I"⟩, 7), (⟨"DamageView", "showChanges", "()V"⟩, 7), (⟨"DamageView", "showBox", "(LDamageView$Box;)V"⟩, 7), (⟨"DamageView", "colourOf", "(LDamageView$Box;)I"⟩, 7), (⟨"DamageView", "isBox", "(I)Z"⟩, 7), (⟨"DamageView$Layout", "solve", "()Z"⟩, 6), (⟨"DamageView$Layout", "demandAll", "()V"⟩, 6), (⟨"DamageView$Layout", "chooseBest", "()V"⟩, 6), (⟨"DamageView", "isInnerBox", "(I)Z"⟩, 7), (⟨"DamageView", "isLastOfItsParent", "(LDamageView$Box;)Z"⟩, 7), (⟨"DamageView", "bringToFront", "(LDamageView$Box;)V"⟩, 7), (⟨"DamageView", "frontBox", "(II)LDamageView$Box;"⟩, 7), (⟨"DamageView", "frontChild", "(LDamageView$Box;II)LDamageView$Box;"⟩, 7), (⟨"DamageView", "pictureAt", "(II)I"⟩, 7), (⟨"DamageViewModel", "look", "()V"⟩, 29), (⟨"DamageViewModel", "can", "(I)Z"⟩, 29)]
theorem lw_r1 : ∀ q ∈ lw_privs_1, lw_okq q := List.forall_mem_cons.mpr ⟨lw_p0, List.forall_mem_cons.mpr ⟨lw_p1, List.forall_mem_cons.mpr ⟨lw_p2, List.forall_mem_cons.mpr ⟨lw_p3, List.forall_mem_cons.mpr ⟨lw_p4, List.forall_mem_cons.mpr ⟨lw_p5, List.forall_mem_cons.mpr ⟨lw_p6, List.forall_mem_cons.mpr ⟨lw_p7, List.forall_mem_cons.mpr ⟨lw_p8, List.forall_mem_cons.mpr ⟨lw_p9, List.forall_mem_cons.mpr ⟨lw_p10, List.forall_mem_cons.mpr ⟨lw_p11, List.forall_mem_cons.mpr ⟨lw_p12, List.forall_mem_cons.mpr ⟨lw_p13, List.forall_mem_cons.mpr ⟨lw_p14, List.forall_mem_cons.mpr ⟨lw_p15, fun _ h => absurd h List.not_mem_nil⟩⟩⟩⟩⟩⟩⟩⟩⟩⟩⟩⟩⟩⟩⟩⟩
theorem lw_p16 : lw_okq (⟨"DamageViewModel", "someArea", "(I)Z"⟩, 29) := ⟨⟨by decide +kernel, by decide +kernel⟩, List.mem_of_getElem? (i := 498) (by decide +kernel), List.mem_of_getElem? (i := 512) (by decide +kernel), List.mem_of_getElem? (i := 513) (by decide +kernel)⟩
theorem lw_p17 : lw_okq (⟨"DamageViewModel", "inArea", "(III)Z"⟩, 29) := ⟨⟨by decide +kernel, by decide +kernel⟩, List.mem_of_getElem? (i := 498) (by decide +kernel), List.mem_of_getElem? (i := 516) (by decide +kernel), List.mem_of_getElem? (i := 517) (by decide +kernel)⟩
theorem lw_p18 : lw_okq (⟨"DamageViewModel", "covers", "(III)Z"⟩, 29) := ⟨⟨by decide +kernel, by decide +kernel⟩, List.mem_of_getElem? (i := 498) (by decide +kernel), List.mem_of_getElem? (i := 520) (by decide +kernel), List.mem_of_getElem? (i := 521) (by decide +kernel)⟩
theorem lw_p19 : lw_okq (⟨"DamageViewModel", "colour", "(I)I"⟩, 29) := ⟨⟨by decide +kernel, by decide +kernel⟩, List.mem_of_getElem? (i := 498) (by decide +kernel), List.mem_of_getElem? (i := 524) (by decide +kernel), List.mem_of_getElem? (i := 525) (by decide +kernel)⟩
theorem lw_p20 : lw_okq (⟨"DamageViewModel", "isBox", "(I)Z"⟩, 29) := ⟨⟨by decide +kernel, by decide +kernel⟩, List.mem_of_getElem? (i := 498) (by decide +kernel), List.mem_of_getElem? (i := 620) (by decide +kernel), List.mem_of_getElem? (i := 621) (by decide +kernel)⟩
theorem lw_p21 : lw_okq (⟨"DamageViewModel", "isEdge", "(I)Z"⟩, 29) := ⟨⟨by decide +kernel, by decide +kernel⟩, List.mem_of_getElem? (i := 498) (by decide +kernel), List.mem_of_getElem? (i := 628) (by decide +kernel), List.mem_of_getElem? (i := 629) (by decide +kernel)⟩
theorem lw_p22 : lw_okq (⟨"DamageViewModel", "solve", "(II)Z"⟩, 29) := ⟨⟨by decide +kernel, by decide +kernel⟩, List.mem_of_getElem? (i := 498) (by decide +kernel), List.mem_of_getElem? (i := 635) (by decide +kernel), List.mem_of_getElem? (i := 636) (by decide +kernel)⟩
theorem lw_p23 : lw_okq (⟨"DamageViewModel", "required", "()V"⟩, 29) := ⟨⟨by decide +kernel, by decide +kernel⟩, List.mem_of_getElem? (i := 498) (by decide +kernel), List.mem_of_getElem? (i := 639) (by decide +kernel), List.mem_of_getElem? (i := 640) (by decide +kernel)⟩
theorem lw_p24 : lw_okq (⟨"DamageViewModel", "exactly", "(III)V"⟩, 29) := ⟨⟨by decide +kernel, by decide +kernel⟩, List.mem_of_getElem? (i := 498) (by decide +kernel), List.mem_of_getElem? (i := 643) (by decide +kernel), List.mem_of_getElem? (i := 644) (by decide +kernel)⟩
theorem lw_p25 : lw_okq (⟨"DamageViewModel", "atLeast", "(III)V"⟩, 29) := ⟨⟨by decide +kernel, by decide +kernel⟩, List.mem_of_getElem? (i := 498) (by decide +kernel), List.mem_of_getElem? (i := 647) (by decide +kernel), List.mem_of_getElem? (i := 648) (by decide +kernel)⟩
theorem lw_p26 : lw_okq (⟨"DamageViewModel", "row", "(III)V"⟩, 29) := ⟨⟨by decide +kernel, by decide +kernel⟩, List.mem_of_getElem? (i := 498) (by decide +kernel), List.mem_of_getElem? (i := 651) (by decide +kernel), List.mem_of_getElem? (i := 652) (by decide +kernel)⟩
theorem lw_p27 : lw_okq (⟨"DamageViewModel", "conflict", "()Z"⟩, 29) := ⟨⟨by decide +kernel, by decide +kernel⟩, List.mem_of_getElem? (i := 498) (by decide +kernel), List.mem_of_getElem? (i := 655) (by decide +kernel), List.mem_of_getElem? (i := 656) (by decide +kernel)⟩
theorem lw_p28 : lw_okq (⟨"DamageViewModel", "lower", "()Z"⟩, 29) := ⟨⟨by decide +kernel, by decide +kernel⟩, List.mem_of_getElem? (i := 498) (by decide +kernel), List.mem_of_getElem? (i := 659) (by decide +kernel), List.mem_of_getElem? (i := 660) (by decide +kernel)⟩
theorem lw_p29 : lw_okq (⟨"DamageViewModel", "settle", "(III)I"⟩, 29) := ⟨⟨by decide +kernel, by decide +kernel⟩, List.mem_of_getElem? (i := 498) (by decide +kernel), List.mem_of_getElem? (i := 664) (by decide +kernel), List.mem_of_getElem? (i := 665) (by decide +kernel)⟩
theorem lw_p30 : lw_okq (⟨"DamageViewModel", "most", "(II)I"⟩, 29) := ⟨⟨by decide +kernel, by decide +kernel⟩, List.mem_of_getElem? (i := 498) (by decide +kernel), List.mem_of_getElem? (i := 668) (by decide +kernel), List.mem_of_getElem? (i := 669) (by decide +kernel)⟩
theorem lw_p31 : lw_okq (⟨"DamageViewModel", "soft", "(I)V"⟩, 29) := ⟨⟨by decide +kernel, by decide +kernel⟩, List.mem_of_getElem? (i := 498) (by decide +kernel), List.mem_of_getElem? (i := 672) (by decide +kernel), List.mem_of_getElem? (i := 673) (by decide +kernel)⟩
def lw_privs_2 : List (MethodName × Nat) := [(⟨"DamageViewModel", "someArea", "(I)Z"⟩, 29), (⟨"DamageViewModel", "inArea", "(III)Z"⟩, 29), (⟨"DamageViewModel", "covers", "(III)Z"⟩, 29), (⟨"DamageViewModel", "colour", "(I)I"⟩, 29), (⟨"DamageViewModel", "isBox", "(I)Z"⟩, 29), (⟨"DamageViewModel", "isEdge", "(I)Z"⟩, 29), (⟨"DamageViewModel", "solve", "(II)Z"⟩, 29), (⟨"DamageViewModel", "required", "()V"⟩, 29), (⟨"DamageViewModel", "exactly", "(III)V"⟩, 29), (⟨"DamageViewModel", "atLeast", "(III)V"⟩, 29), (⟨"DamageViewModel", "row", "(III)V"⟩, 29), (⟨"DamageViewModel", "conflict", "()Z"⟩, 29), (⟨"DamageViewModel", "lower", "()Z"⟩, 29), (⟨"DamageViewModel", "settle", "(III)I"⟩, 29), (⟨"DamageViewModel", "most", "(II)I"⟩, 29), (⟨"DamageViewModel", "soft", "(I)V"⟩, 29)]
theorem lw_r2 : ∀ q ∈ lw_privs_2, lw_okq q := List.forall_mem_cons.mpr ⟨lw_p16, List.forall_mem_cons.mpr ⟨lw_p17, List.forall_mem_cons.mpr ⟨lw_p18, List.forall_mem_cons.mpr ⟨lw_p19, List.forall_mem_cons.mpr ⟨lw_p20, List.forall_mem_cons.mpr ⟨lw_p21, List.forall_mem_cons.mpr ⟨lw_p22, List.forall_mem_cons.mpr ⟨lw_p23, List.forall_mem_cons.mpr ⟨lw_p24, List.forall_mem_cons.mpr ⟨lw_p25, List.forall_mem_cons.mpr ⟨lw_p26, List.forall_mem_cons.mpr ⟨lw_p27, List.forall_mem_cons.mpr ⟨lw_p28, List.forall_mem_cons.mpr ⟨lw_p29, List.forall_mem_cons.mpr ⟨lw_p30, List.forall_mem_cons.mpr ⟨lw_p31, fun _ h => absurd h List.not_mem_nil⟩⟩⟩⟩⟩⟩⟩⟩⟩⟩⟩⟩⟩⟩⟩⟩
theorem lw_p32 : lw_okq (⟨"DamageViewModel", "isConstraint", "(I)Z"⟩, 29) := ⟨⟨by decide +kernel, by decide +kernel⟩, List.mem_of_getElem? (i := 498) (by decide +kernel), List.mem_of_getElem? (i := 680) (by decide +kernel), List.mem_of_getElem? (i := 681) (by decide +kernel)⟩
theorem lw_p33 : lw_okq (⟨"DamageViewModel", "isLast", "(I)Z"⟩, 29) := ⟨⟨by decide +kernel, by decide +kernel⟩, List.mem_of_getElem? (i := 498) (by decide +kernel), List.mem_of_getElem? (i := 708) (by decide +kernel), List.mem_of_getElem? (i := 709) (by decide +kernel)⟩
theorem lw_p34 : lw_okq (⟨"DamageViewModel", "inFront", "(II)Z"⟩, 29) := ⟨⟨by decide +kernel, by decide +kernel⟩, List.mem_of_getElem? (i := 498) (by decide +kernel), List.mem_of_getElem? (i := 716) (by decide +kernel), List.mem_of_getElem? (i := 717) (by decide +kernel)⟩
theorem lw_p35 : lw_okq (⟨"DamageViewModel", "activate", "(I)V"⟩, 29) := ⟨⟨by decide +kernel, by decide +kernel⟩, List.mem_of_getElem? (i := 498) (by decide +kernel), List.mem_of_getElem? (i := 729) (by decide +kernel), List.mem_of_getElem? (i := 730) (by decide +kernel)⟩
def lw_privs_3 : List (MethodName × Nat) := [(⟨"DamageViewModel", "isConstraint", "(I)Z"⟩, 29), (⟨"DamageViewModel", "isLast", "(I)Z"⟩, 29), (⟨"DamageViewModel", "inFront", "(II)Z"⟩, 29), (⟨"DamageViewModel", "activate", "(I)V"⟩, 29)]
theorem lw_r3 : ∀ q ∈ lw_privs_3, lw_okq q := List.forall_mem_cons.mpr ⟨lw_p32, List.forall_mem_cons.mpr ⟨lw_p33, List.forall_mem_cons.mpr ⟨lw_p34, List.forall_mem_cons.mpr ⟨lw_p35, fun _ h => absurd h List.not_mem_nil⟩⟩⟩⟩
def lw_privs : List (MethodName × Nat) := lw_privs_1 ++ (lw_privs_2 ++ (lw_privs_3))
def lw_tbl : List Cond := k2_sels lw_privs ++ tables_1
theorem lw_privs_ok : ∀ q ∈ lw_privs, lw_okq q := by
  show ∀ q ∈ lw_privs_1 ++ (lw_privs_2 ++ (lw_privs_3)), lw_okq q
  exact List.forall_mem_append.mpr ⟨lw_r1, List.forall_mem_append.mpr ⟨lw_r2, lw_r3⟩⟩
def TbDV : u_T := fun k => match k with
  | 0 => ("DamageView", "layout", "LDamageView$Layout;", true)
  | 1 => ("DamageView", "screen", "LDamageView$Screen;", true)
  | 2 => ("DamageView", "boxes", "[LDamageView$Box;", true)
  | 3 => ("DamageView", "order", "[LDamageView$Box;", true)
  | 4 => ("DamageView", "boxCount", "I", false)
  | 5 => ("DamageView", "focus", "LDamageView$Box;", false)
  | _ => ("DamageView", "pressed", "LDamageView$Box;", false)
def tyDV : Nat → FieldType := fun k => match k with
  | 0 => .object "DamageView$Layout"
  | 1 => .object "DamageView$Screen"
  | 2 => .array (.object "DamageView$Box")
  | 3 => .array (.object "DamageView$Box")
  | 4 => .int
  | 5 => .object "DamageView$Box"
  | _ => .object "DamageView$Box"
def TbSC : u_T := fun k => match k with
  | 0 => ("DamageView$Screen", "frame", "[I", true)
  | _ => ("DamageView$Screen", "damaged", "[Z", true)
def tySC : Nat → FieldType := fun k => match k with
  | 0 => .array .int
  | _ => .array .boolean
def TbLA : u_T := fun k => match k with
  | 0 => ("DamageView$Layout", "places", "[I", true)
  | 1 => ("DamageView$Layout", "edgeCount", "I", false)
  | 2 => ("DamageView$Layout", "constraints", "[LDamageView$Constraint;", true)
  | 3 => ("DamageView$Layout", "bounds", "LDamageView$Bounds;", true)
  | 4 => ("DamageView$Layout", "width", "I", false)
  | _ => ("DamageView$Layout", "height", "I", false)
def tyLA : Nat → FieldType := fun k => match k with
  | 0 => .array .int
  | 1 => .int
  | 2 => .array (.object "DamageView$Constraint")
  | 3 => .object "DamageView$Bounds"
  | 4 => .int
  | _ => .int
def TbBD : u_T := fun k => match k with
  | 0 => ("DamageView$Bounds", "rise", "[[I", true)
  | 1 => ("DamageView$Bounds", "edgeCount", "I", false)
  | _ => ("DamageView$Bounds", "conflict", "Z", false)
def tyBD : Nat → FieldType := fun k => match k with
  | 0 => .array (.array .int)
  | 1 => .int
  | _ => .boolean
def TbBX : u_T := fun k => match k with
  | 0 => ("DamageView$Box", "number", "I", true)
  | 1 => ("DamageView$Box", "kind", "I", true)
  | 2 => ("DamageView$Box", "parent", "LDamageView$Box;", true)
  | 3 => ("DamageView$Box", "area", "LDamageView$Area;", true)
  | 4 => ("DamageView$Box", "areaBefore", "LDamageView$Area;", true)
  | 5 => ("DamageView$Box", "colour", "I", false)
  | 6 => ("DamageView$Box", "activations", "I", false)
  | 7 => ("DamageView$Box", "hidden", "Z", false)
  | _ => ("DamageView$Box", "on", "Z", false)
def tyBX : Nat → FieldType := fun k => match k with
  | 0 => .int
  | 1 => .int
  | 2 => .object "DamageView$Box"
  | 3 => .object "DamageView$Area"
  | 4 => .object "DamageView$Area"
  | 5 => .int
  | 6 => .int
  | 7 => .boolean
  | _ => .boolean
def TbAR : u_T := fun k => match k with
  | 0 => ("DamageView$Area", "left", "I", false)
  | 1 => ("DamageView$Area", "right", "I", false)
  | 2 => ("DamageView$Area", "top", "I", false)
  | _ => ("DamageView$Area", "bottom", "I", false)
def tyAR : Nat → FieldType := fun k => match k with
  | 0 => .int
  | 1 => .int
  | 2 => .int
  | _ => .int
def TbCN : u_T := fun k => match k with
  | 0 => ("DamageView$Constraint", "strength", "I", true)
  | 1 => ("DamageView$Constraint", "p", "I", true)
  | 2 => ("DamageView$Constraint", "q", "I", true)
  | 3 => ("DamageView$Constraint", "c", "I", true)
  | _ => ("DamageView$Constraint", "form", "I", true)
def tyCN : Nat → FieldType := fun k => match k with
  | 0 => .int
  | 1 => .int
  | 2 => .int
  | 3 => .int
  | _ => .int
def TbMO : u_T := fun k => match k with
  | 0 => ("DamageViewModel", "boxes", "I", false)
  | 1 => ("DamageViewModel", "kind", "[I", true)
  | 2 => ("DamageViewModel", "parent", "[I", true)
  | 3 => ("DamageViewModel", "hidden", "[Z", true)
  | 4 => ("DamageViewModel", "lit", "[Z", true)
  | 5 => ("DamageViewModel", "counts", "[I", true)
  | 6 => ("DamageViewModel", "rank", "[I", true)
  | 7 => ("DamageViewModel", "ranks", "I", false)
  | 8 => ("DamageViewModel", "width", "I", false)
  | 9 => ("DamageViewModel", "height", "I", false)
  | 10 => ("DamageViewModel", "places", "[I", true)
  | 11 => ("DamageViewModel", "found", "[I", true)
  | 12 => ("DamageViewModel", "used", "[Z", true)
  | 13 => ("DamageViewModel", "first", "[I", true)
  | 14 => ("DamageViewModel", "second", "[I", true)
  | 15 => ("DamageViewModel", "apart", "[I", true)
  | 16 => ("DamageViewModel", "form", "[I", true)
  | 17 => ("DamageViewModel", "strength", "[I", true)
  | 18 => ("DamageViewModel", "rows", "I", false)
  | 19 => ("DamageViewModel", "tail", "[I", true)
  | 20 => ("DamageViewModel", "head", "[I", true)
  | 21 => ("DamageViewModel", "weight", "[I", true)
  | 22 => ("DamageViewModel", "reach", "[I", true)
  | 23 => ("DamageViewModel", "focus", "I", false)
  | 24 => ("DamageViewModel", "pressed", "I", false)
  | 25 => ("DamageViewModel", "area", "[Z", true)
  | 26 => ("DamageViewModel", "colours", "[I", true)
  | 27 => ("DamageViewModel", "damaged", "[Z", true)
  | _ => ("DamageViewModel", "frame", "[I", true)
def tyMO : Nat → FieldType := fun k => match k with
  | 0 => .int
  | 1 => .array .int
  | 2 => .array .int
  | 3 => .array .boolean
  | 4 => .array .boolean
  | 5 => .array .int
  | 6 => .array .int
  | 7 => .int
  | 8 => .int
  | 9 => .int
  | 10 => .array .int
  | 11 => .array .int
  | 12 => .array .boolean
  | 13 => .array .int
  | 14 => .array .int
  | 15 => .array .int
  | 16 => .array .int
  | 17 => .array .int
  | 18 => .int
  | 19 => .array .int
  | 20 => .array .int
  | 21 => .array .int
  | 22 => .array .int
  | 23 => .int
  | 24 => .int
  | 25 => .array .boolean
  | 26 => .array .int
  | 27 => .array .boolean
  | _ => .array .int
def vwCl : List vw_C := [("DamageView", TbDV, 7), ("DamageView$Screen", TbSC, 2), ("DamageView$Layout", TbLA, 6), ("DamageView$Bounds", TbBD, 3), ("DamageView$Box", TbBX, 9), ("DamageView$Area", TbAR, 4), ("DamageView$Constraint", TbCN, 5), ("DamageViewModel", TbMO, 29)]
def gNest : List Cond := [.methodLinkNest "DamageView" 11 ⟨"DamageView$Screen", "<init>", "()V"⟩ "DamageView", .methodLinkNest "DamageView$Layout" 23 ⟨"DamageView$Bounds", "<init>", "()V"⟩ "DamageView", .methodLinkNest "DamageView$Box" 11 ⟨"DamageView$Area", "<init>", "()V"⟩ "DamageView", .methodLinkNest "DamageView$Bounds" 47 ⟨"DamageView", "nearest", "(III)I"⟩ "DamageView"]
theorem gNest_warm {s U : State} (hW : s.WarmedH U.vm) (h : ∀ w ∈ gNest, va_Nw w s) : ∀ w ∈ gNest, va_Nw w U := by
  intro w hw
  have h0 := h w hw
  simp only [gNest, List.mem_cons, List.not_mem_nil, or_false] at hw
  rcases hw with rfl | rfl | rfl | rfl
  all_goals exact va_Nw.warmM hW h0
theorem gNest_same {w : Cond} (hw : w ∈ gNest) {u U : State} (h : u.vm = U.vm) (hZ : va_Nw w u) : va_Nw w U := by
  simp only [gNest, List.mem_cons, List.not_mem_nil, or_false] at hw
  rcases hw with rfl | rfl | rfl | rfl
  all_goals exact va_Nw.same rfl h hZ
