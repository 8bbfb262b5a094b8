section
/-- a private method of a class that the tables say can be made, by its rows of tables_1 -/
def lw_okq (q : MethodName × Nat) : Prop := (q.1.cls ≠ "java/lang/invoke/MethodHandle" ∧ q.1.cls ≠ "java/lang/invoke/VarHandle") ∧ Cond.instantiable q.1.cls q.2 ∈ tables_1 ∧ Cond.privateMethod q.1 ∈ tables_1 ∧ Cond.instanceMethod q.1 ∈ tables_1
theorem lw_p0 : lw_okq (⟨"DamageView", "addBox", "(ILDamageView$Box;)I"⟩, 7) := ⟨⟨by decide +kernel, by decide +kernel⟩, List.mem_of_getElem? (i := 12) (by decide +kernel), List.mem_of_getElem? (i := 88) (by decide +kernel), List.mem_of_getElem? (i := 89) (by decide +kernel)⟩
theorem lw_p1 : lw_okq (⟨"DamageView", "showChanges", "()V"⟩, 7) := ⟨⟨by decide +kernel, by decide +kernel⟩, List.mem_of_getElem? (i := 12) (by decide +kernel), List.mem_of_getElem? (i := 151) (by decide +kernel), List.mem_of_getElem? (i := 152) (by decide +kernel)⟩
theorem lw_p2 : lw_okq (⟨"DamageView", "showBox", "(LDamageView$Box;)V"⟩, 7) := ⟨⟨by decide +kernel, by decide +kernel⟩, List.mem_of_getElem? (i := 12) (by decide +kernel), List.mem_of_getElem? (i := 191) (by decide +kernel), List.mem_of_getElem? (i := 192) (by decide +kernel)⟩
theorem lw_p3 : lw_okq (⟨"DamageView", "colourOf", "(LDamageView$Box;)I"⟩, 7) := ⟨⟨by decide +kernel, by decide +kernel⟩, List.mem_of_getElem? (i := 12) (by decide +kernel), List.mem_of_getElem? (i := 195) (by decide +kernel), List.mem_of_getElem? (i := 196) (by decide +kernel)⟩
theorem lw_p4 : lw_okq (⟨"DamageView", "isBox", "(I)Z"⟩, 7) := ⟨⟨by decide +kernel, by decide +kernel⟩, List.mem_of_getElem? (i := 12) (by decide +kernel), List.mem_of_getElem? (i := 240) (by decide +kernel), List.mem_of_getElem? (i := 241) (by decide +kernel)⟩
theorem lw_p5 : lw_okq (⟨"DamageView$Layout", "solve", "()Z"⟩, 6) := ⟨⟨by decide +kernel, by decide +kernel⟩, List.mem_of_getElem? (i := 37) (by decide +kernel), List.mem_of_getElem? (i := 293) (by decide +kernel), List.mem_of_getElem? (i := 294) (by decide +kernel)⟩
theorem lw_p6 : lw_okq (⟨"DamageView$Layout", "demandAll", "()V"⟩, 6) := ⟨⟨by decide +kernel, by decide +kernel⟩, List.mem_of_getElem? (i := 37) (by decide +kernel), List.mem_of_getElem? (i := 297) (by decide +kernel), List.mem_of_getElem? (i := 298) (by decide +kernel)⟩
theorem lw_p7 : lw_okq (⟨"DamageView$Layout", "chooseBest", "()V"⟩, 6) := ⟨⟨by decide +kernel, by decide +kernel⟩, List.mem_of_getElem? (i := 37) (by decide +kernel), List.mem_of_getElem? (i := 328) (by decide +kernel), List.mem_of_getElem? (i := 329) (by decide +kernel)⟩
theorem lw_p8 : lw_okq (⟨"DamageView", "isInnerBox", "(I)Z"⟩, 7) := ⟨⟨by decide +kernel, by decide +kernel⟩, List.mem_of_getElem? (i := 12) (by decide +kernel), List.mem_of_getElem? (i := 401) (by decide +kernel), List.mem_of_getElem? (i := 402) (by decide +kernel)⟩
theorem lw_p9 : lw_okq (⟨"DamageView", "isLastOfItsParent", "(LDamageView$Box;)Z"⟩, 7) := ⟨⟨by decide +kernel, by decide +kernel⟩, List.mem_of_getElem? (i := 12) (by decide +kernel), List.mem_of_getElem? (i := 409) (by decide +kernel), List.mem_of_getElem? (i := 410) (by decide +kernel)⟩
theorem lw_p10 : lw_okq (⟨"DamageView", "bringToFront", "(LDamageView$Box;)V"⟩, 7) := ⟨⟨by decide +kernel, by decide +kernel⟩, List.mem_of_getElem? (i := 12) (by decide +kernel), List.mem_of_getElem? (i := 413) (by decide +kernel), List.mem_of_getElem? (i := 414) (by decide +kernel)⟩
theorem lw_p11 : lw_okq (⟨"DamageView", "frontBox", "(II)LDamageView$Box;"⟩, 7) := ⟨⟨by decide +kernel, by decide +kernel⟩, List.mem_of_getElem? (i := 12) (by decide +kernel), List.mem_of_getElem? (i := 421) (by decide +kernel), List.mem_of_getElem? (i := 422) (by decide +kernel)⟩
theorem lw_p12 : lw_okq (⟨"DamageView", "frontChild", "(LDamageView$Box;II)LDamageView$Box;"⟩, 7) := ⟨⟨by decide +kernel, by decide +kernel⟩, List.mem_of_getElem? (i := 12) (by decide +kernel), List.mem_of_getElem? (i := 425) (by decide +kernel), List.mem_of_getElem? (i := 426) (by decide +kernel)⟩
theorem lw_p13 : lw_okq (⟨"DamageView", "pictureAt", "(II)I"⟩, 7) := ⟨⟨by decide +kernel, by decide +kernel⟩, List.mem_of_getElem? (i := 12) (by decide +kernel), List.mem_of_getElem? (i := 479) (by decide +kernel), List.mem_of_getElem? (i := 480) (by decide +kernel)⟩
theorem lw_p14 : lw_okq (⟨"DamageViewModel", "look", "()V"⟩, 29) := ⟨⟨by decide +kernel, by decide +kernel⟩, List.mem_of_getElem? (i := 498) (by decide +kernel), List.mem_of_getElem? (i := 504) (by decide +kernel), List.mem_of_getElem? (i := 505) (by decide +kernel)⟩
theorem lw_p15 : lw_okq (⟨"DamageViewModel", "can", "(I)Z"⟩, 29) := ⟨⟨by decide +kernel, by decide +kernel⟩, List.mem_of_getElem? (i := 498) (by decide +kernel), List.mem_of_getElem? (i := 508) (by decide +kernel), List.mem_of_getElem? (i := 509) (by decide +kernel)⟩
def lw_privs_1 : List (MethodName × Nat) := [(⟨"DamageView", "addBox", "(ILDamageView$Box;)I"⟩, 7), (⟨"DamageView", "showChanges", "()V"⟩, 7), (⟨"DamageView", "showBox", "(LDamageView$Box;)V"⟩, 7), (⟨"DamageView", "colourOf", "(LDamageView$Box;)I"⟩, 7), (⟨"DamageView", "isBox", "(I)Z"⟩, 7), (⟨"DamageView$Layout", "solve", "()Z"⟩, 6), (⟨"DamageView$Layout", "demandAll", "()V"⟩, 6), (⟨"DamageView$Layout", "chooseBest", "()V"⟩, 6), (⟨"DamageView", "isInnerBox", "(I)Z"⟩, 7), (⟨"DamageView", "isLastOfItsParent", "(LDamageView$Box;)Z"⟩, 7), (⟨"DamageView", "bringToFront", "(LDamageView$Box;)V"⟩, 7), (⟨"DamageView", "frontBox", "(II)LDamageView$Box;"⟩, 7), (⟨"DamageView", "frontChild", "(LDamageView$Box;II)LDamageView$Box;"⟩, 7), (⟨"DamageView", "pictureAt", "(II)I"⟩, 7), (⟨"DamageViewModel", "look", "()V"⟩, 29), (⟨"DamageViewModel", "can", "(I)Z"⟩, 29)]
theorem lw_r1 : ∀ q ∈ lw_privs_1, lw_okq q := List.forall_mem_cons.mpr ⟨lw_p0, List.forall_mem_cons.mpr ⟨lw_p1, List.forall_mem_cons.mpr ⟨lw_p2, List.forall_mem_cons.mpr ⟨lw_p3, List.forall_mem_cons.mpr ⟨lw_p4, List.forall_mem_cons.mpr ⟨lw_p5, List.forall_mem_cons.mpr ⟨lw_p6, List.forall_mem_cons.mpr ⟨lw_p7, List.forall_mem_cons.mpr ⟨lw_p8, List.forall_mem_cons.mpr ⟨lw_p9, List.forall_mem_cons.mpr ⟨lw_p10, List.forall_mem_cons.mpr ⟨lw_p11, List.forall_mem_cons.mpr ⟨lw_p12, List.forall_mem_cons.mpr ⟨lw_p13, List.forall_mem_cons.mpr ⟨lw_p14, List.forall_mem_cons.mpr ⟨lw_p15, fun _ h => absurd h List.not_mem_nil⟩⟩⟩⟩⟩⟩⟩⟩⟩⟩⟩⟩⟩⟩⟩⟩
theorem lw_p16 : lw_okq (⟨"DamageViewModel", "someArea", "(I)Z"⟩, 29) := ⟨⟨by decide +kernel, by decide +kernel⟩, List.mem_of_getElem? (i := 498) (by decide +kernel), List.mem_of_getElem? (i := 512) (by decide +kernel), List.mem_of_getElem? (i := 513) (by decide +kernel)⟩
theorem lw_p17 : lw_okq (⟨"DamageViewModel", "inArea", "(III)Z"⟩, 29) := ⟨⟨by decide +kernel, by decide +kernel⟩, List.mem_of_getElem? (i := 498) (by decide +kernel), List.mem_of_getElem? (i := 516) (by decide +kernel), List.mem_of_getElem? (i := 517) (by decide +kernel)⟩
theorem lw_p18 : lw_okq (⟨"DamageViewModel", "covers", "(III)Z"⟩, 29) := ⟨⟨by decide +kernel, by decide +kernel⟩, List.mem_of_getElem? (i := 498) (by decide +kernel), List.mem_of_getElem? (i := 520) (by decide +kernel), List.mem_of_getElem? (i := 521) (by decide +kernel)⟩
theorem lw_p19 : lw_okq (⟨"DamageViewModel", "colour", "(I)I"⟩, 29) := ⟨⟨by decide +kernel, by decide +kernel⟩, List.mem_of_getElem? (i := 498) (by decide +kernel), List.mem_of_getElem? (i := 524) (by decide +kernel), List.mem_of_getElem? (i := 525) (by decide +kernel)⟩
theorem lw_p20 : lw_okq (⟨"DamageViewModel", "isBox", "(I)Z"⟩, 29) := ⟨⟨by decide +kernel, by decide +kernel⟩, List.mem_of_getElem? (i := 498) (by decide +kernel), List.mem_of_getElem? (i := 620) (by decide +kernel), List.mem_of_getElem? (i := 621) (by decide +kernel)⟩
theorem lw_p21 : lw_okq (⟨"DamageViewModel", "isEdge", "(I)Z"⟩, 29) := ⟨⟨by decide +kernel, by decide +kernel⟩, List.mem_of_getElem? (i := 498) (by decide +kernel), List.mem_of_getElem? (i := 628) (by decide +kernel), List.mem_of_getElem? (i := 629) (by decide +kernel)⟩
theorem lw_p22 : lw_okq (⟨"DamageViewModel", "solve", "(II)Z"⟩, 29) := ⟨⟨by decide +kernel, by decide +kernel⟩, List.mem_of_getElem? (i := 498) (by decide +kernel), List.mem_of_getElem? (i := 635) (by decide +kernel), List.mem_of_getElem? (i := 636) (by decide +kernel)⟩
theorem lw_p23 : lw_okq (⟨"DamageViewModel", "required", "()V"⟩, 29) := ⟨⟨by decide +kernel, by decide +kernel⟩, List.mem_of_getElem? (i := 498) (by decide +kernel), List.mem_of_getElem? (i := 639) (by decide +kernel), List.mem_of_getElem? (i := 640) (by decide +kernel)⟩
theorem lw_p24 : lw_okq (⟨"DamageViewModel", "exactly", "(III)V"⟩, 29) := ⟨⟨by decide +kernel, by decide +kernel⟩, List.mem_of_getElem? (i := 498) (by decide +kernel), List.mem_of_getElem? (i := 643) (by decide +kernel), List.mem_of_getElem? (i := 644) (by decide +kernel)⟩
theorem lw_p25 : lw_okq (⟨"DamageViewModel", "atLeast", "(III)V"⟩, 29) := ⟨⟨by decide +kernel, by decide +kernel⟩, List.mem_of_getElem? (i := 498) (by decide +kernel), List.mem_of_getElem? (i := 647) (by decide +kernel), List.mem_of_getElem? (i := 648) (by decide +kernel)⟩
theorem lw_p26 : lw_okq (⟨"DamageViewModel", "row", "(III)V"⟩, 29) := ⟨⟨by decide +kernel, by decide +kernel⟩, List.mem_of_getElem? (i := 498) (by decide +kernel), List.mem_of_getElem? (i := 651) (by decide +kernel), List.mem_of_getElem? (i := 652) (by decide +kernel)⟩
theorem lw_p27 : lw_okq (⟨"DamageViewModel", "conflict", "()Z"⟩, 29) := ⟨⟨by decide +kernel, by decide +kernel⟩, List.mem_of_getElem? (i := 498) (by decide +kernel), List.mem_of_getElem? (i := 655) (by decide +kernel), List.mem_of_getElem? (i := 656) (by decide +kernel)⟩
theorem lw_p28 : lw_okq (⟨"DamageViewModel", "lower", "()Z"⟩, 29) := ⟨⟨by decide +kernel, by decide +kernel⟩, List.mem_of_getElem? (i := 498) (by decide +kernel), List.mem_of_getElem? (i := 659) (by decide +kernel), List.mem_of_getElem? (i := 660) (by decide +kernel)⟩
theorem lw_p29 : lw_okq (⟨"DamageViewModel", "settle", "(III)I"⟩, 29) := ⟨⟨by decide +kernel, by decide +kernel⟩, List.mem_of_getElem? (i := 498) (by decide +kernel), List.mem_of_getElem? (i := 664) (by decide +kernel), List.mem_of_getElem? (i := 665) (by decide +kernel)⟩
theorem lw_p30 : lw_okq (⟨"DamageViewModel", "most", "(II)I"⟩, 29) := ⟨⟨by decide +kernel, by decide +kernel⟩, List.mem_of_getElem? (i := 498) (by decide +kernel), List.mem_of_getElem? (i := 668) (by decide +kernel), List.mem_of_getElem? (i := 669) (by decide +kernel)⟩
theorem lw_p31 : lw_okq (⟨"DamageViewModel", "soft", "(I)V"⟩, 29) := ⟨⟨by decide +kernel, by decide +kernel⟩, List.mem_of_getElem? (i := 498) (by decide +kernel), List.mem_of_getElem? (i := 672) (by decide +kernel), List.mem_of_getElem? (i := 673) (by decide +kernel)⟩
def lw_privs_2 : List (MethodName × Nat) := [(⟨"DamageViewModel", "someArea", "(I)Z"⟩, 29), (⟨"DamageViewModel", "inArea", "(III)Z"⟩, 29), (⟨"DamageViewModel", "covers", "(III)Z"⟩, 29), (⟨"DamageViewModel", "colour", "(I)I"⟩, 29), (⟨"DamageViewModel", "isBox", "(I)Z"⟩, 29), (⟨"DamageViewModel", "isEdge", "(I)Z"⟩, 29), (⟨"DamageViewModel", "solve", "(II)Z"⟩, 29), (⟨"DamageViewModel", "required", "()V"⟩, 29), (⟨"DamageViewModel", "exactly", "(III)V"⟩, 29), (⟨"DamageViewModel", "atLeast", "(III)V"⟩, 29), (⟨"DamageViewModel", "row", "(III)V"⟩, 29), (⟨"DamageViewModel", "conflict", "()Z"⟩, 29), (⟨"DamageViewModel", "lower", "()Z"⟩, 29), (⟨"DamageViewModel", "settle", "(III)I"⟩, 29), (⟨"DamageViewModel", "most", "(II)I"⟩, 29), (⟨"DamageViewModel", "soft", "(I)V"⟩, 29)]
theorem lw_r2 : ∀ q ∈ lw_privs_2, lw_okq q := List.forall_mem_cons.mpr ⟨lw_p16, List.forall_mem_cons.mpr ⟨lw_p17, List.forall_mem_cons.mpr ⟨lw_p18, List.forall_mem_cons.mpr ⟨lw_p19, List.forall_mem_cons.mpr ⟨lw_p20, List.forall_mem_cons.mpr ⟨lw_p21, List.forall_mem_cons.mpr ⟨lw_p22, List.forall_mem_cons.mpr ⟨lw_p23, List.forall_mem_cons.mpr ⟨lw_p24, List.forall_mem_cons.mpr ⟨lw_p25, List.forall_mem_cons.mpr ⟨lw_p26, List.forall_mem_cons.mpr ⟨lw_p27, List.forall_mem_cons.mpr ⟨lw_p28, List.forall_mem_cons.mpr ⟨lw_p29, List.forall_mem_cons.mpr ⟨lw_p30, List.forall_mem_cons.mpr ⟨lw_p31, fun _ h => absurd h List.not_mem_nil⟩⟩⟩⟩⟩⟩⟩⟩⟩⟩⟩⟩⟩⟩⟩⟩
theorem lw_p32 : lw_okq (⟨"DamageViewModel", "isConstraint", "(I)Z"⟩, 29) := ⟨⟨by decide +kernel, by decide +kernel⟩, List.mem_of_getElem? (i := 498) (by decide +kernel), List.mem_of_getElem? (i := 680) (by decide +kernel), List.mem_of_getElem? (i := 681) (by decide +kernel)⟩
theorem lw_p33 : lw_okq (⟨"DamageViewModel", "isLast", "(I)Z"⟩, 29) := ⟨⟨by decide +kernel, by decide +kernel⟩, List.mem_of_getElem? (i := 498) (by decide +kernel), List.mem_of_getElem? (i := 708) (by decide +kernel), List.mem_of_getElem? (i := 709) (by decide +kernel)⟩
theorem lw_p34 : lw_okq (⟨"DamageViewModel", "inFront", "(II)Z"⟩, 29) := ⟨⟨by decide +kernel, by decide +kernel⟩, List.mem_of_getElem? (i := 498) (by decide +kernel), List.mem_of_getElem? (i := 716) (by decide +kernel), List.mem_of_getElem? (i := 717) (by decide +kernel)⟩
theorem lw_p35 : lw_okq (⟨"DamageViewModel", "activate", "(I)V"⟩, 29) := ⟨⟨by decide +kernel, by decide +kernel⟩, List.mem_of_getElem? (i := 498) (by decide +kernel), List.mem_of_getElem? (i := 729) (by decide +kernel), List.mem_of_getElem? (i := 730) (by decide +kernel)⟩
def lw_privs_3 : List (MethodName × Nat) := [(⟨"DamageViewModel", "isConstraint", "(I)Z"⟩, 29), (⟨"DamageViewModel", "isLast", "(I)Z"⟩, 29), (⟨"DamageViewModel", "inFront", "(II)Z"⟩, 29), (⟨"DamageViewModel", "activate", "(I)V"⟩, 29)]
theorem lw_r3 : ∀ q ∈ lw_privs_3, lw_okq q := List.forall_mem_cons.mpr ⟨lw_p32, List.forall_mem_cons.mpr ⟨lw_p33, List.forall_mem_cons.mpr ⟨lw_p34, List.forall_mem_cons.mpr ⟨lw_p35, fun _ h => absurd h List.not_mem_nil⟩⟩⟩⟩
def lw_privs : List (MethodName × Nat) := lw_privs_1 ++ (lw_privs_2 ++ (lw_privs_3))
def lw_tbl : List Cond := k2_sels lw_privs ++ tables_1
theorem lw_privs_ok : ∀ q ∈ lw_privs, lw_okq q := by
  show ∀ q ∈ lw_privs_1 ++ (lw_privs_2 ++ (lw_privs_3)), lw_okq q
  exact List.forall_mem_append.mpr ⟨lw_r1, List.forall_mem_append.mpr ⟨lw_r2, lw_r3⟩⟩
def TbDV : u_T := fun k => match k with
  | 0 => ("DamageView", "layout", "LDamageView$Layout;", true)
  | 1 => ("DamageView", "screen", "LDamageView$Screen;", true)
  | 2 => ("DamageView", "boxes", "[LDamageView$Box;", true)
  | 3 => ("DamageView", "order", "[LDamageView$Box;", true)
  | 4 => ("DamageView", "boxCount", "I", false)
  | 5 => ("DamageView", "focus", "LDamageView$Box;", false)
  | _ => ("DamageView", "pressed", "LDamageView$Box;", false)
def tyDV : Nat → FieldType := fun k => match k with
  | 0 => .object "DamageView$Layout"
  | 1 => .object "DamageView$Screen"
  | 2 => .array (.object "DamageView$Box")
  | 3 => .array (.object "DamageView$Box")
  | 4 => .int
  | 5 => .object "DamageView$Box"
  | _ => .object "DamageView$Box"
def TbSC : u_T := fun k => match k with
  | 0 => ("DamageView$Screen", "frame", "[I", true)
  | _ => ("DamageView$Screen", "damaged", "[Z", true)
def tySC : Nat → FieldType := fun k => match k with
  | 0 => .array .int
  | _ => .array .boolean
def TbLA : u_T := fun k => match k with
  | 0 => ("DamageView$Layout", "places", "[I", true)
  | 1 => ("DamageView$Layout", "edgeCount", "I", false)
  | 2 => ("DamageView$Layout", "constraints", "[LDamageView$Constraint;", true)
  | 3 => ("DamageView$Layout", "bounds", "LDamageView$Bounds;", true)
  | 4 => ("DamageView$Layout", "width", "I", false)
  | _ => ("DamageView$Layout", "height", "I", false)
def tyLA : Nat → FieldType := fun k => match k with
  | 0 => .array .int
  | 1 => .int
  | 2 => .array (.object "DamageView$Constraint")
  | 3 => .object "DamageView$Bounds"
  | 4 => .int
  | _ => .int
def TbBD : u_T := fun k => match k with
  | 0 => ("DamageView$Bounds", "rise", "[[I", true)
  | 1 => ("DamageView$Bounds", "edgeCount", "I", false)
  | _ => ("DamageView$Bounds", "conflict", "Z", false)
def tyBD : Nat → FieldType := fun k => match k with
  | 0 => .array (.array .int)
  | 1 => .int
  | _ => .boolean
def TbBX : u_T := fun k => match k with
  | 0 => ("DamageView$Box", "number", "I", true)
  | 1 => ("DamageView$Box", "kind", "I", true)
  | 2 => ("DamageView$Box", "parent", "LDamageView$Box;", true)
  | 3 => ("DamageView$Box", "area", "LDamageView$Area;", true)
  | 4 => ("DamageView$Box", "areaBefore", "LDamageView$Area;", true)
  | 5 => ("DamageView$Box", "colour", "I", false)
  | 6 => ("DamageView$Box", "activations", "I", false)
  | 7 => ("DamageView$Box", "hidden", "Z", false)
  | _ => ("DamageView$Box", "on", "Z", false)
def tyBX : Nat → FieldType := fun k => match k with
  | 0 => .int
  | 1 => .int
  | 2 => .object "DamageView$Box"
  | 3 => .object "DamageView$Area"
  | 4 => .object "DamageView$Area"
  | 5 => .int
  | 6 => .int
  | 7 => .boolean
  | _ => .boolean
def TbAR : u_T := fun k => match k with
  | 0 => ("DamageView$Area", "left", "I", false)
  | 1 => ("DamageView$Area", "right", "I", false)
  | 2 => ("DamageView$Area", "top", "I", false)
  | _ => ("DamageView$Area", "bottom", "I", false)
def tyAR : Nat → FieldType := fun k => match k with
  | 0 => .int
  | 1 => .int
  | 2 => .int
  | _ => .int
def TbCN : u_T := fun k => match k with
  | 0 => ("DamageView$Constraint", "strength", "I", true)
  | 1 => ("DamageView$Constraint", "p", "I", true)
  | 2 => ("DamageView$Constraint", "q", "I", true)
  | 3 => ("DamageView$Constraint", "c", "I", true)
  | _ => ("DamageView$Constraint", "form", "I", true)
def tyCN : Nat → FieldType := fun k => match k with
  | 0 => .int
  | 1 => .int
  | 2 => .int
  | 3 => .int
  | _ => .int
def TbMO : u_T := fun k => match k with
  | 0 => ("DamageViewModel", "boxes", "I", false)
  | 1 => ("DamageViewModel", "kind", "[I", true)
  | 2 => ("DamageViewModel", "parent", "[I", true)
  | 3 => ("DamageViewModel", "hidden", "[Z", true)
  | 4 => ("DamageViewModel", "lit", "[Z", true)
  | 5 => ("DamageViewModel", "counts", "[I", true)
  | 6 => ("DamageViewModel", "rank", "[I", true)
  | 7 => ("DamageViewModel", "ranks", "I", false)
  | 8 => ("DamageViewModel", "width", "I", false)
  | 9 => ("DamageViewModel", "height", "I", false)
  | 10 => ("DamageViewModel", "places", "[I", true)
  | 11 => ("DamageViewModel", "found", "[I", true)
  | 12 => ("DamageViewModel", "used", "[Z", true)
  | 13 => ("DamageViewModel", "first", "[I", true)
  | 14 => ("DamageViewModel", "second", "[I", true)
  | 15 => ("DamageViewModel", "apart", "[I", true)
  | 16 => ("DamageViewModel", "form", "[I", true)
  | 17 => ("DamageViewModel", "strength", "[I", true)
  | 18 => ("DamageViewModel", "rows", "I", false)
  | 19 => ("DamageViewModel", "tail", "[I", true)
  | 20 => ("DamageViewModel", "head", "[I", true)
  | 21 => ("DamageViewModel", "weight", "[I", true)
  | 22 => ("DamageViewModel", "reach", "[I", true)
  | 23 => ("DamageViewModel", "focus", "I", false)
  | 24 => ("DamageViewModel", "pressed", "I", false)
  | 25 => ("DamageViewModel", "area", "[Z", true)
  | 26 => ("DamageViewModel", "colours", "[I", true)
  | 27 => ("DamageViewModel", "damaged", "[Z", true)
  | _ => ("DamageViewModel", "frame", "[I", true)
def tyMO : Nat → FieldType := fun k => match k with
  | 0 => .int
  | 1 => .array .int
  | 2 => .array .int
  | 3 => .array .boolean
  | 4 => .array .boolean
  | 5 => .array .int
  | 6 => .array .int
  | 7 => .int
  | 8 => .int
  | 9 => .int
  | 10 => .array .int
  | 11 => .array .int
  | 12 => .array .boolean
  | 13 => .array .int
  | 14 => .array .int
  | 15 => .array .int
  | 16 => .array .int
  | 17 => .array .int
  | 18 => .int
  | 19 => .array .int
  | 20 => .array .int
  | 21 => .array .int
  | 22 => .array .int
  | 23 => .int
  | 24 => .int
  | 25 => .array .boolean
  | 26 => .array .int
  | 27 => .array .boolean
  | _ => .array .int
def vwCl : List vw_C := [("DamageView", TbDV, 7), ("DamageView$Screen", TbSC, 2), ("DamageView$Layout", TbLA, 6), ("DamageView$Bounds", TbBD, 3), ("DamageView$Box", TbBX, 9), ("DamageView$Area", TbAR, 4), ("DamageView$Constraint", TbCN, 5), ("DamageViewModel", TbMO, 29)]
def gNest : List Cond := [.methodLinkNest "DamageView" 11 ⟨"DamageView$Screen", "<init>", "()V"⟩ "DamageView", .methodLinkNest "DamageView$Layout" 23 ⟨"DamageView$Bounds", "<init>", "()V"⟩ "DamageView", .methodLinkNest "DamageView$Box" 11 ⟨"DamageView$Area", "<init>", "()V"⟩ "DamageView", .methodLinkNest "DamageView$Bounds" 47 ⟨"DamageView", "nearest", "(III)I"⟩ "DamageView"]
theorem gNest_warm {s U : State} (hW : s.WarmedH U.vm) (h : ∀ w ∈ gNest, va_Nw w s) : ∀ w ∈ gNest, va_Nw w U := by
  intro w hw
  have h0 := h w hw
  simp only [gNest, List.mem_cons, List.not_mem_nil, or_false] at hw
  rcases hw with rfl | rfl | rfl | rfl
  all_goals exact va_Nw.warmM hW h0
theorem gNest_same {w : Cond} (hw : w ∈ gNest) {u U : State} (h : u.vm = U.vm) (hZ : va_Nw w u) : va_Nw w U := by
  simp only [gNest, List.mem_cons, List.not_mem_nil, or_false] at hw
  rcases hw with rfl | rfl | rfl | rfl
  all_goals exact va_Nw.same rfl h hZ
end
section
abbrev gT : Type := (Nat → Nat) × (Nat → Nat) × Nat
abbrev gI : Type := Nat → Nat → Int32
abbrev gR : Type := Nat → Nat → Option Nat
abbrev gE : Type := Launch × va_G × (Nat → ClassId) × Nat × Nat × (Nat → Int32) × Nat
abbrev gX : Type := MethodName × ByteArray × Nat × Option FieldType × Room
abbrev gQ : Type := gT → gI → gR → Option Value → Prop
def gbase (E : gE) : Nat := E.2.2.2.2.2.2
def gFR (d : String) : Bool := match parseFieldDescriptor d with
  | some ty => ty.isReference
  | none => false
def gfv (Tb : u_T) (k : Nat) (fi : Nat → Int32) (fr : Nat → Option Nat) : Value := if gFR (Tb k).2.2.1 = true then va_rf (fr k) else .int (fi k)
def gAT (q : Nat) : FieldType := match q with
  | 0 => .int
  | 1 => .boolean
  | 2 => .object "DamageView$Box"
  | 3 => .object "DamageView$Constraint"
  | _ => .array .int
def gav (q : Nat) (fi : Nat → Int32) (fr : Nat → Option Nat) (j : Nat) : Value := if q < 2 then .int (fi j) else va_rf (fr j)
def gAt (E : gE) (t n : Nat) (fi : Nat → Int32) (fr : Nat → Option Nat) (cell : Cell) : Prop :=
  (∀ (ci : Nat) (r : vw_C), t = ci + 1 → vwCl[ci]? = some r → cell.cls = E.2.1.1 ci ∧ cell.vm = .none ∧ ∀ k, k < r.2.2 → cell.slots[E.2.1.2 ci k]? = some (gfv r.2.1 k fi fr)) ∧
  ∀ q : Nat, t = 100 + q → cell = arrV (E.2.2.1 q) n (gav q fi fr)
def gMem (E : gE) (T : gT) (gi : gI) (gr : gR) (H : Heap) : Prop :=
  H.size = T.2.2 ∧ gbase E ≤ T.2.2 ∧ ∀ a, T.1 a ≠ 0 → gbase E ≤ a ∧ ∃ cell, H[a]? = some cell ∧ gAt E (T.1 a) (T.2.1 a) (gi a) (gr a) cell
def gW (E : gE) (T : gT) (gi : gI) (gr : gR) (U : State) (H : Heap) : Prop := gMem E T gi gr H ∧ va_X E.2.2.2.1 E.2.2.2.2.1 E.2.2.2.2.2.1 U H ∧ E.2.2.2.1 < gbase E
def gTys (E : gE) : List (ClassId × FieldType) := [(E.2.2.1 0, gAT 0), (E.2.2.1 1, gAT 1), (E.2.2.1 2, gAT 2), (E.2.2.1 3, gAT 3), (E.2.2.1 4, gAT 4)]
def gK (E : gE) (U : State) : Prop := va_K E.2.1 vwCl (gTys E) U ∧ (∀ w ∈ gNest, va_Nw w U) ∧ va_AO "DamageView$Box" U ∧ va_AO "DamageView$Constraint" U ∧ (Cond.arrayOver (.array .int)).before #[] U = true
def gGood (w : Cond) : Bool := (w.onTables && w.keeps) || (match w with
  | .arrayClass _ => true
  | _ => false)
def gTbl : List Cond := lw_tbl.filter gGood
theorem gGood_or {w : Cond} (h : gGood w = true) : (w.onTables && w.keeps) = true ∨ ∃ ty, w = .arrayClass ty := by
  unfold gGood at h
  rcases Bool.or_eq_true _ _ ▸ h with h | h
  · exact Or.inl h
  · cases w <;> first | exact Or.inr ⟨_, rfl⟩ | cases h
theorem gTbl_in {i : Nat} {w : Cond} (h : lw_tbl[i]? = some w) (hg : gGood w = true) : w ∈ gTbl := List.mem_filter.mpr ⟨List.mem_of_getElem? h, hg⟩
def gws (X : gX) : List Cond := .code X.1 X.2.1 X.2.2.1 X.2.2.2.1 :: gTbl
def gCx (E : gE) (X : gX) (p : Program) (s : State) (m : MethodId) (args : Array Value) (meth : Method) (c : Code) : Prop :=
  p.tables.exec = Jvm.exec ∧ c.code = X.2.1 ∧ c.maxLocals = X.2.2.1 ∧ meth.sig.returnType = X.2.2.2.1 ∧ meth.locks = false ∧ s.vm.findClass X.1.cls = some m.cls ∧ (∀ w ∈ gTbl, w.before args s = true) ∧ meth.name = X.1.name ∧ gK E s
def gRt (X : gX) (pc : Nat) (v : Option Value) : Prop := match v with
  | none => decode X.2.1 pc = .ok (.return_, 1) ∧ X.2.2.2.1 = none
  | some (.int x) => decode X.2.1 pc = .ok (.ireturn, 1) ∧ ∃ ty, X.2.2.2.1 = some ty ∧ narrow ty (.int x) = .int x
  | some v => decode X.2.1 pc = .ok (.areturn, 1) ∧ (v = .null ∨ ∃ a, v = .ref a) ∧ ∃ n, X.2.2.2.1 = some (.object n)
def gl (ls : List Value) : List (Nat × Value) := (List.range ls.length).filterMap fun j => (ls[j]?).bind fun v => if v.category = 1 then some (j, v) else none
theorem gl_mem {ls : List Value} {j : Nat} {v : Value} : (j, v) ∈ gl ls ↔ ls[j]? = some v ∧ v.category = 1 := by
  unfold gl
  rw [List.mem_filterMap]
  constructor
  · rintro ⟨i, -, h⟩
    cases hv : ls[i]? with
    | none => rw [hv] at h; cases h
    | some w =>
      rw [hv] at h
      simp only [Option.bind_some] at h
      split at h
      · rename_i hc
        cases h
        exact ⟨hv, hc⟩
      · cases h
  · rintro ⟨h, hc⟩
    refine ⟨j, List.mem_range.mpr (List.getElem?_eq_some_iff.mp h).1, ?_⟩
    rw [h]
    simp [hc]
def gL (ls : List Value) (nL : Nat) (lsA : Array Slot) : Prop := lv_has lsA nL (gl ls)
theorem gL_at {ls : List Value} {nL : Nat} {lsA : Array Slot} (h : gL ls nL lsA) {i : Nat} {v : Value} (hv : ls[i]? = some v) (hc : v.category = 1) : lsA[i]? = some (.val v) := h.2.2 (i, v) (gl_mem.mpr ⟨hv, hc⟩)
theorem gL_of {ls : List Value} {nL : Nat} {lsA : Array Slot} {l : List (Nat × Value)} (h : lv_has lsA nL l) (hs : ∀ q ∈ gl ls, q ∈ l) : gL ls nL lsA := ⟨h.1, h.2.1, fun q hq => h.2.2 q (hs q hq)⟩
theorem gL_set {ls : List Value} {nL : Nat} {lsA : Array Slot} {i : Nat} {v : Value} (h : lv_has lsA nL ((i, v) :: (gl ls).filter (fun q => !(q.1 == i) && !(q.1 + 1 == i && q.2.category == 2)))) : gL (ls.set i v) nL lsA := by
  refine gL_of h fun q hq => ?_
  obtain ⟨j, w⟩ := q
  obtain ⟨h1, h2⟩ := gl_mem.mp hq
  by_cases hj : i = j
  · subst hj
    rw [List.getElem?_set_self' ] at h1
    cases hx : ls[i]? with
    | none => rw [hx] at h1; cases h1
    | some y =>
      rw [hx] at h1
      cases h1
      exact List.mem_cons_self
  · rw [List.getElem?_set_ne hj] at h1
    refine List.mem_cons_of_mem _ (List.mem_filter.mpr ⟨gl_mem.mpr ⟨h1, h2⟩, ?_⟩)
    simp only [h2]
    have : ¬ j = i := fun z => hj z.symm
    simp [this]
def gD (X : gX) (pc : Nat) (i : Instr) (len pc' : Nat) : Prop := decode X.2.1 pc = .ok (i, len) ∧ pc + len = pc'
def gB (X : gX) (pc : Nat) (i : Instr) (off : Int) (tgt pc' : Nat) : Prop := decode X.2.1 pc = .ok (i, 3) ∧ (pc : Int) + off = (tgt : Int) ∧ pc + 3 = pc'
def G (E : gE) (X : gX) (pc : Nat) (ls st : List Value) (T : gT) (gi : gI) (gr : gR) (k n : Nat) (Q : gQ) : Prop :=
  ∀ (p : Program) (e : Env) (s : State) (m : MethodId) (args : Array Value) (below : List Frame) (meth : Method) (c : Code) (Z : State → Prop),
    gCx E X p s m args meth c →
    (∀ (T' : gT) (gi' : gI) (gr' : gR) (v : Option Value) (H' : Heap) (locs' : List Loc) (lsA : Array Slot) (pc' : Nat), Q T' gi' gr' v → gW E T' gi' gr' s H' → (∀ q ∈ locs', gbase E ≤ q.base) → gRt X pc' v → W p E.1 e X.2.2.2.2 s m args below meth c H' locs' X.2.2.2.2.cells X.2.2.2.2.slots Z (F0 m pc' lsA v.toList)) →
    ∀ (H : Heap) (locs : List Loc) (lsA : Array Slot), gL ls X.2.2.1 lsA → gW E T gi gr s H → (∀ q ∈ locs, gbase E ≤ q.base) → W p E.1 e X.2.2.2.2 s m args below meth c H locs k n Z (F0 m pc lsA st)
section GR
variable {E : gE} {X : gX} {pc pc' : Nat} {ls st : List Value} {T : gT} {gi : gI} {gr : gR} {k n : Nat} {Q : gQ}
theorem G_iconst {z : Int} {v : Int32} (hd : gD X pc (.iconst z) 1 pc') (hv : Int32.ofInt z = v) (kk : G E X pc' ls (.int v :: st) T gi gr k n Q) : G E X pc ls (st) T gi gr k n Q := by
  obtain ⟨hd, rfl⟩ := hd
  intro p e s m args below meth c Z hc hr H locs lsA hl hw hf
  exact lv_iconst hc.1 hc.2.1 hd hv (kk p e s m args below meth c Z hc hr H locs lsA hl hw hf)
theorem G_bipush {z : Int} {v : Int32} (hd : gD X pc (.bipush z) 2 pc') (hv : (Int8.ofInt z).toInt32 = v) (kk : G E X pc' ls (.int v :: st) T gi gr k n Q) : G E X pc ls (st) T gi gr k n Q := by
  obtain ⟨hd, rfl⟩ := hd
  intro p e s m args below meth c Z hc hr H locs lsA hl hw hf
  exact lv_bipush hc.1 hc.2.1 hd hv (kk p e s m args below meth c Z hc hr H locs lsA hl hw hf)
theorem G_sipush {z : Int} {v : Int32} (hd : gD X pc (.sipush z) 3 pc') (hv : (Int16.ofInt z).toInt32 = v) (kk : G E X pc' ls (.int v :: st) T gi gr k n Q) : G E X pc ls (st) T gi gr k n Q := by
  obtain ⟨hd, rfl⟩ := hd
  intro p e s m args below meth c Z hc hr H locs lsA hl hw hf
  exact lv_sipush hc.1 hc.2.1 hd hv (kk p e s m args below meth c Z hc hr H locs lsA hl hw hf)
theorem G_ldc {i : Nat} {v : Int32} (hd : gD X pc (.ldc i) 2 pc') (hv : Cond.constant X.1.cls i v ∈ gTbl) (kk : G E X pc' ls (.int v :: st) T gi gr k n Q) : G E X pc ls (st) T gi gr k n Q := by
  obtain ⟨hd, rfl⟩ := hd
  intro p e s m args below meth c Z hc hr H locs lsA hl hw hf
  exact lv_ldc hc.1 hc.2.1 hc.2.2.2.2.2.1 (hc.2.2.2.2.2.2.1 _ hv) hd (kk p e s m args below meth c Z hc hr H locs lsA hl hw hf)
theorem G_iload_n {i : Fin 4} {x : Int32} (hd : gD X pc (.iload_n i) 1 pc') (hv : ls[(i : Nat)]? = some (.int x)) (kk : G E X pc' ls (.int x :: st) T gi gr k n Q) : G E X pc ls (st) T gi gr k n Q := by
  obtain ⟨hd, rfl⟩ := hd
  intro p e s m args below meth c Z hc hr H locs lsA hl hw hf
  exact lv_iload_n hc.1 hc.2.1 hd rfl (gL_at hl hv rfl) (kk p e s m args below meth c Z hc hr H locs lsA hl hw hf)
theorem G_iload {i : Nat} {x : Int32} (hd : gD X pc (.iload i) 2 pc') (hv : ls[i]? = some (.int x)) (kk : G E X pc' ls (.int x :: st) T gi gr k n Q) : G E X pc ls (st) T gi gr k n Q := by
  obtain ⟨hd, rfl⟩ := hd
  intro p e s m args below meth c Z hc hr H locs lsA hl hw hf
  exact lv_iload hc.1 hc.2.1 hd (gL_at hl hv rfl) (kk p e s m args below meth c Z hc hr H locs lsA hl hw hf)
theorem G_aload_n {i : Fin 4} {a : Nat} (hd : gD X pc (.aload_n i) 1 pc') (hv : ls[(i : Nat)]? = some (.ref a)) (kk : G E X pc' ls (.ref a :: st) T gi gr k n Q) : G E X pc ls (st) T gi gr k n Q := by
  obtain ⟨hd, rfl⟩ := hd
  intro p e s m args below meth c Z hc hr H locs lsA hl hw hf
  exact lv_aload_n hc.1 hc.2.1 hd rfl (gL_at hl hv rfl) (kk p e s m args below meth c Z hc hr H locs lsA hl hw hf)
theorem G_aload_nN {i : Fin 4} (hd : gD X pc (.aload_n i) 1 pc') (hv : ls[(i : Nat)]? = some .null) (kk : G E X pc' ls (.null :: st) T gi gr k n Q) : G E X pc ls (st) T gi gr k n Q := by
  obtain ⟨hd, rfl⟩ := hd
  intro p e s m args below meth c Z hc hr H locs lsA hl hw hf
  exact lv_aload_nN hc.1 hc.2.1 hd rfl (gL_at hl hv rfl) (kk p e s m args below meth c Z hc hr H locs lsA hl hw hf)
theorem G_aload_nq {i : Fin 4} {r : Option Nat} (hd : gD X pc (.aload_n i) 1 pc') (hv : ls[(i : Nat)]? = some (va_rf r)) (kk : G E X pc' ls (va_rf r :: st) T gi gr k n Q) : G E X pc ls st T gi gr k n Q := by
  cases r with
  | none => exact G_aload_nN hd hv kk
  | some a => exact G_aload_n hd hv kk
theorem G_aload {i : Nat} {a : Nat} (hd : gD X pc (.aload i) 2 pc') (hv : ls[i]? = some (.ref a)) (kk : G E X pc' ls (.ref a :: st) T gi gr k n Q) : G E X pc ls (st) T gi gr k n Q := by
  obtain ⟨hd, rfl⟩ := hd
  intro p e s m args below meth c Z hc hr H locs lsA hl hw hf
  exact lv_aload hc.1 hc.2.1 hd (gL_at hl hv rfl) (kk p e s m args below meth c Z hc hr H locs lsA hl hw hf)
theorem G_aloadN {i : Nat} (hd : gD X pc (.aload i) 2 pc') (hv : ls[i]? = some .null) (kk : G E X pc' ls (.null :: st) T gi gr k n Q) : G E X pc ls (st) T gi gr k n Q := by
  obtain ⟨hd, rfl⟩ := hd
  intro p e s m args below meth c Z hc hr H locs lsA hl hw hf
  exact lv_aloadN hc.1 hc.2.1 hd (gL_at hl hv rfl) (kk p e s m args below meth c Z hc hr H locs lsA hl hw hf)
theorem G_aloadq {i : Nat} {r : Option Nat} (hd : gD X pc (.aload i) 2 pc') (hv : ls[i]? = some (va_rf r)) (kk : G E X pc' ls (va_rf r :: st) T gi gr k n Q) : G E X pc ls st T gi gr k n Q := by
  cases r with
  | none => exact G_aloadN hd hv kk
  | some a => exact G_aload hd hv kk
theorem G_istore_n {i : Fin 4} {x : Int32} {ls' : List Value} (hd : gD X pc (.istore_n i) 1 pc') (hi : (i : Nat) < X.2.2.1) (hs : ls.set (i : Nat) (.int x) = ls') (kk : G E X pc' ls' st T gi gr k n Q) : G E X pc ls (.int x :: st) T gi gr k n Q := by
  obtain ⟨hd, rfl⟩ := hd
  subst hs
  intro p e s m args below meth c Z hc hr H locs lsA hl hw hf
  exact lv_istore_n hc.1 hc.2.1 hd rfl hl hi rfl (fun lsB hB => kk p e s m args below meth c Z hc hr H locs lsB (gL_set hB) hw hf)
theorem G_istore {i : Nat} {x : Int32} {ls' : List Value} (hd : gD X pc (.istore i) 2 pc') (hi : i < X.2.2.1) (hs : ls.set i (.int x) = ls') (kk : G E X pc' ls' st T gi gr k n Q) : G E X pc ls (.int x :: st) T gi gr k n Q := by
  obtain ⟨hd, rfl⟩ := hd
  subst hs
  intro p e s m args below meth c Z hc hr H locs lsA hl hw hf
  exact lv_istore hc.1 hc.2.1 hd hl hi rfl (fun lsB hB => kk p e s m args below meth c Z hc hr H locs lsB (gL_set hB) hw hf)
theorem G_astore_n {i : Fin 4} {a : Nat} {ls' : List Value} (hd : gD X pc (.astore_n i) 1 pc') (hi : (i : Nat) < X.2.2.1) (hs : ls.set (i : Nat) (.ref a) = ls') (kk : G E X pc' ls' st T gi gr k n Q) : G E X pc ls (.ref a :: st) T gi gr k n Q := by
  obtain ⟨hd, rfl⟩ := hd
  subst hs
  intro p e s m args below meth c Z hc hr H locs lsA hl hw hf
  exact lv_astore_n hc.1 hc.2.1 hd rfl hl hi rfl (fun lsB hB => kk p e s m args below meth c Z hc hr H locs lsB (gL_set hB) hw hf)
theorem G_astore {i : Nat} {a : Nat} {ls' : List Value} (hd : gD X pc (.astore i) 2 pc') (hi : i < X.2.2.1) (hs : ls.set i (.ref a) = ls') (kk : G E X pc' ls' st T gi gr k n Q) : G E X pc ls (.ref a :: st) T gi gr k n Q := by
  obtain ⟨hd, rfl⟩ := hd
  subst hs
  intro p e s m args below meth c Z hc hr H locs lsA hl hw hf
  exact lv_astore hc.1 hc.2.1 hd hl hi rfl (fun lsB hB => kk p e s m args below meth c Z hc hr H locs lsB (gL_set hB) hw hf)
theorem G_astore_nN {i : Fin 4} {ls' : List Value} (hd : gD X pc (.astore_n i) 1 pc') (hi : (i : Nat) < X.2.2.1) (hs : ls.set (i : Nat) (.null) = ls') (kk : G E X pc' ls' st T gi gr k n Q) : G E X pc ls (.null :: st) T gi gr k n Q := by
  obtain ⟨hd, rfl⟩ := hd
  subst hs
  intro p e s m args below meth c Z hc hr H locs lsA hl hw hf
  exact lv_astore_nN hc.1 hc.2.1 hd rfl hl hi rfl (fun lsB hB => kk p e s m args below meth c Z hc hr H locs lsB (gL_set hB) hw hf)
theorem G_astoreN {i : Nat} {ls' : List Value} (hd : gD X pc (.astore i) 2 pc') (hi : i < X.2.2.1) (hs : ls.set i (.null) = ls') (kk : G E X pc' ls' st T gi gr k n Q) : G E X pc ls (.null :: st) T gi gr k n Q := by
  obtain ⟨hd, rfl⟩ := hd
  subst hs
  intro p e s m args below meth c Z hc hr H locs lsA hl hw hf
  exact lv_astoreN hc.1 hc.2.1 hd hl hi rfl (fun lsB hB => kk p e s m args below meth c Z hc hr H locs lsB (gL_set hB) hw hf)
theorem G_astore_nq {i : Fin 4} {r : Option Nat} {ls' : List Value} (hd : gD X pc (.astore_n i) 1 pc') (hi : (i : Nat) < X.2.2.1) (hs : ls.set (i : Nat) (va_rf r) = ls') (kk : G E X pc' ls' st T gi gr k n Q) : G E X pc ls (va_rf r :: st) T gi gr k n Q := by
  cases r with
  | none => exact G_astore_nN hd hi hs kk
  | some a => exact G_astore_n hd hi hs kk
theorem G_astoreq {i : Nat} {r : Option Nat} {ls' : List Value} (hd : gD X pc (.astore i) 2 pc') (hi : i < X.2.2.1) (hs : ls.set i (va_rf r) = ls') (kk : G E X pc' ls' st T gi gr k n Q) : G E X pc ls (va_rf r :: st) T gi gr k n Q := by
  cases r with
  | none => exact G_astoreN hd hi hs kk
  | some a => exact G_astore hd hi hs kk
theorem G_iinc {i : Nat} {z : Int} {x v : Int32} {ls' : List Value} (hd : gD X pc (.iinc i z) 3 pc') (hx : ls[i]? = some (.int x)) (hv : x + Int32.ofInt z = v) (hi : i < X.2.2.1) (hs : ls.set i (.int v) = ls') (kk : G E X pc' ls' st T gi gr k n Q) : G E X pc ls st T gi gr k n Q := by
  obtain ⟨hd, rfl⟩ := hd
  subst hs
  intro p e s m args below meth c Z hc hr H locs lsA hl hw hf
  obtain ⟨j, hj⟩ := List.getElem?_of_mem (gl_mem.mpr ⟨hx, (rfl : (Value.int x).category = 1)⟩)
  exact lv_iinc hc.1 hc.2.1 hd hl hj hv hi rfl (fun lsB hB => kk p e s m args below meth c Z hc hr H locs lsB (gL_set hB) hw hf)
theorem G_iadd {x y : Int32} (hd : gD X pc (.iadd) 1 pc')  (kk : G E X pc' ls (.int (x + y) :: st) T gi gr k n Q) : G E X pc ls (.int y :: .int x :: st) T gi gr k n Q := by
  obtain ⟨hd, rfl⟩ := hd
  intro p e s m args below meth c Z hc hr H locs lsA hl hw hf
  exact lv_iadd hc.1 hc.2.1 hd (kk p e s m args below meth c Z hc hr H locs lsA hl hw hf)
theorem G_isub {x y : Int32} (hd : gD X pc (.isub) 1 pc')  (kk : G E X pc' ls (.int (x - y) :: st) T gi gr k n Q) : G E X pc ls (.int y :: .int x :: st) T gi gr k n Q := by
  obtain ⟨hd, rfl⟩ := hd
  intro p e s m args below meth c Z hc hr H locs lsA hl hw hf
  exact lv_isub hc.1 hc.2.1 hd (kk p e s m args below meth c Z hc hr H locs lsA hl hw hf)
theorem G_imul {x y : Int32} (hd : gD X pc (.imul) 1 pc')  (kk : G E X pc' ls (.int (x * y) :: st) T gi gr k n Q) : G E X pc ls (.int y :: .int x :: st) T gi gr k n Q := by
  obtain ⟨hd, rfl⟩ := hd
  intro p e s m args below meth c Z hc hr H locs lsA hl hw hf
  exact lv_imul hc.1 hc.2.1 hd (kk p e s m args below meth c Z hc hr H locs lsA hl hw hf)
theorem G_iand {x y : Int32} (hd : gD X pc (.iand) 1 pc')  (kk : G E X pc' ls (.int (x &&& y) :: st) T gi gr k n Q) : G E X pc ls (.int y :: .int x :: st) T gi gr k n Q := by
  obtain ⟨hd, rfl⟩ := hd
  intro p e s m args below meth c Z hc hr H locs lsA hl hw hf
  exact lv_iand hc.1 hc.2.1 hd (kk p e s m args below meth c Z hc hr H locs lsA hl hw hf)
theorem G_ixor {x y : Int32} (hd : gD X pc (.ixor) 1 pc')  (kk : G E X pc' ls (.int (x ^^^ y) :: st) T gi gr k n Q) : G E X pc ls (.int y :: .int x :: st) T gi gr k n Q := by
  obtain ⟨hd, rfl⟩ := hd
  intro p e s m args below meth c Z hc hr H locs lsA hl hw hf
  exact lv_ixor hc.1 hc.2.1 hd (kk p e s m args below meth c Z hc hr H locs lsA hl hw hf)
theorem G_idiv {x y : Int32} (hd : gD X pc (.idiv) 1 pc') (hne : ¬ y = 0) (kk : G E X pc' ls (.int (x / y) :: st) T gi gr k n Q) : G E X pc ls (.int y :: .int x :: st) T gi gr k n Q := by
  obtain ⟨hd, rfl⟩ := hd
  intro p e s m args below meth c Z hc hr H locs lsA hl hw hf
  exact lv_idiv hc.1 hc.2.1 hd hne (kk p e s m args below meth c Z hc hr H locs lsA hl hw hf)
theorem G_irem {x y : Int32} (hd : gD X pc (.irem) 1 pc') (hne : ¬ y = 0) (kk : G E X pc' ls (.int (x - x / y * y) :: st) T gi gr k n Q) : G E X pc ls (.int y :: .int x :: st) T gi gr k n Q := by
  obtain ⟨hd, rfl⟩ := hd
  intro p e s m args below meth c Z hc hr H locs lsA hl hw hf
  exact lv_irem hc.1 hc.2.1 hd hne (kk p e s m args below meth c Z hc hr H locs lsA hl hw hf)
theorem G_ineg {x : Int32} (hd : gD X pc (.ineg) 1 pc')  (kk : G E X pc' ls (.int (-x) :: st) T gi gr k n Q) : G E X pc ls (.int x :: st) T gi gr k n Q := by
  obtain ⟨hd, rfl⟩ := hd
  intro p e s m args below meth c Z hc hr H locs lsA hl hw hf
  exact lv_ineg hc.1 hc.2.1 hd (kk p e s m args below meth c Z hc hr H locs lsA hl hw hf)
theorem G_dup {v : Value} (hd : gD X pc (.dup) 1 pc') (hv : v.category = 1) (kk : G E X pc' ls (v :: v :: st) T gi gr k n Q) : G E X pc ls (v :: st) T gi gr k n Q := by
  obtain ⟨hd, rfl⟩ := hd
  intro p e s m args below meth c Z hc hr H locs lsA hl hw hf
  exact lv_dup hc.1 hc.2.1 hd hv (kk p e s m args below meth c Z hc hr H locs lsA hl hw hf)
theorem G_pop {v : Value} (hd : gD X pc (.pop) 1 pc') (hv : v.category = 1) (kk : G E X pc' ls (st) T gi gr k n Q) : G E X pc ls (v :: st) T gi gr k n Q := by
  obtain ⟨hd, rfl⟩ := hd
  intro p e s m args below meth c Z hc hr H locs lsA hl hw hf
  exact lv_pop hc.1 hc.2.1 hd hv (kk p e s m args below meth c Z hc hr H locs lsA hl hw hf)
theorem G_dup2 {v u : Value} (hd : gD X pc (.dup2) 1 pc') (hv : v.category = 1) (hu : u.category = 1) (kk : G E X pc' ls (v :: u :: v :: u :: st) T gi gr k n Q) : G E X pc ls (v :: u :: st) T gi gr k n Q := by
  obtain ⟨hd, rfl⟩ := hd
  intro p e s m args below meth c Z hc hr H locs lsA hl hw hf
  exact lv_dup2_11 hc.1 hc.2.1 hd hv hu (kk p e s m args below meth c Z hc hr H locs lsA hl hw hf)
theorem G_null  (hd : gD X pc (.aconst_null) 1 pc')  (kk : G E X pc' ls (.null :: st) T gi gr k n Q) : G E X pc ls (st) T gi gr k n Q := by
  obtain ⟨hd, rfl⟩ := hd
  intro p e s m args below meth c Z hc hr H locs lsA hl hw hf
  exact lv_null hc.1 hc.2.1 hd (kk p e s m args below meth c Z hc hr H locs lsA hl hw hf)
theorem G_icmp_eq {x y : Int32} {off : Int} {tgt : Nat} (hd : gB X pc (.if_icmp .eq off) off tgt pc') (kt : x = y → G E X tgt ls st T gi gr k n Q) (kf : ¬ x = y → G E X pc' ls st T gi gr k n Q) : G E X pc ls (.int y :: .int x :: st) T gi gr k n Q := by
  obtain ⟨hd, ht, rfl⟩ := hd
  intro p e s m args below meth c Z hc hr H locs lsA hl hw hf
  exact lv_icmp_eq hc.1 hc.2.1 hd ht (fun h => kt h p e s m args below meth c Z hc hr H locs lsA hl hw hf) (fun h => kf h p e s m args below meth c Z hc hr H locs lsA hl hw hf)
theorem G_if_eq {x : Int32} {off : Int} {tgt : Nat} (hd : gB X pc (.ifCond .eq off) off tgt pc') (kt : x = 0 → G E X tgt ls st T gi gr k n Q) (kf : ¬ x = 0 → G E X pc' ls st T gi gr k n Q) : G E X pc ls (.int x :: st) T gi gr k n Q := by
  obtain ⟨hd, ht, rfl⟩ := hd
  intro p e s m args below meth c Z hc hr H locs lsA hl hw hf
  exact lv_if_eq hc.1 hc.2.1 hd ht (fun h => kt h p e s m args below meth c Z hc hr H locs lsA hl hw hf) (fun h => kf h p e s m args below meth c Z hc hr H locs lsA hl hw hf)
theorem G_icmp_ne {x y : Int32} {off : Int} {tgt : Nat} (hd : gB X pc (.if_icmp .ne off) off tgt pc') (kt : ¬ x = y → G E X tgt ls st T gi gr k n Q) (kf : x = y → G E X pc' ls st T gi gr k n Q) : G E X pc ls (.int y :: .int x :: st) T gi gr k n Q := by
  obtain ⟨hd, ht, rfl⟩ := hd
  intro p e s m args below meth c Z hc hr H locs lsA hl hw hf
  exact lv_icmp_ne hc.1 hc.2.1 hd ht (fun h => kt h p e s m args below meth c Z hc hr H locs lsA hl hw hf) (fun h => kf h p e s m args below meth c Z hc hr H locs lsA hl hw hf)
theorem G_if_ne {x : Int32} {off : Int} {tgt : Nat} (hd : gB X pc (.ifCond .ne off) off tgt pc') (kt : ¬ x = 0 → G E X tgt ls st T gi gr k n Q) (kf : x = 0 → G E X pc' ls st T gi gr k n Q) : G E X pc ls (.int x :: st) T gi gr k n Q := by
  obtain ⟨hd, ht, rfl⟩ := hd
  intro p e s m args below meth c Z hc hr H locs lsA hl hw hf
  exact lv_if_ne hc.1 hc.2.1 hd ht (fun h => kt h p e s m args below meth c Z hc hr H locs lsA hl hw hf) (fun h => kf h p e s m args below meth c Z hc hr H locs lsA hl hw hf)
theorem G_icmp_lt {x y : Int32} {off : Int} {tgt : Nat} (hd : gB X pc (.if_icmp .lt off) off tgt pc') (kt : x < y → G E X tgt ls st T gi gr k n Q) (kf : ¬ x < y → G E X pc' ls st T gi gr k n Q) : G E X pc ls (.int y :: .int x :: st) T gi gr k n Q := by
  obtain ⟨hd, ht, rfl⟩ := hd
  intro p e s m args below meth c Z hc hr H locs lsA hl hw hf
  exact lv_icmp_lt hc.1 hc.2.1 hd ht (fun h => kt h p e s m args below meth c Z hc hr H locs lsA hl hw hf) (fun h => kf h p e s m args below meth c Z hc hr H locs lsA hl hw hf)
theorem G_if_lt {x : Int32} {off : Int} {tgt : Nat} (hd : gB X pc (.ifCond .lt off) off tgt pc') (kt : x < 0 → G E X tgt ls st T gi gr k n Q) (kf : ¬ x < 0 → G E X pc' ls st T gi gr k n Q) : G E X pc ls (.int x :: st) T gi gr k n Q := by
  obtain ⟨hd, ht, rfl⟩ := hd
  intro p e s m args below meth c Z hc hr H locs lsA hl hw hf
  exact lv_if_lt hc.1 hc.2.1 hd ht (fun h => kt h p e s m args below meth c Z hc hr H locs lsA hl hw hf) (fun h => kf h p e s m args below meth c Z hc hr H locs lsA hl hw hf)
theorem G_icmp_ge {x y : Int32} {off : Int} {tgt : Nat} (hd : gB X pc (.if_icmp .ge off) off tgt pc') (kt : y ≤ x → G E X tgt ls st T gi gr k n Q) (kf : ¬ y ≤ x → G E X pc' ls st T gi gr k n Q) : G E X pc ls (.int y :: .int x :: st) T gi gr k n Q := by
  obtain ⟨hd, ht, rfl⟩ := hd
  intro p e s m args below meth c Z hc hr H locs lsA hl hw hf
  exact lv_icmp_ge hc.1 hc.2.1 hd ht (fun h => kt h p e s m args below meth c Z hc hr H locs lsA hl hw hf) (fun h => kf h p e s m args below meth c Z hc hr H locs lsA hl hw hf)
theorem G_if_ge {x : Int32} {off : Int} {tgt : Nat} (hd : gB X pc (.ifCond .ge off) off tgt pc') (kt : 0 ≤ x → G E X tgt ls st T gi gr k n Q) (kf : ¬ 0 ≤ x → G E X pc' ls st T gi gr k n Q) : G E X pc ls (.int x :: st) T gi gr k n Q := by
  obtain ⟨hd, ht, rfl⟩ := hd
  intro p e s m args below meth c Z hc hr H locs lsA hl hw hf
  exact lv_if_ge hc.1 hc.2.1 hd ht (fun h => kt h p e s m args below meth c Z hc hr H locs lsA hl hw hf) (fun h => kf h p e s m args below meth c Z hc hr H locs lsA hl hw hf)
theorem G_icmp_gt {x y : Int32} {off : Int} {tgt : Nat} (hd : gB X pc (.if_icmp .gt off) off tgt pc') (kt : y < x → G E X tgt ls st T gi gr k n Q) (kf : ¬ y < x → G E X pc' ls st T gi gr k n Q) : G E X pc ls (.int y :: .int x :: st) T gi gr k n Q := by
  obtain ⟨hd, ht, rfl⟩ := hd
  intro p e s m args below meth c Z hc hr H locs lsA hl hw hf
  exact lv_icmp_gt hc.1 hc.2.1 hd ht (fun h => kt h p e s m args below meth c Z hc hr H locs lsA hl hw hf) (fun h => kf h p e s m args below meth c Z hc hr H locs lsA hl hw hf)
theorem G_if_gt {x : Int32} {off : Int} {tgt : Nat} (hd : gB X pc (.ifCond .gt off) off tgt pc') (kt : 0 < x → G E X tgt ls st T gi gr k n Q) (kf : ¬ 0 < x → G E X pc' ls st T gi gr k n Q) : G E X pc ls (.int x :: st) T gi gr k n Q := by
  obtain ⟨hd, ht, rfl⟩ := hd
  intro p e s m args below meth c Z hc hr H locs lsA hl hw hf
  exact lv_if_gt hc.1 hc.2.1 hd ht (fun h => kt h p e s m args below meth c Z hc hr H locs lsA hl hw hf) (fun h => kf h p e s m args below meth c Z hc hr H locs lsA hl hw hf)
theorem G_icmp_le {x y : Int32} {off : Int} {tgt : Nat} (hd : gB X pc (.if_icmp .le off) off tgt pc') (kt : x ≤ y → G E X tgt ls st T gi gr k n Q) (kf : ¬ x ≤ y → G E X pc' ls st T gi gr k n Q) : G E X pc ls (.int y :: .int x :: st) T gi gr k n Q := by
  obtain ⟨hd, ht, rfl⟩ := hd
  intro p e s m args below meth c Z hc hr H locs lsA hl hw hf
  exact lv_icmp_le hc.1 hc.2.1 hd ht (fun h => kt h p e s m args below meth c Z hc hr H locs lsA hl hw hf) (fun h => kf h p e s m args below meth c Z hc hr H locs lsA hl hw hf)
theorem G_if_le {x : Int32} {off : Int} {tgt : Nat} (hd : gB X pc (.ifCond .le off) off tgt pc') (kt : x ≤ 0 → G E X tgt ls st T gi gr k n Q) (kf : ¬ x ≤ 0 → G E X pc' ls st T gi gr k n Q) : G E X pc ls (.int x :: st) T gi gr k n Q := by
  obtain ⟨hd, ht, rfl⟩ := hd
  intro p e s m args below meth c Z hc hr H locs lsA hl hw hf
  exact lv_if_le hc.1 hc.2.1 hd ht (fun h => kt h p e s m args below meth c Z hc hr H locs lsA hl hw hf) (fun h => kf h p e s m args below meth c Z hc hr H locs lsA hl hw hf)
theorem G_acmp_eq {rx ry : Option Nat} {vx vy : Value} {off : Int} {tgt : Nat} (ex : vx = va_rf rx) (ey : vy = va_rf ry) (hd : gB X pc (.if_acmp .eq off) off tgt pc') (kt : rx = ry → G E X tgt ls st T gi gr k n Q) (kf : ¬ rx = ry → G E X pc' ls st T gi gr k n Q) : G E X pc ls (vy :: vx :: st) T gi gr k n Q := by
  obtain ⟨hd, ht, rfl⟩ := hd
  subst ex
  subst ey
  intro p e s m args below meth c Z hc hr H locs lsA hl hw hf
  exact lv_acmp_eq hc.1 hc.2.1 hd ht (fun h => kt h p e s m args below meth c Z hc hr H locs lsA hl hw hf) (fun h => kf h p e s m args below meth c Z hc hr H locs lsA hl hw hf)
theorem G_acmp_ne {rx ry : Option Nat} {vx vy : Value} {off : Int} {tgt : Nat} (ex : vx = va_rf rx) (ey : vy = va_rf ry) (hd : gB X pc (.if_acmp .ne off) off tgt pc') (kt : ¬ rx = ry → G E X tgt ls st T gi gr k n Q) (kf : rx = ry → G E X pc' ls st T gi gr k n Q) : G E X pc ls (vy :: vx :: st) T gi gr k n Q := by
  obtain ⟨hd, ht, rfl⟩ := hd
  subst ex
  subst ey
  intro p e s m args below meth c Z hc hr H locs lsA hl hw hf
  exact lv_acmp_ne hc.1 hc.2.1 hd ht (fun h => kt h p e s m args below meth c Z hc hr H locs lsA hl hw hf) (fun h => kf h p e s m args below meth c Z hc hr H locs lsA hl hw hf)
theorem G_goto {off : Int} {tgt : Nat} (hd : gB X pc (.goto off) off tgt pc') (kk : G E X tgt ls st T gi gr k n Q) : G E X pc ls st T gi gr k n Q := by
  obtain ⟨hd, ht, rfl⟩ := hd
  intro p e s m args below meth c Z hc hr H locs lsA hl hw hf
  exact lv_goto hc.1 hc.2.1 hd ht (kk p e s m args below meth c Z hc hr H locs lsA hl hw hf)
theorem G_ifnull {a : Nat} {off : Int} {tgt : Nat} (hd : gB X pc (.ifnull off) off tgt pc') (kk : G E X pc' ls st T gi gr k n Q) : G E X pc ls (.ref a :: st) T gi gr k n Q := by
  obtain ⟨hd, ht, rfl⟩ := hd
  intro p e s m args below meth c Z hc hr H locs lsA hl hw hf
  exact lv_ifnull hc.1 hc.2.1 hd (kk p e s m args below meth c Z hc hr H locs lsA hl hw hf)
theorem G_ifnonnull {a : Nat} {off : Int} {tgt : Nat} (hd : gB X pc (.ifnonnull off) off tgt pc') (kk : G E X tgt ls st T gi gr k n Q) : G E X pc ls (.ref a :: st) T gi gr k n Q := by
  obtain ⟨hd, ht, rfl⟩ := hd
  intro p e s m args below meth c Z hc hr H locs lsA hl hw hf
  exact lv_ifnonnull hc.1 hc.2.1 hd ht (kk p e s m args below meth c Z hc hr H locs lsA hl hw hf)
theorem G_ifnullN {off : Int} {tgt : Nat} (hd : gB X pc (.ifnull off) off tgt pc') (kk : G E X tgt ls st T gi gr k n Q) : G E X pc ls (.null :: st) T gi gr k n Q := by
  obtain ⟨hd, ht, rfl⟩ := hd
  intro p e s m args below meth c Z hc hr H locs lsA hl hw hf
  exact lv_ifnullN hc.1 hc.2.1 hd ht (kk p e s m args below meth c Z hc hr H locs lsA hl hw hf)
theorem G_ifnonnullN {off : Int} {tgt : Nat} (hd : gB X pc (.ifnonnull off) off tgt pc') (kk : G E X pc' ls st T gi gr k n Q) : G E X pc ls (.null :: st) T gi gr k n Q := by
  obtain ⟨hd, ht, rfl⟩ := hd
  intro p e s m args below meth c Z hc hr H locs lsA hl hw hf
  exact lv_ifnonnullN hc.1 hc.2.1 hd (kk p e s m args below meth c Z hc hr H locs lsA hl hw hf)
theorem G_ifnullq {r : Option Nat} {off : Int} {tgt : Nat} (hd : gB X pc (.ifnull off) off tgt pc') (kn : r = none → G E X tgt ls st T gi gr k n Q) (ks : ∀ a, r = some a → G E X pc' ls st T gi gr k n Q) : G E X pc ls (va_rf r :: st) T gi gr k n Q := by
  cases r with
  | none => exact G_ifnullN hd (kn rfl)
  | some a => exact G_ifnull hd (ks a rfl)
theorem G_ifnonnullq {r : Option Nat} {off : Int} {tgt : Nat} (hd : gB X pc (.ifnonnull off) off tgt pc') (kn : r = none → G E X pc' ls st T gi gr k n Q) (ks : ∀ a, r = some a → G E X tgt ls st T gi gr k n Q) : G E X pc ls (va_rf r :: st) T gi gr k n Q := by
  cases r with
  | none => exact G_ifnonnullN hd (kn rfl)
  | some a => exact G_ifnonnull hd (ks a rfl)
theorem G_tableOut {dflt lo hi : Int} {offs : Array Int} {len tgt : Nat} {x : Int32} (hd : decode X.2.1 pc = .ok (.tableswitch dflt lo hi offs, len)) (h : x.toInt < lo ∨ hi < x.toInt) (ht : (pc : Int) + dflt = (tgt : Int)) (kk : G E X tgt ls st T gi gr k n Q) : G E X pc ls (.int x :: st) T gi gr k n Q := by
  intro p e s m args below meth c Z hc hr H locs lsA hl hw hf
  exact lv_tableOut hc.1 hc.2.1 hd h ht (kk p e s m args below meth c Z hc hr H locs lsA hl hw hf)
theorem G_tableIn {dflt lo hi off : Int} {offs : Array Int} {len tgt : Nat} {x : Int32} (hd : decode X.2.1 pc = .ok (.tableswitch dflt lo hi offs, len)) (h1 : ¬ x.toInt < lo) (h2 : ¬ hi < x.toInt) (ho : offs[(x.toInt - lo).toNat]? = some off) (ht : (pc : Int) + off = (tgt : Int)) (kk : G E X tgt ls st T gi gr k n Q) : G E X pc ls (.int x :: st) T gi gr k n Q := by
  intro p e s m args below meth c Z hc hr H locs lsA hl hw hf
  exact lv_tableIn hc.1 hc.2.1 hd h1 h2 ho ht (kk p e s m args below meth c Z hc hr H locs lsA hl hw hf)
theorem G_ireturn {x : Int32} {ty : FieldType} (hd : decode X.2.1 pc = .ok (.ireturn, 1)) (hty : X.2.2.2.1 = some ty) (hn : narrow ty (.int x) = .int x) (hk : k ≤ X.2.2.2.2.cells) (hn2 : n ≤ X.2.2.2.2.slots) (hq : Q T gi gr (some (.int x))) : G E X pc ls [.int x] T gi gr k n Q := by
  intro p e s m args below meth c Z hc hr H locs lsA hl hw hf
  exact W.widen hk hn2 (hr T gi gr (some (.int x)) H locs lsA pc hq hw hf ⟨hd, ty, hty, hn⟩)
theorem G_return (hd : decode X.2.1 pc = .ok (.return_, 1)) (hty : X.2.2.2.1 = none) (hk : k ≤ X.2.2.2.2.cells) (hn2 : n ≤ X.2.2.2.2.slots) (hq : Q T gi gr none) : G E X pc ls [] T gi gr k n Q := by
  intro p e s m args below meth c Z hc hr H locs lsA hl hw hf
  exact W.widen hk hn2 (hr T gi gr none H locs lsA pc hq hw hf ⟨hd, hty⟩)
theorem G_areturn {r : Option Nat} {v : Value} {C : String} (hd : decode X.2.1 pc = .ok (.areturn, 1)) (hv : v = va_rf r) (hty : X.2.2.2.1 = some (.object C)) (hk : k ≤ X.2.2.2.2.cells) (hn2 : n ≤ X.2.2.2.2.slots) (hq : Q T gi gr (some (va_rf r))) : G E X pc ls [v] T gi gr k n Q := by
  subst hv
  intro p e s m args below meth c Z hc hr H locs lsA hl hw hf
  refine W.widen hk hn2 (hr T gi gr (some (va_rf r)) H locs lsA pc hq hw hf ?_)
  cases r with
  | none => exact ⟨hd, Or.inl rfl, C, hty⟩
  | some a => exact ⟨hd, Or.inr ⟨a, rfl⟩, C, hty⟩
end GR
end
section
def gu {α : Type} (f : Nat → Nat → α) (a k : Nat) (x : α) : Nat → Nat → α := fun q j => if q = a ∧ j = k then x else f q j
def gup {α : Type} (f : Nat → α) (a : Nat) (x : α) : Nat → α := fun q => if q = a then x else f q
def gNew (T : gT) (tag len : Nat) : gT := (gup T.1 T.2.2 tag, gup T.2.1 T.2.2 len, T.2.2 + 1)
theorem gu_off {α : Type} {f : Nat → Nat → α} {a k : Nat} {x : α} {q : Nat} (h : q ≠ a) : gu f a k x q = f q := by
  funext j
  simp [gu, h]
theorem gu_row {α : Type} {f : Nat → Nat → α} {a k : Nat} {x : α} (j : Nat) : gu f a k x a j = if j = k then x else f a j := by
  simp [gu]
theorem gu_same {α : Type} {f : Nat → Nat → α} {a k : Nat} {x : α} : gu f a k x a k = x := by simp [gu]
theorem gu_ne {α : Type} {f : Nat → Nat → α} {a k : Nat} {x : α} {q j : Nat} (h : q ≠ a ∨ j ≠ k) : gu f a k x q j = f q j := by
  unfold gu
  rw [if_neg]
  rintro ⟨h1, h2⟩
  rcases h with h | h
  · exact h h1
  · exact h h2
theorem gup_same {α : Type} {f : Nat → α} {a : Nat} {x : α} : gup f a x a = x := by simp [gup]
theorem gup_ne {α : Type} {f : Nat → α} {a : Nat} {x : α} {q : Nat} (h : q ≠ a) : gup f a x q = f q := by simp [gup, h]
theorem vwCl_lt {ci : Nat} {r : vw_C} (h : vwCl[ci]? = some r) : ci < 99 := Nat.lt_of_lt_of_le (List.getElem?_eq_some_iff.mp h).1 (by decide)
theorem gMem_fld {E : gE} {T : gT} {gi gi' : gI} {gr gr' : gR} {H H1 : Heap} {a ci : Nat} {r : vw_C} {cell1 : Cell} (hM : gMem E T gi gr H) (ht : T.1 a = ci + 1) (hcl : vwCl[ci]? = some r) (hoff : ∀ q, q ≠ a → gi' q = gi q ∧ gr' q = gr q) (h1 : H1[a]? = some cell1) (hz : H1.size = H.size) (ho : ∀ q, q ≠ a → H1[q]? = H[q]?)
    (hnew : cell1.cls = E.2.1.1 ci ∧ cell1.vm = .none ∧ ∀ k, k < r.2.2 → cell1.slots[E.2.1.2 ci k]? = some (gfv r.2.1 k (gi' a) (gr' a))) : gMem E T gi' gr' H1 := by
  refine ⟨hz.trans hM.1, hM.2.1, fun q hq => ?_⟩
  by_cases hqa : q = a
  · subst hqa
    refine ⟨(hM.2.2 q hq).1, cell1, h1, fun ci' r' e1 e2 => ?_, fun t e1 => ?_⟩
    · have : ci' = ci := by omega
      subst this
      rw [hcl] at e2
      cases e2
      exact hnew
    · have := vwCl_lt hcl
      omega
  · obtain ⟨hb, cell, hcell, hat⟩ := hM.2.2 q hq
    refine ⟨hb, cell, (ho q hqa).trans hcell, ?_⟩
    rw [(hoff q hqa).1, (hoff q hqa).2]
    exact hat
theorem gMem_arr {E : gE} {T : gT} {gi gi' : gI} {gr gr' : gR} {H H1 : Heap} {a t : Nat} (hM : gMem E T gi gr H) (ht : T.1 a = 100 + t) (hoff : ∀ q, q ≠ a → gi' q = gi q ∧ gr' q = gr q) (h1 : H1[a]? = some (arrV (E.2.2.1 t) (T.2.1 a) (gav t (gi' a) (gr' a)))) (hz : H1.size = H.size) (ho : ∀ q, q ≠ a → H1[q]? = H[q]?) : gMem E T gi' gr' H1 := by
  refine ⟨hz.trans hM.1, hM.2.1, fun q hq => ?_⟩
  by_cases hqa : q = a
  · subst hqa
    refine ⟨(hM.2.2 q hq).1, _, h1, fun ci' r' e1 e2 => ?_, fun t' e1 => ?_⟩
    · have := vwCl_lt e2
      omega
    · have : t' = t := by omega
      subst this
      rfl
  · obtain ⟨hb, cell, hcell, hat⟩ := hM.2.2 q hq
    refine ⟨hb, cell, (ho q hqa).trans hcell, ?_⟩
    rw [(hoff q hqa).1, (hoff q hqa).2]
    exact hat
theorem gMem_new {E : gE} {T : gT} {gi : gI} {gr : gR} {H H1 : Heap} {tag len : Nat} {cell1 : Cell} (hM : gMem E T gi gr H) (h1 : H1[H.size]? = some cell1) (hz : H1.size = H.size + 1) (ho : ∀ q, q < H.size → H1[q]? = H[q]?) (hnew : gAt E tag len (fun _ => 0) (fun _ => none) cell1) :
    gMem E (gNew T tag len) (gup gi T.2.2 (fun _ => 0)) (gup gr T.2.2 (fun _ => none)) H1 := by
  obtain ⟨m1, m2, m3⟩ := hM
  refine ⟨by rw [hz, m1]; rfl, Nat.le_succ_of_le m2, fun q hq => ?_⟩
  by_cases hqa : q = T.2.2
  · subst hqa
    refine ⟨m2, cell1, by rw [← m1]; exact h1, ?_⟩
    simp only [gNew, gup_same]
    exact hnew
  · simp only [gNew, gup_ne hqa] at hq ⊢
    obtain ⟨hb, cell, hcell, hat⟩ := m3 q hq
    exact ⟨hb, cell, (ho q (Array.getElem?_eq_some_iff.mp hcell).1).trans hcell, hat⟩
theorem gW_to {E : gE} {T T' : gT} {gi gi' : gI} {gr gr' : gR} {U : State} {H H1 : Heap} (hw : gW E T gi gr U H) (hM : gMem E T' gi' gr' H1) (hb : H1[E.2.2.2.1]? = H[E.2.2.2.1]?) : gW E T' gi' gr' U H1 := ⟨hM, hw.2.1.kept hb, hw.2.2⟩
theorem gLocs {E : gE} {locs : List Loc} {a j : Nat} (hf : ∀ q ∈ locs, gbase E ≤ q.base) (ha : gbase E ≤ a) : ∀ q ∈ locs ++ [(⟨a, j⟩ : Loc)], gbase E ≤ q.base := by
  intro q hq
  rcases List.mem_append.mp hq with h | h
  · exact hf q h
  · rw [List.mem_singleton.mp h]; exact ha
def gCls (ci : Nat) (C : String) (Tb : u_T) (N : Nat) (ty : Nat → FieldType) : Prop :=
  vwCl[ci]? = some (C, Tb, N) ∧ (∀ w ∈ u_ws C Tb N, w ∈ gTbl) ∧ (∀ k, k < N → parseFieldDescriptor (Tb k).2.2.1 = some (ty k)) ∧ (∀ a, a < N → ∀ b, b < N → a ≠ b → (Tb a).2.1 ≠ (Tb b).2.1)
def gFld (own : String) (idx ci k : Nat) (rf : Bool) : Prop := ∃ (C : String) (Tb : u_T) (N : Nat) (ty : Nat → FieldType), gCls ci C Tb N ty ∧ k < N ∧ gFR (Tb k).2.2.1 = rf ∧ Cond.fieldLink own idx (Tb k).1 (Tb k).2.1 (Tb k).2.2.1 ∈ gTbl
def gFldW (own : String) (idx ci k : Nat) (fin rf : Bool) (t : FieldType) : Prop := ∃ (C : String) (Tb : u_T) (N : Nat) (ty : Nat → FieldType), gCls ci C Tb N ty ∧ k < N ∧ gFR (Tb k).2.2.1 = rf ∧ Cond.fieldLink own idx (Tb k).1 (Tb k).2.1 (Tb k).2.2.1 ∈ gTbl ∧ ty k = t ∧ (Tb k).2.2.2 = fin ∧ (fin = true → (Tb k).1 = own)
section GF
variable {E : gE} {X : gX} {pc pc' : Nat} {ls st : List Value} {T : gT} {gi : gI} {gr : gR} {k n : Nat} {Q : gQ}
theorem G_getV {idx ci fk a : Nat} {rf : Bool} (f : gFld X.1.cls idx ci fk rf) (hd : gD X pc (.getfield idx) 3 pc') (ht : T.1 a = ci + 1) (kk : G E X pc' ls ((if rf = true then va_rf (gr a fk) else .int (gi a fk)) :: st) T gi gr k n Q) : G E X pc ls (.ref a :: st) T gi gr k n Q := by
  obtain ⟨C, Tb, N, ty, ⟨hcl, hin, hty, hnm⟩, hk, hrf, hlk⟩ := f
  obtain ⟨hd, rfl⟩ := hd
  intro p e s m args below meth c Z hc hr H locs lsA hl hw hf
  obtain ⟨hb0, cell, hcell, hat⟩ := hw.1.2.2 a (by rw [ht]; exact Nat.succ_ne_zero _)
  obtain ⟨q2, q3, q4⟩ := hat.1 ci _ ht hcl
  obtain ⟨hS, hfc, kC, hkC, hkind⟩ := hc.2.2.2.2.2.2.2.2.1.1 ci _ hcl
  obtain ⟨cf, kf, fi, f, hi, hsl⟩ := hS fk hk
  refine W.getf hc.1 hc.2.1 hc.2.2.2.2.2.1 (hc.2.2.2.2.2.2.1 _ hlk) hi (u_facts hfc hkC (u_lays hc.2.2.2.2.2.2.1 hin hk) hi).1 hcell (by rw [q3]; exact fun h => by cases h) ?_ rfl rfl hd (kk p e s m args below meth c Z hc hr H locs lsA hl hw hf)
  rw [hsl, q4 fk hk]
  simp only [gfv, hrf]
theorem G_getI {idx ci fk a : Nat} (f : gFld X.1.cls idx ci fk false) (hd : gD X pc (.getfield idx) 3 pc') (ht : T.1 a = ci + 1) (kk : G E X pc' ls (.int (gi a fk) :: st) T gi gr k n Q) : G E X pc ls (.ref a :: st) T gi gr k n Q := G_getV f hd ht kk
theorem G_getR {idx ci fk a : Nat} (f : gFld X.1.cls idx ci fk true) (hd : gD X pc (.getfield idx) 3 pc') (ht : T.1 a = ci + 1) (kk : G E X pc' ls (va_rf (gr a fk) :: st) T gi gr k n Q) : G E X pc ls (.ref a :: st) T gi gr k n Q := G_getV f hd ht kk
theorem G_getRs {idx ci fk a q : Nat} (f : gFld X.1.cls idx ci fk true) (hd : gD X pc (.getfield idx) 3 pc') (ht : T.1 a = ci + 1) (hq : gr a fk = some q) (kk : G E X pc' ls (.ref q :: st) T gi gr k n Q) : G E X pc ls (.ref a :: st) T gi gr k n Q := G_getR f hd ht (by rw [hq]; exact kk)
theorem G_putV {idx ci fk a : Nat} {fin rf : Bool} {t : FieldType} {v : Value} {gi' : gI} {gr' : gR} (f : gFldW X.1.cls idx ci fk fin rf t) (hfin : fin = false ∨ X.1.name = "<init>") (hd : gD X pc (.putfield idx) 3 pc') (ht : T.1 a = ci + 1) (hn : narrow t v = v) (hfit : fits t v = true) (hoff : ∀ q, q ≠ a → gi' q = gi q ∧ gr' q = gr q)
    (hval : ∀ (Tb : u_T) (j : Nat), (j = fk → gFR (Tb fk).2.2.1 = rf) → gfv Tb j (gi' a) (gr' a) = if j = fk then v else gfv Tb j (gi a) (gr a)) (kk : G E X pc' ls st T gi' gr' k n Q) : G E X pc ls (v :: .ref a :: st) T gi gr k n Q := by
  obtain ⟨C, Tb, N, ty, ⟨hcl, hin, hty, hnm⟩, hk, hrf, hlk, hte, hfe, hdecl⟩ := f
  obtain ⟨hd, rfl⟩ := hd
  intro p e s m args below meth c Z hc hr H locs lsA hl hw hf
  have hts := hc.2.2.2.2.2.2.1
  have hown := hc.2.2.2.2.2.1
  have hK := hc.2.2.2.2.2.2.2.2.1
  obtain ⟨hb0, cell, hcell, hat⟩ := hw.1.2.2 a (by rw [ht]; exact Nat.succ_ne_zero _)
  obtain ⟨q2, q3, q4⟩ := hat.1 ci _ ht hcl
  have hap := va_apart (own := X.1.cls) hts hin ty hty hnm hK hcl
  obtain ⟨hS, hfc, kC, hkC, hkind⟩ := hK.1 ci _ hcl
  obtain ⟨cf, kf, fi, f, hi, hsl⟩ := hS fk hk
  have hst := (u_facts hfc hkC (u_lays hts hin hk) hi).1
  have hd2 : parseFieldDescriptor (Tb fk).2.2.1 = some t := by rw [← hte]; exact hty fk hk
  have go : ∀ H' : Heap, H'[a]? = some (cell.setSlot f.slot v) → H'.size = H.size → (∀ q, q ≠ a → H'[q]? = H[q]?) → W p E.1 e X.2.2.2.2 s m args below meth c H' (locs ++ [⟨a, f.slot⟩]) k n Z (F0 m (pc + 3) lsA st) := by
    intro H' e1 e2 e3
    refine kk p e s m args below meth c Z hc hr H' _ lsA hl (gW_to hw (gMem_fld hw.1 ht hcl hoff e1 e2 e3 ⟨q2, q3, fun j hj => ?_⟩) (e3 _ (fun z => by have := hw.2.2; omega))) (gLocs hf hb0)
    rw [hsl, t_set q4 hap hk v j hj]
    simp only [updV]
    rw [hval Tb j (fun _ => hrf)]
  have hlay := hts _ (hin _ (u_in_lay hk))
  unfold u_lay at hlay
  cases fin with
  | false =>
    rw [if_neg (by rw [hfe]; decide)] at hlay
    exact W.putK hc.1 hc.2.1 (f := f) ⟨hown, hts _ hlk, ⟨_, _, _, hi⟩, hst⟩ (by rw [q2]; exact u_store hfc hkC hkind hlay hi hd2 hn hfit) hcell q3 (by rw [hsl]; exact k2_hasslot (q4 fk hk)) rfl rfl hd go
  | true =>
    rw [if_pos hfe] at hlay
    have hcf : m.cls = cf := by
      obtain ⟨_, _, c', _, _, _, -, -, hf', -, -, -, hown2, -⟩ := Cond.laysFinal_spec hlay
      have e1 : c' = cf := by have := hi.symm.trans hf'; simp at this; exact this.1.symm
      rw [hdecl rfl] at hown2
      rw [← e1]; exact Option.some.inj (hown.symm.trans hown2)
    exact W.putFinK hc.1 hc.2.1 hown (hts _ hlk) hi hst hcf (by rw [hc.2.2.2.2.2.2.2.1]; rcases hfin with h | h; cases h; exact h) (by rw [q2]; exact u_fits hfc hkC hkind (Or.inr hlay) hi hd2 hn hfit) hcell q3 (by rw [hsl]; exact k2_hasslot (q4 fk hk)) rfl rfl hd go
theorem gfv_I {Tb : u_T} {fi : gI} {fr : gR} {a fk j : Nat} {x : Int32} (h : j = fk → gFR (Tb fk).2.2.1 = false) : gfv Tb j (gu fi a fk x a) (fr a) = if j = fk then .int x else gfv Tb j (fi a) (fr a) := by
  by_cases hj : j = fk
  · subst hj
    rw [if_pos rfl]
    simp [gfv, h rfl, gu]
  · rw [if_neg hj]
    simp [gfv, gu, hj]
theorem gfv_R {Tb : u_T} {fi : gI} {fr : gR} {a fk j : Nat} {x : Option Nat} (h : j = fk → gFR (Tb fk).2.2.1 = true) : gfv Tb j (fi a) (gu fr a fk x a) = if j = fk then va_rf x else gfv Tb j (fi a) (fr a) := by
  by_cases hj : j = fk
  · subst hj
    rw [if_pos rfl]
    simp [gfv, h rfl, gu]
  · rw [if_neg hj]
    simp [gfv, gu, hj]
theorem G_putI {idx ci fk a : Nat} {fin : Bool} {t : FieldType} {x : Int32} (f : gFldW X.1.cls idx ci fk fin false t) (hfin : fin = false ∨ X.1.name = "<init>") (hd : gD X pc (.putfield idx) 3 pc') (ht : T.1 a = ci + 1) (hn : narrow t (.int x) = .int x) (hfit : fits t (.int x) = true) (kk : G E X pc' ls st T (gu gi a fk x) gr k n Q) : G E X pc ls (.int x :: .ref a :: st) T gi gr k n Q :=
  G_putV (gi' := gu gi a fk x) (gr' := gr) f hfin hd ht hn hfit (fun q hq => ⟨gu_off hq, rfl⟩) (fun Tb j h => gfv_I h) kk
theorem G_putR {idx ci fk a : Nat} {fin : Bool} {t : FieldType} {v : Value} {r : Option Nat} (hv : v = va_rf r) (f : gFldW X.1.cls idx ci fk fin true t) (hfin : fin = false ∨ X.1.name = "<init>") (hd : gD X pc (.putfield idx) 3 pc') (ht : T.1 a = ci + 1) (hn : ∀ q, narrow t (va_rf q) = va_rf q) (hfit : ∀ q, fits t (va_rf q) = true) (kk : G E X pc' ls st T gi (gu gr a fk r) k n Q) : G E X pc ls (v :: .ref a :: st) T gi gr k n Q := by
  subst hv
  exact G_putV (gi' := gi) (gr' := gu gr a fk r) f hfin hd ht (hn r) (hfit r) (fun q hq => ⟨rfl, gu_off hq⟩) (fun Tb j h => gfv_R h) kk
theorem nr_o (C : String) (q : Option Nat) : narrow (.object C) (va_rf q) = va_rf q := by cases q <;> rfl
theorem ft_o (C : String) (q : Option Nat) : fits (.object C) (va_rf q) = true := by cases q <;> rfl
theorem nr_a (t : FieldType) (q : Option Nat) : narrow (.array t) (va_rf q) = va_rf q := by cases q <;> rfl
theorem ft_a (t : FieldType) (q : Option Nat) : fits (.array t) (va_rf q) = true := by cases q <;> rfl
theorem nr_z {x : Int32} (h : x = 0 ∨ x = 1) : narrow .boolean (.int x) = .int x := by rcases h with rfl | rfl <;> decide +kernel
theorem ft_z {x : Int32} (h : x = 0 ∨ x = 1) : fits .boolean (.int x) = true := by rcases h with rfl | rfl <;> decide +kernel
theorem gK_arr {s : State} (hK : gK E s) {q : Nat} (hq : q < 5) : ArrOfT s (E.2.2.1 q) (gAT q) ∧ va_RA s (E.2.2.1 q) (gAT q) := by
  have h := hK.1.2 q (E.2.2.1 q, gAT q)
  have e : (gTys E)[q]? = some (E.2.2.1 q, gAT q) := by
    match q, hq with
    | 0, _ => rfl
    | 1, _ => rfl
    | 2, _ => rfl
    | 3, _ => rfl
    | 4, _ => rfl
  exact h e
theorem G_iald {a : Nat} {i : Int32} (hd : gD X pc .iaload 1 pc') (ht : T.1 a = 100) (hin : vp_in i (T.2.1 a)) (kk : G E X pc' ls (.int (gi a i.toNatClampNeg) :: st) T gi gr k n Q) : G E X pc ls (.int i :: .ref a :: st) T gi gr k n Q := by
  obtain ⟨hd, rfl⟩ := hd
  intro p e s m args below meth c Z hc hr H locs lsA hl hw hf
  obtain ⟨hb0, cell, hcell, hat⟩ := hw.1.2.2 a (by rw [ht]; decide)
  have hce := hat.2 0 ht
  subst hce
  have hlt : i.toNatClampNeg < T.2.1 a := Nat.not_le.mp fun q => hin (Or.inr q)
  exact W.iald hc.1 hc.2.1 hcell ((gK_arr hc.2.2.2.2.2.2.2.2 (q := 0) (by decide)).1 _ _) (fun q => by cases q) (by rw [arrV_size]; exact hin) (by rw [arrV_read _ _ hlt]; rfl) rfl rfl hd (kk p e s m args below meth c Z hc hr H locs lsA hl hw hf)
theorem G_zald {a : Nat} {i : Int32} (hd : gD X pc .baload 1 pc') (ht : T.1 a = 101) (hin : vp_in i (T.2.1 a)) (kk : G E X pc' ls (.int (gi a i.toNatClampNeg) :: st) T gi gr k n Q) : G E X pc ls (.int i :: .ref a :: st) T gi gr k n Q := by
  obtain ⟨hd, rfl⟩ := hd
  intro p e s m args below meth c Z hc hr H locs lsA hl hw hf
  obtain ⟨hb0, cell, hcell, hat⟩ := hw.1.2.2 a (by rw [ht]; decide)
  have hce := hat.2 1 ht
  subst hce
  have hlt : i.toNatClampNeg < T.2.1 a := Nat.not_le.mp fun q => hin (Or.inr q)
  exact W.zald hc.1 hc.2.1 hcell ((gK_arr hc.2.2.2.2.2.2.2.2 (q := 1) (by decide)).1 _ _) (fun q => by cases q) (by rw [arrV_size]; exact hin) (by rw [arrV_read _ _ hlt]; rfl) rfl rfl hd (kk p e s m args below meth c Z hc hr H locs lsA hl hw hf)
theorem G_aald (t : Nat) {a : Nat} {i : Int32} (hd : gD X pc .aaload 1 pc') (h2 : 2 ≤ t ∧ t < 5) (ht : T.1 a = 100 + t) (hin : vp_in i (T.2.1 a)) (kk : G E X pc' ls (va_rf (gr a i.toNatClampNeg) :: st) T gi gr k n Q) : G E X pc ls (.int i :: .ref a :: st) T gi gr k n Q := by
  obtain ⟨hd, rfl⟩ := hd
  intro p e s m args below meth c Z hc hr H locs lsA hl hw hf
  obtain ⟨hb0, cell, hcell, hat⟩ := hw.1.2.2 a (by rw [ht]; omega)
  have hce := hat.2 t ht
  subst hce
  have hlt : i.toNatClampNeg < T.2.1 a := Nat.not_le.mp fun q => hin (Or.inr q)
  have hre : (gAT t).isReference = true := by
    match t, h2 with
    | 2, _ => rfl
    | 3, _ => rfl
    | 4, _ => rfl
  exact W.aald hc.1 hc.2.1 hcell ((gK_arr hc.2.2.2.2.2.2.2.2 (q := t) h2.2).1 _ _) hre (fun q => by cases q) (by rw [arrV_size]; exact hin) (by rw [arrV_read _ _ hlt]; simp only [gav]; rw [if_neg (by omega)]) rfl rfl hd (kk p e s m args below meth c Z hc hr H locs lsA hl hw hf)
theorem G_aalds (t : Nat) {a q : Nat} {i : Int32} (hd : gD X pc .aaload 1 pc') (h2 : 2 ≤ t ∧ t < 5) (ht : T.1 a = 100 + t) (hin : vp_in i (T.2.1 a)) (hq : gr a i.toNatClampNeg = some q) (kk : G E X pc' ls (.ref q :: st) T gi gr k n Q) : G E X pc ls (.int i :: .ref a :: st) T gi gr k n Q := G_aald t hd h2 ht hin (by rw [hq]; exact kk)
theorem G_alen (t : Nat) {a : Nat} {v : Int32} (hd : gD X pc .arraylength 1 pc') (h2 : t < 5) (ht : T.1 a = 100 + t) (hv : Int32.ofNat (T.2.1 a) = v) (kk : G E X pc' ls (.int v :: st) T gi gr k n Q) : G E X pc ls (.ref a :: st) T gi gr k n Q := by
  obtain ⟨hd, rfl⟩ := hd
  intro p e s m args below meth c Z hc hr H locs lsA hl hw hf
  obtain ⟨hb0, cell, hcell, hat⟩ := hw.1.2.2 a (by rw [ht]; omega)
  have hce := hat.2 t ht
  subst hce
  exact W.alen hc.1 hc.2.1 hcell ((gK_arr hc.2.2.2.2.2.2.2.2 (q := t) h2).1 _ _) (by rw [arrV_size]; exact hv) rfl rfl hd (kk p e s m args below meth c Z hc hr H locs lsA hl hw hf)
theorem G_sald {i : Int32} (hd : gD X pc .iaload 1 pc') (hin : vp_in i E.2.2.2.2.1) (kk : G E X pc' ls (.int (E.2.2.2.2.2.1 i.toNatClampNeg) :: st) T gi gr k n Q) : G E X pc ls (.int i :: .ref E.2.2.2.1 :: st) T gi gr k n Q := by
  obtain ⟨hd, rfl⟩ := hd
  intro p e s m args below meth c Z hc hr H locs lsA hl hw hf
  obtain ⟨scr, h1, h2, h3, h4, h5⟩ := hw.2.1
  have hlt : i.toNatClampNeg < E.2.2.2.2.1 := Nat.not_le.mp fun q => hin (Or.inr q)
  exact W.iald hc.1 hc.2.1 h1 h2 h3 (by rw [h4]; exact hin) (h5 _ hlt) rfl rfl hd (kk p e s m args below meth c Z hc hr H locs lsA hl hw hf)
theorem G_slen {v : Int32} (hd : gD X pc .arraylength 1 pc') (hv : Int32.ofNat E.2.2.2.2.1 = v) (kk : G E X pc' ls (.int v :: st) T gi gr k n Q) : G E X pc ls (.ref E.2.2.2.1 :: st) T gi gr k n Q := by
  obtain ⟨hd, rfl⟩ := hd
  intro p e s m args below meth c Z hc hr H locs lsA hl hw hf
  obtain ⟨scr, h1, h2, h3, h4, h5⟩ := hw.2.1
  exact W.alen hc.1 hc.2.1 h1 h2 (by rw [h4]; exact hv) rfl rfl hd (kk p e s m args below meth c Z hc hr H locs lsA hl hw hf)
theorem gav_I {q : Nat} {fi : gI} {fr : Nat → Option Nat} {a j : Nat} {x : Int32} (hq : q < 2) : updV (gav q (fi a) fr) j (.int x) = gav q (gu fi a j x a) fr := by
  funext i
  simp only [updV, gav, gu, if_pos hq]
  by_cases h : i = j <;> simp [h]
theorem gav_R {q : Nat} {fi : Nat → Int32} {fr : gR} {a j : Nat} {x : Option Nat} (hq : ¬ q < 2) : updV (gav q fi (fr a)) j (va_rf x) = gav q fi (gu fr a j x a) := by
  funext i
  simp only [updV, gav, gu, if_neg hq]
  by_cases h : i = j <;> simp [h]
theorem G_iast {a : Nat} {i x : Int32} (hd : gD X pc .iastore 1 pc') (ht : T.1 a = 100) (hin : vp_in i (T.2.1 a)) (kk : G E X pc' ls st T (gu gi a i.toNatClampNeg x) gr k n Q) : G E X pc ls (.int x :: .int i :: .ref a :: st) T gi gr k n Q := by
  obtain ⟨hd, rfl⟩ := hd
  intro p e s m args below meth c Z hc hr H locs lsA hl hw hf
  obtain ⟨hb0, cell, hcell, hat⟩ := hw.1.2.2 a (by rw [ht]; decide)
  have hce := hat.2 0 ht
  subst hce
  refine W.iast hc.1 hc.2.1 hcell ((gK_arr hc.2.2.2.2.2.2.2.2 (q := 0) (by decide)).1 _ _) (fun q => by cases q) (by rw [arrV_size]; exact hin) rfl rfl hd fun H1 e1 z oq => ?_
  rw [arrV_store, gav_I (by decide)] at e1
  exact kk p e s m args below meth c Z hc hr H1 _ lsA hl (gW_to hw (gMem_arr (t := 0) hw.1 ht (fun q hq => ⟨gu_off hq, rfl⟩) e1 z oq) (oq _ (Nat.ne_of_lt (Nat.lt_of_lt_of_le hw.2.2 hb0)))) (gLocs hf hb0)
theorem G_zast {a : Nat} {i x : Int32} (hd : gD X pc .bastore 1 pc') (ht : T.1 a = 101) (hin : vp_in i (T.2.1 a)) (hx : x = 0 ∨ x = 1) (kk : G E X pc' ls st T (gu gi a i.toNatClampNeg x) gr k n Q) : G E X pc ls (.int x :: .int i :: .ref a :: st) T gi gr k n Q := by
  obtain ⟨hd, rfl⟩ := hd
  intro p e s m args below meth c Z hc hr H locs lsA hl hw hf
  obtain ⟨hb0, cell, hcell, hat⟩ := hw.1.2.2 a (by rw [ht]; decide)
  have hce := hat.2 1 ht
  subst hce
  refine W.zast hc.1 hc.2.1 hcell ((gK_arr hc.2.2.2.2.2.2.2.2 (q := 1) (by decide)).1 _ _) (fun q => by cases q) (by rw [arrV_size]; exact hin) rfl rfl hd fun H1 e1 z oq => ?_
  rw [nr_z hx, arrV_store, gav_I (by decide)] at e1
  exact kk p e s m args below meth c Z hc hr H1 _ lsA hl (gW_to hw (gMem_arr (t := 1) hw.1 ht (fun q hq => ⟨gu_off hq, rfl⟩) e1 z oq) (oq _ (Nat.ne_of_lt (Nat.lt_of_lt_of_le hw.2.2 hb0)))) (gLocs hf hb0)
theorem G_aast (t : Nat) {a v ci : Nat} {i : Int32} {C : String} {Tb : u_T} {N : Nat} (hd : gD X pc .aastore 1 pc') (h2 : t = 2 ∨ t = 3) (ht : T.1 a = 100 + t) (hin : vp_in i (T.2.1 a)) (hv : T.1 v = ci + 1) (hcl : vwCl[ci]? = some (C, Tb, N)) (hC : gAT t = .object C) (kk : G E X pc' ls st T gi (gu gr a i.toNatClampNeg (some v)) k n Q) : G E X pc ls (.ref v :: .int i :: .ref a :: st) T gi gr k n Q := by
  obtain ⟨hd, rfl⟩ := hd
  intro p e s m args below meth c Z hc hr H locs lsA hl hw hf
  obtain ⟨hb0, cell, hcell, hat⟩ := hw.1.2.2 a (by rw [ht]; omega)
  have hce := hat.2 t ht
  subst hce
  obtain ⟨hb1, cellV, g1, hatV⟩ := hw.1.2.2 v (by rw [hv]; exact Nat.succ_ne_zero _)
  obtain ⟨g2, g3, -⟩ := hatV.1 ci _ hv hcl
  have hK := hc.2.2.2.2.2.2.2.2
  have hcls := (hK.1.1 ci _ hcl).2
  have hra := (gK_arr hK (q := t) (by omega)).2
  rw [hC] at hra
  obtain ⟨kA, comp, k1, k2, k3, -⟩ := hra
  have hcomp : comp = E.2.1.1 ci := Option.some.inj (k3.symm.trans hcls.1)
  subst hcomp
  obtain ⟨kC, hkC, -⟩ := hcls.2
  have hlt : i.toNatClampNeg < T.2.1 a := Nat.not_le.mp fun q => hin (Or.inr q)
  refine W.aast hc.1 hc.2.1 hcell (fun q h => by cases h) (fun h => by cases h) k1 k2 rfl hkC ⟨fun q => hin (Or.inl q), by rw [arrV_size]; exact hlt⟩ g1 (fun q h => by rw [g3] at h; cases h) (by rw [g2]; exact hkC) (by rw [g2]; exact va_assign hcls) rfl rfl hd fun H1 e1 z oq => ?_
  rw [arrV_store, show (Value.ref v) = va_rf (some v) from rfl, gav_R (by omega)] at e1
  exact kk p e s m args below meth c Z hc hr H1 _ lsA hl (gW_to hw (gMem_arr (t := t) hw.1 ht (fun q hq => ⟨rfl, gu_off hq⟩) e1 z oq) (oq _ (Nat.ne_of_lt (Nat.lt_of_lt_of_le hw.2.2 hb0)))) (gLocs hf hb0)
theorem G_aastN (t : Nat) {a : Nat} {i : Int32} {C : String} (hd : gD X pc .aastore 1 pc') (h2 : t = 2 ∨ t = 3) (ht : T.1 a = 100 + t) (hin : vp_in i (T.2.1 a)) (hC : gAT t = .object C) (kk : G E X pc' ls st T gi (gu gr a i.toNatClampNeg none) k n Q) : G E X pc ls (.null :: .int i :: .ref a :: st) T gi gr k n Q := by
  obtain ⟨hd, rfl⟩ := hd
  intro p e s m args below meth c Z hc hr H locs lsA hl hw hf
  obtain ⟨hb0, cell, hcell, hat⟩ := hw.1.2.2 a (by rw [ht]; omega)
  have hce := hat.2 t ht
  subst hce
  have har := (gK_arr hc.2.2.2.2.2.2.2.2 (q := t) (by omega)).1
  rw [hC] at har
  refine va_WaastN (C := C) hc.1 hc.2.1 hcell (har _ _) (fun h => by cases h) (by rw [arrV_size]; exact hin) rfl rfl hd fun H1 e1 z oq => ?_
  rw [arrV_store, show (Value.null) = va_rf none from rfl, gav_R (by omega)] at e1
  exact kk p e s m args below meth c Z hc hr H1 _ lsA hl (gW_to hw (gMem_arr (t := t) hw.1 ht (fun q hq => ⟨rfl, gu_off hq⟩) e1 z oq) (oq _ (Nat.ne_of_lt (Nat.lt_of_lt_of_le hw.2.2 hb0)))) (gLocs hf hb0)
theorem gav_0 (q n : Nat) (cA : ClassId) (hq : q < 5) : arrV cA n (fun _ => defaultValue (gAT q)) = arrV cA n (gav q (fun _ => 0) (fun _ => none)) := by
  congr 1
  funext j
  match q, hq with
  | 0, _ => rfl
  | 1, _ => rfl
  | 2, _ => rfl
  | 3, _ => rfl
  | 4, _ => rfl
theorem gAt_arr {q len : Nat} {cell : Cell} {fi : Nat → Int32} {fr : Nat → Option Nat} (h : cell = arrV (E.2.2.1 q) len (gav q fi fr)) : gAt E (100 + q) len fi fr cell := by
  refine ⟨fun ci r e1 e2 => ?_, fun q' e => ?_⟩
  · have := vwCl_lt e2
    omega
  · have : q' = q := by omega
    subst this
    exact h
theorem G_newa (q : Nat) {ty : ArrayType} {x : Int32} {len : Nat} (hd : gD X pc (.newarray ty) 2 pc') (hq : q < 2) (hty : newarray.typeOf ty = gAT q) (hwd : Cond.arrayClass (newarray.typeOf ty) ∈ gTbl) (hx : ¬ x < 0) (hN : x.toNatClampNeg = len) (hlen : len ≤ 100000) (hk : k + 1 ≤ X.2.2.2.2.cells) (hn : n + len ≤ X.2.2.2.2.slots)
    (kk : G E X pc' ls (.ref T.2.2 :: st) (gNew T (100 + q) len) (gup gi T.2.2 (fun _ => 0)) (gup gr T.2.2 (fun _ => none)) (k + 1) (n + len) Q) : G E X pc ls (.int x :: st) T gi gr k n Q := by
  obtain ⟨hd, rfl⟩ := hd
  intro p e s m args below meth c Z hc hr H locs lsA hl hw hf
  have hbytes : len * componentBytes (newarray.typeOf ty) ≤ 536870912 := by
    have : componentBytes (newarray.typeOf ty) ≤ 8 := by cases ty <;> decide
    calc len * componentBytes (newarray.typeOf ty) ≤ 100000 * 8 := Nat.mul_le_mul hlen this
      _ ≤ 536870912 := by decide
  refine va_newaK hc.1 hc.2.1 (hc.2.2.2.2.2.2.1 _ hwd) rfl hd rfl hx hN hbytes hk hn rfl fun H1 cA e1 z1 o1 hAr hNm => ?_
  have hra := (gK_arr hc.2.2.2.2.2.2.2.2 (q := q) (by omega)).2
  have hcA : cA = E.2.2.1 q := by
    rw [hty] at hNm
    have h2 : s.vm.findClass ("[" ++ (gAT q).toString) = some (E.2.2.1 q) := by
      match q, hq with
      | 0, _ => exact hra
      | 1, _ => exact hra
    exact Option.some.inj (hNm.symm.trans h2)
  subst hcA
  rw [hty, gav_0 q len _ (by omega)] at e1
  have := kk p e s m args below meth c Z hc hr H1 locs lsA hl (gW_to hw (gMem_new hw.1 e1 z1 o1 (gAt_arr rfl)) (o1 _ (by rw [hw.1.1]; exact Nat.lt_of_lt_of_le hw.2.2 hw.1.2.1))) hf
  rw [hw.1.1]
  exact this
theorem G_anew (q : Nat) {idx : Nat} {C : String} {x : Int32} {len : Nat} (hd : gD X pc (.anewarray idx) 3 pc') (hq : q = 2 ∨ q = 3) (hC : gAT q = .object C) (hwd : Cond.classLink X.1.cls idx C ∈ gTbl) (hx : ¬ x < 0) (hN : x.toNatClampNeg = len) (hlen : len ≤ 100000) (hk : k + 1 ≤ X.2.2.2.2.cells) (hn : n + len ≤ X.2.2.2.2.slots)
    (kk : G E X pc' ls (.ref T.2.2 :: st) (gNew T (100 + q) len) (gup gi T.2.2 (fun _ => 0)) (gup gr T.2.2 (fun _ => none)) (k + 1) (n + len) Q) : G E X pc ls (.int x :: st) T gi gr k n Q := by
  obtain ⟨hd, rfl⟩ := hd
  intro p e s m args below meth c Z hc hr H locs lsA hl hw hf
  subst hN
  have hK := hc.2.2.2.2.2.2.2.2
  have hover : va_AO C s := by
    rcases hq with rfl | rfl
    · cases hC; exact hK.2.2.1
    · cases hC; exact hK.2.2.2.1
  refine W.anew hc.1 hc.2.1 hc.2.2.2.2.2.1 (hc.2.2.2.2.2.2.1 _ hwd) (va_AO.use hover) rfl hd rfl hx (by omega) hk hn fun cA kA comp f1 f2 f3 f4 => ?_
  have hra := (gK_arr hK (q := q) (by omega)).2
  rw [hC] at hra
  obtain ⟨kA', comp', k1, k2, k3, k4⟩ := hra
  have hcA : cA = E.2.2.1 q := Option.some.inj (f1.symm.trans k4)
  subst hcA
  generalize hH1 : H.push ({ cls := E.2.2.1 q, slots := Array.replicate x.toNatClampNeg .null, vm := .none } : Cell) = H1
  have z1 : H1.size = H.size + 1 := by rw [← hH1, Array.size_push]
  have e1 : H1[H.size]? = some (arrV (E.2.2.1 q) x.toNatClampNeg (gav q (fun _ => 0) (fun _ => none))) := by
    rw [← hH1, Array.getElem?_push_size, arrV_new, ← gav_0 q _ _ (by omega), hC]
    rfl
  have o1 : ∀ q : Nat, q < H.size → H1[q]? = H[q]? := fun q hq => by rw [← hH1, Array.getElem?_push, if_neg (Nat.ne_of_lt hq)]
  have := kk p e s m args below meth c Z hc hr H1 locs lsA hl (gW_to hw (gMem_new hw.1 e1 z1 o1 (gAt_arr rfl)) (o1 _ (by rw [hw.1.1]; exact Nat.lt_of_lt_of_le hw.2.2 hw.1.2.1))) hf
  rw [hw.1.1]
  exact this
def gNw (own : String) (idx ci N : Nat) : Prop := ∃ (C : String) (Tb : u_T) (ty : Nat → FieldType), gCls ci C Tb N ty ∧ (∀ k, k < N → defaultValue (ty k) = gfv Tb k (fun _ => 0) (fun _ => none)) ∧ Cond.classLink own idx C ∈ gTbl ∧ Cond.instantiable C N ∈ gTbl ∧ Cond.initialized C ∈ gTbl
theorem G_new {idx ci N : Nat} (f : gNw X.1.cls idx ci N) (hd : gD X pc (.new idx) 3 pc') (hk : k + 1 ≤ X.2.2.2.2.cells) (hn : n + N ≤ X.2.2.2.2.slots)
    (kk : G E X pc' ls (.ref T.2.2 :: st) (gNew T (ci + 1) 0) (gup gi T.2.2 (fun _ => 0)) (gup gr T.2.2 (fun _ => none)) (k + 1) (n + N) Q) : G E X pc ls st T gi gr k n Q := by
  obtain ⟨C, Tb, ty, ⟨hcl, hin, hty, hnm⟩, hdf, w1, w2, w3⟩ := f
  obtain ⟨hd, rfl⟩ := hd
  intro p e s m args below meth c Z hc hr H locs lsA hl hw hf
  have hts := hc.2.2.2.2.2.2.1
  have hK := hc.2.2.2.2.2.2.2.2
  have hKn := hK.1.1 ci _ hcl
  refine W.newcK hc.1 hc.2.1 hc.2.2.2.2.2.1 (hts _ w1) (hts _ w2) (hts _ w3) rfl hd hk hn hKn.2.1 rfl fun H1 kC hkC e1 z1 o1 => ?_
  obtain ⟨cell, g1, g2, g3, g4⟩ := u_born ty hts hin hKn hkC e1 hty
  have hat : gAt E (ci + 1) 0 (fun _ => 0) (fun _ => none) cell := by
    refine ⟨fun ci' r a1 a2 => ?_, fun q a1 => ?_⟩
    · have : ci' = ci := by omega
      subst this
      rw [hcl] at a2
      cases a2
      exact ⟨g2, g3, fun j hj => by rw [g4 j hj]; exact congrArg some (hdf j hj)⟩
    · have := vwCl_lt hcl
      omega
  have := kk p e s m args below meth c Z hc hr H1 locs lsA hl (gW_to hw (gMem_new hw.1 g1 z1 o1 hat) (o1 _ (by rw [hw.1.1]; exact Nat.lt_of_lt_of_le hw.2.2 hw.1.2.1))) hf
  rw [hw.1.1]
  exact this
theorem G_objInit {idx a : Nat} (w1 : Cond.methodLink X.1.cls idx objectInit ∈ gTbl) (w2 : Cond.instanceMethod objectInit ∈ gTbl) (w3 : Cond.code objectInit ⟨#[0xb1]⟩ 1 none ∈ gTbl) (hd : gD X pc (.invokespecial idx) 3 pc') (hfr : 1 ≤ X.2.2.2.2.frames) (hlo : (st.map fun v => v.category).sum + 12 ≤ X.2.2.2.2.locals) (kk : G E X pc' ls st T gi gr k n Q) : G E X pc ls (.ref a :: st) T gi gr k n Q := by
  obtain ⟨hd, rfl⟩ := hd
  intro p e s m args below meth c Z hc hr H locs lsA hl hw hf
  have hts := hc.2.2.2.2.2.2.1
  exact W.objInit hc.1 hc.2.1 hc.2.2.2.2.2.1 (hts _ w1) (hts _ w2) (hts _ w3) rfl (by rw [hc.2.2.1]; exact hl.1) rfl hd hfr (by show 2 * 0 + _ + 12 ≤ _; omega) (kk p e s m args below meth c Z hc hr H locs lsA hl hw hf)
theorem G_mmax {idx : Nat} {x y : Int32} (w1 : Cond.methodLink X.1.cls idx Lib.Math.max.name ∈ gTbl) (w2 : Cond.static Lib.Math.max.name ∈ gTbl) (w3 : Cond.initialized "java/lang/Math" ∈ gTbl) (w4 : Cond.code Lib.Math.max.name Lib.Math.max.code 2 (some .int) ∈ gTbl) (hd : gD X pc (.invokestatic idx) 3 pc') (hfr : 1 ≤ X.2.2.2.2.frames) (hlo : (st.map fun v => v.category).sum + 13 ≤ X.2.2.2.2.locals) (hk : k ≤ X.2.2.2.2.cells) (hn : n ≤ X.2.2.2.2.slots) (kk : G E X pc' ls (.int (if x < y then y else x) :: st) T gi gr k n Q) : G E X pc ls (.int y :: .int x :: st) T gi gr k n Q := by
  obtain ⟨hd, rfl⟩ := hd
  intro p e s m args below meth c Z hc hr H locs lsA hl hw hf
  have hts := hc.2.2.2.2.2.2.1
  exact va_mmax hc.1 hc.2.1 (by rw [hc.2.2.1]; exact hl.1.symm) hc.2.2.2.2.2.1 (hts _ w1) (hts _ w2) (hts _ w3) (hts _ w4) hfr hlo hk hn hd (kk p e s m args below meth c Z hc hr H locs lsA hl hw hf)
theorem G_mmin {idx : Nat} {x y : Int32} (w1 : Cond.methodLink X.1.cls idx Lib.Math.min.name ∈ gTbl) (w2 : Cond.static Lib.Math.min.name ∈ gTbl) (w3 : Cond.initialized "java/lang/Math" ∈ gTbl) (w4 : Cond.code Lib.Math.min.name Lib.Math.min.code 2 (some .int) ∈ gTbl) (hd : gD X pc (.invokestatic idx) 3 pc') (hfr : 1 ≤ X.2.2.2.2.frames) (hlo : (st.map fun v => v.category).sum + 13 ≤ X.2.2.2.2.locals) (hk : k ≤ X.2.2.2.2.cells) (hn : n ≤ X.2.2.2.2.slots) (kk : G E X pc' ls (.int (if y < x then y else x) :: st) T gi gr k n Q) : G E X pc ls (.int y :: .int x :: st) T gi gr k n Q := by
  obtain ⟨hd, rfl⟩ := hd
  intro p e s m args below meth c Z hc hr H locs lsA hl hw hf
  have hts := hc.2.2.2.2.2.2.1
  exact va_mmin hc.1 hc.2.1 (by rw [hc.2.2.1]; exact hl.1.symm) hc.2.2.2.2.2.1 (hts _ w1) (hts _ w2) (hts _ w3) (hts _ w4) hfr hlo hk hn hd (kk p e s m args below meth c Z hc hr H locs lsA hl hw hf)
theorem G_mabs {idx : Nat} {x : Int32} (w1 : Cond.methodLink X.1.cls idx Lib.Math.abs.name ∈ gTbl) (w2 : Cond.static Lib.Math.abs.name ∈ gTbl) (w3 : Cond.initialized "java/lang/Math" ∈ gTbl) (w4 : Cond.code Lib.Math.abs.name Lib.Math.abs.code 1 (some .int) ∈ gTbl) (hd : gD X pc (.invokestatic idx) 3 pc') (hfr : 1 ≤ X.2.2.2.2.frames) (hlo : (st.map fun v => v.category).sum + 13 ≤ X.2.2.2.2.locals) (hk : k ≤ X.2.2.2.2.cells) (hn : n ≤ X.2.2.2.2.slots) (kk : G E X pc' ls (.int (if 0 ≤ x then x else 0 - x) :: st) T gi gr k n Q) : G E X pc ls (.int x :: st) T gi gr k n Q := by
  obtain ⟨hd, rfl⟩ := hd
  intro p e s m args below meth c Z hc hr H locs lsA hl hw hf
  have hts := hc.2.2.2.2.2.2.1
  exact va_mabs hc.1 hc.2.1 (by rw [hc.2.2.1]; exact hl.1.symm) hc.2.2.2.2.2.1 (hts _ w1) (hts _ w2) (hts _ w3) (hts _ w4) hfr hlo hk hn hd (kk p e s m args below meth c Z hc hr H locs lsA hl hw hf)
end GF
def Ct (E : gE) (X : gX) (As : List Value) (T : gT) (gi : gI) (gr : gR) (Q : gQ) : Prop :=
  Met E.1 X.1 (gws X) X.2.2.2.2 (fun a U => a = As.toArray ∧ gW E T gi gr U U.heap ∧ gK E U) (fun _ _ o t => ∃ (T' : gT) (gi' : gI) (gr' : gR) (v : Option Value), o = .returned v ∧ Q T' gi' gr' v ∧ gW E T' gi' gr' t t.heap ∧ gK E t) X.2.2.2.2.cells X.2.2.2.2.slots (fun q => gbase E ≤ q)
theorem gK_warm {E : gE} {s U : State} (hW : s.WarmedH U.vm) (h : gK E s) : gK E U := by
  obtain ⟨h1, h2, h3, h4, h5⟩ := h
  exact ⟨va_K.moved hW.alike h1, gNest_warm hW h2, va_AO.moved hW.alike h3, va_AO.moved hW.alike h4, over_moved hW.alike h5⟩
theorem gK_call {E : gE} {U : State} {g : JFrame} {mk : MethodId} {a : Array Value} (h : gK E U) : gK E (U.calling g mk a) := by
  obtain ⟨h1, h2, h3, h4, h5⟩ := h
  exact ⟨va_K.moved (u := U) (U := U.calling g mk a) (Vm.Alike.refl U.vm) h1, fun w hw => gNest_same hw (rfl : U.vm = (U.calling g mk a).vm) (h2 w hw), va_AO.moved (u := U) (U := U.calling g mk a) (Vm.Alike.refl U.vm) h3, va_AO.moved (u := U) (U := U.calling g mk a) (Vm.Alike.refl U.vm) h4, over_moved (u := U) (E := U.calling g mk a) (Vm.Alike.refl U.vm) h5⟩
theorem gW_moved {E : gE} {T : gT} {gi : gI} {gr : gR} {u U : State} {H : Heap} (hvm : u.vm.Alike U.vm) (h : gW E T gi gr u H) : gW E T gi gr U H := ⟨h.1, h.2.1.moved hvm, h.2.2⟩
theorem lv_args_in : ∀ (As : List Value) (i : Nat), (∀ v ∈ As, v.category = 1) → ∀ (j : Nat) (v : Value), As[j]? = some v → (i + j, v) ∈ lv_args i As
  | [], i, _, j, v, h => by simp at h
  | a :: As, i, hc, j, v, h => by
    have ha : a.category = 1 := hc a List.mem_cons_self
    cases j with
    | zero =>
      rw [List.getElem?_cons_zero] at h
      cases h
      exact List.mem_cons_self
    | succ j =>
      rw [List.getElem?_cons_succ] at h
      refine List.mem_cons_of_mem _ ?_
      rw [if_neg (by omega), show i + (j + 1) = (i + 1) + j by omega]
      exact lv_args_in As (i + 1) (fun v hv => hc v (List.mem_cons_of_mem _ hv)) j v h
theorem lg_sl_len : ∀ (As : List Value), (∀ v ∈ As, v.category = 1) → (lg_sl As).length = As.length
  | [], _ => rfl
  | a :: As, hc => by
    have ha : a.category = 1 := hc a List.mem_cons_self
    have ih := lg_sl_len As (fun v hv => hc v (List.mem_cons_of_mem _ hv))
    simp only [lg_sl, List.flatMap_cons, ha] at ih ⊢
    simp [ih]
theorem gL_entry {As : List Value} {nL : Nat} (hc : ∀ v ∈ As, v.category = 1) (hl : As.length ≤ nL) : gL (As ++ List.replicate (nL - As.length) (.long 0)) nL ((lg_sl As ++ List.replicate (nL - (lg_sl As).length) Slot.unset).toArray) := by
  refine gL_of (lv_entry As (by rw [lg_sl_len As hc]; exact hl)) fun q hq => ?_
  obtain ⟨j, v⟩ := q
  obtain ⟨h1, h2⟩ := gl_mem.mp hq
  by_cases hj : j < As.length
  · rw [List.getElem?_append_left hj] at h1
    have := lv_args_in As 0 hc j v h1
    rwa [Nat.zero_add] at this
  · rw [List.getElem?_append_right (by omega), List.getElem?_replicate] at h1
    split at h1
    · cases h1; cases h2
    · cases h1
theorem Ct_of {E : gE} {X : gX} {As ls : List Value} {T : gT} {gi : gI} {gr : gR} {Q : gQ} (hpl : plainName X.1.cls = true) (hcat : ∀ v ∈ As, v.category = 1) (hl : As.length ≤ X.2.2.1) (hls : As ++ List.replicate (X.2.2.1 - As.length) (.long 0) = ls) (hG : G E X 0 ls [] T gi gr 0 0 Q) : Ct E X As T gi gr Q := by
  subst hls
  refine Met.ofW (cc := X.2.1) (maxL := X.2.2.1) (ret := X.2.2.2.1) hpl rfl ?_
  intro p e s m args below meth c s₁ B hml hv
  obtain ⟨rfl, hW, hK⟩ := hv
  have hts := atoms_spec (ws := gws X) B.pre
  rw [lg_entry_eq]
  have hlocks := B.notSynchronized
  refine hG p e s m _ below meth c _ ⟨B.exec, B.bytes, hml, B.returns, hlocks, findClass_of_methodNamed B.named, fun w hw => hts w (List.mem_cons_of_mem _ hw), (name_of_methodNamed B.named B.method).1, hK⟩ ?_ s.heap [] _ (gL_entry hcat hl) hW (fun q hq => by cases hq)
  intro T' gi' gr' v H' locs' lsA pc' hq hw hf hrt
  have fin : ∀ t : State, t.heap = H' → s.WarmedH t.vm → ∃ (T' : gT) (gi' : gI) (gr' : gR) (v' : Option Value), (Outcome.returned v) = .returned v' ∧ Q T' gi' gr' v' ∧ gW E T' gi' gr' t t.heap ∧ gK E t := fun t ht hwm => ⟨T', gi', gr', v, rfl, hq, by rw [ht]; exact gW_moved hwm.alike hw, gK_warm hwm hK⟩
  have hret := B.returns
  cases v with
  | none => exact W.vret B.exec B.bytes (by rw [hret]; exact hrt.2) fin hf hrt.1
  | some v =>
    cases v with
    | int x =>
      obtain ⟨h1, ty, h2, h3⟩ := hrt
      exact W.zret B.exec B.bytes (by rw [hret]; exact h2) h3 fin hf h1
    | null =>
      obtain ⟨h1, h2, C, h3⟩ := hrt
      exact W.aret B.exec B.bytes (by rw [hret]; exact h3) (Or.inl ⟨C, rfl⟩) h2 fin hf h1
    | ref a =>
      obtain ⟨h1, h2, C, h3⟩ := hrt
      exact W.aret B.exec B.bytes (by rw [hret]; exact h3) (Or.inl ⟨C, rfl⟩) h2 fin hf h1
    | long x => obtain ⟨h1, h2, C, h3⟩ := hrt; rcases h2 with h2 | ⟨a, h2⟩ <;> cases h2
    | float x => obtain ⟨h1, h2, C, h3⟩ := hrt; rcases h2 with h2 | ⟨a, h2⟩ <;> cases h2
    | double x => obtain ⟨h1, h2, C, h3⟩ := hrt; rcases h2 with h2 | ⟨a, h2⟩ <;> cases h2
    | retAddr x => obtain ⟨h1, h2, C, h3⟩ := hrt; rcases h2 with h2 | ⟨a, h2⟩ <;> cases h2
section GC
variable {E : gE} {X Y : gX} {pc pc' : Nat} {ls st : List Value} {T : gT} {gi : gI} {gr : gR} {k n : Nat} {Q Q1 : gQ}
theorem gws_good (X Y : gX) (h : Cond.code Y.1 Y.2.1 Y.2.2.1 Y.2.2.2.1 ∈ gTbl) : GoodIn gTbl (gws Y) := by
  intro w hw
  rcases List.mem_cons.mp hw with rfl | hw
  · exact ⟨h, gGood_or (List.mem_filter.mp h).2⟩
  · exact ⟨hw, gGood_or (List.mem_filter.mp hw).2⟩
def gCall (X Y : gX) (na : Nat) : Prop := Cond.code Y.1 Y.2.1 Y.2.2.1 Y.2.2.2.1 ∈ gTbl ∧ Cond.initialized Y.1.cls ∈ gTbl ∧ (Y.1.cls ≠ "java/lang/invoke/MethodHandle" ∧ Y.1.cls ≠ "java/lang/invoke/VarHandle" ∧ (parseMethodDescriptor Y.1.desc).map (fun d => d.parameters.length) = some na) ∧ Y.2.2.2.2.frames + 1 ≤ X.2.2.2.2.frames ∧ 8 + (Y.2.2.1 + 11) + Y.2.2.2.2.locals ≤ X.2.2.2.2.locals
theorem gBlind {As : List Value} : FrameBlind (fun a U => a = As.toArray ∧ gW E T gi gr U U.heap ∧ gK E U) := fun a U g mk h => ⟨h.1, gW_moved (u := U) (U := U.calling g mk a) (Vm.Alike.refl U.vm) h.2.1, gK_call h.2.2⟩
theorem gPre {s : State} {H : Heap} {As : List Value} (hw : gW E T gi gr s H) (hK : gK E s) : PreS s H (fun a U => a = As.toArray ∧ gW E T gi gr U U.heap ∧ gK E U) As := ⟨gBlind, fun U hU hW => ⟨rfl, by rw [hU]; exact gW_moved hW.alike hw, gK_warm hW hK⟩⟩
theorem G_after {rest : List Value} {p : Program} {e : Env} {s : State} {m : MethodId} {args : Array Value} {below : List Frame} {meth : Method} {c : Code} {Z : State → Prop} {H : Heap} {locs : List Loc} {lsA : Array Slot}
    (hr0 : va_Run p E.1 e X.2.2.2.2 s m args below meth c H locs k n Y.2.2.2.2.cells Y.2.2.2.2.slots (F0 m pc lsA st) rest (fun _ o t => ∃ (T' : gT) (gi' : gI) (gr' : gR) (v : Option Value), o = .returned v ∧ Q1 T' gi' gr' v ∧ gW E T' gi' gr' t t.heap ∧ gK E t) (fun q => gbase E ≤ q))
    (hc : gCx E X p s m args meth c) (hr : ∀ (T' : gT) (gi' : gI) (gr' : gR) (v : Option Value) (H' : Heap) (locs' : List Loc) (lsA : Array Slot) (pc' : Nat), Q T' gi' gr' v → gW E T' gi' gr' s H' → (∀ q ∈ locs', gbase E ≤ q.base) → gRt X pc' v → W p E.1 e X.2.2.2.2 s m args below meth c H' locs' X.2.2.2.2.cells X.2.2.2.2.slots Z (F0 m pc' lsA v.toList)) (hl : gL ls X.2.2.1 lsA) (hf : ∀ q ∈ locs, gbase E ≤ q.base)
    (kk : ∀ T' gi' gr' v, Q1 T' gi' gr' v → G E X (pc + 3) ls (v.toList ++ rest) T' gi' gr' (k + Y.2.2.2.2.cells) (n + Y.2.2.2.2.slots) Q) : W p E.1 e X.2.2.2.2 s m args below meth c H locs k n Z (F0 m pc lsA st) := by
  intro U hU X0
  obtain ⟨v, st₀, t, U', L, h0, X', hL, e1, e2, ⟨T', gi', gr', v', hv, hq, hw', hK'⟩, stp⟩ := hr0 U hU X0
  cases hv
  have hal : t.vm.Alike s.vm := by rw [← e2]; exact X'.warmed.alike.symm
  obtain ⟨t2, a1, b1⟩ := kk T' gi' gr' v hq p e s m args below meth c Z hc hr U'.heap (locs ++ L) lsA hl (by rw [e1]; exact gW_moved hal hw') (fun q hq => by
    rcases List.mem_append.mp hq with h | h
    · exact hf q h
    · exact hL q h) U' rfl X'
  exact ⟨t2, stp t2 a1, b1⟩
theorem G_callV {idx a ci : Nat} {As rest : List Value} {Tb : u_T} {N : Nat} (g : gCall X Y As.length) (w1 : Cond.methodLink X.1.cls idx Y.1 ∈ gTbl) (w2 : Cond.instanceMethod Y.1 ∈ gTbl) (w3 : Cond.selects Y.1.cls Y.1 Y.1 ∈ gTbl) (hcl : vwCl[ci]? = some (Y.1.cls, Tb, N)) (hd : gD X pc (.invokevirtual idx) 3 pc') (hst : st = As.reverse ++ .ref a :: rest) (hrest : (rest.map fun v => v.category).sum ≤ 8) (ht : T.1 a = ci + 1) (hk : k + Y.2.2.2.2.cells ≤ X.2.2.2.2.cells ∧ n + Y.2.2.2.2.slots ≤ X.2.2.2.2.slots) (hC : Ct E Y (.ref a :: As) T gi gr Q1)
    (kk : ∀ T' gi' gr' v, Q1 T' gi' gr' v → G E X pc' ls (v.toList ++ rest) T' gi' gr' (k + Y.2.2.2.2.cells) (n + Y.2.2.2.2.slots) Q) : G E X pc ls st T gi gr k n Q := by
  obtain ⟨g1, g2, g3, g4⟩ := g
  obtain ⟨hd, rfl⟩ := hd
  intro p e s m args below meth c Z hc hr H locs lsA hl hw hf
  have hts := hc.2.2.2.2.2.2.1
  have hK := hc.2.2.2.2.2.2.2.2
  obtain ⟨hb0, cell, hcell, hat⟩ := hw.1.2.2 a (by rw [ht]; exact Nat.succ_ne_zero _)
  obtain ⟨q2, q3, q4⟩ := hat.1 ci _ ht hcl
  refine G_after (Y := Y) (Q1 := Q1) (va_runV (As := As) (rest := rest) (Ts := gTbl) (C := Y.1.cls) ⟨hc.1, hc.2.1, hc.2.2.1, hc.2.2.2.2.2.1, hts⟩ hC ⟨callB_of (ws' := gTbl) As.length hts (gws_good X Y g1) rfl rfl rfl (hts _ g2) (hts _ w1) g3 g4, hts _ w2, hts _ w3⟩ ⟨gBlind, ⟨cell, hcell, by rw [q3]; rfl, by rw [q2]; exact (hK.1.1 ci _ hcl).2.1⟩, (gPre hw hK).2⟩ rfl rfl hl.1 hst (lv_room hrest) hd hk) hc hr hl hf kk
theorem G_callS {idx : Nat} {As rest : List Value} (g : gCall X Y As.length) (w1 : Cond.methodLink X.1.cls idx Y.1 ∈ gTbl) (w2 : Cond.static Y.1 ∈ gTbl) (hd : gD X pc (.invokestatic idx) 3 pc') (hst : st = As.reverse ++ rest) (hrest : (rest.map fun v => v.category).sum ≤ 8) (hk : k + Y.2.2.2.2.cells ≤ X.2.2.2.2.cells ∧ n + Y.2.2.2.2.slots ≤ X.2.2.2.2.slots) (hC : Ct E Y As T gi gr Q1)
    (kk : ∀ T' gi' gr' v, Q1 T' gi' gr' v → G E X pc' ls (v.toList ++ rest) T' gi' gr' (k + Y.2.2.2.2.cells) (n + Y.2.2.2.2.slots) Q) : G E X pc ls st T gi gr k n Q := by
  obtain ⟨g1, g2, g3, g4⟩ := g
  obtain ⟨hd, rfl⟩ := hd
  intro p e s m args below meth c Z hc hr H locs lsA hl hw hf
  have hts := hc.2.2.2.2.2.2.1
  have hK := hc.2.2.2.2.2.2.2.2
  refine G_after (Y := Y) (Q1 := Q1) (va_runS (As := As) (rest := rest) (Ts := gTbl) ⟨hc.1, hc.2.1, hc.2.2.1, hc.2.2.2.2.2.1, hts⟩ hC ⟨callB_of (ws' := gTbl) As.length hts (gws_good X Y g1) rfl rfl rfl (hts _ g2) (hts _ w1) g3 g4, hts _ w2⟩ (gPre hw hK) rfl rfl hl.1 hst (lv_room hrest) hd hk) hc hr hl hf kk
theorem G_callSN {idx : Nat} {host : String} {As rest : List Value} (g : gCall X Y As.length) (w1 : Cond.methodLinkNest X.1.cls idx Y.1 host ∈ gNest) (w2 : Cond.static Y.1 ∈ gTbl) (hd : gD X pc (.invokestatic idx) 3 pc') (hst : st = As.reverse ++ rest) (hrest : (rest.map fun v => v.category).sum ≤ 8) (hk : k + Y.2.2.2.2.cells ≤ X.2.2.2.2.cells ∧ n + Y.2.2.2.2.slots ≤ X.2.2.2.2.slots) (hC : Ct E Y As T gi gr Q1)
    (kk : ∀ T' gi' gr' v, Q1 T' gi' gr' v → G E X pc' ls (v.toList ++ rest) T' gi' gr' (k + Y.2.2.2.2.cells) (n + Y.2.2.2.2.slots) Q) : G E X pc ls st T gi gr k n Q := by
  obtain ⟨g1, g2, g3, g4⟩ := g
  obtain ⟨hd, rfl⟩ := hd
  intro p e s m args below meth c Z hc hr H locs lsA hl hw hf
  have hts := hc.2.2.2.2.2.2.1
  have hK := hc.2.2.2.2.2.2.2.2
  refine G_after (Y := Y) (Q1 := Q1) (va_runSN (As := As) (rest := rest) (Ts := gTbl) ⟨hc.1, hc.2.1, hc.2.2.1, hc.2.2.2.2.2.1, hts⟩ hC ⟨va_cnB (ws' := gTbl) As.length hts (gws_good X Y g1) rfl rfl rfl (hK.2.1 _ w1) (hts _ g2) g3 g4, hts _ w2, trivial⟩ (gPre hw hK) rfl rfl hl.1 hst (lv_room hrest) hd hk) hc hr hl hf kk
theorem G_callI {idx a : Nat} {As rest : List Value} (g : gCall X Y As.length) (w1 : Cond.methodLink X.1.cls idx Y.1 ∈ gTbl) (w2 : Cond.instanceMethod Y.1 ∈ gTbl) (hnm : Y.1.name = "<init>") (hret : Y.2.2.2.1 = none) (hd : gD X pc (.invokespecial idx) 3 pc') (hst : st = As.reverse ++ .ref a :: rest) (hrest : (rest.map fun v => v.category).sum ≤ 8) (hk : k + Y.2.2.2.2.cells ≤ X.2.2.2.2.cells ∧ n + Y.2.2.2.2.slots ≤ X.2.2.2.2.slots) (hC : Ct E Y (.ref a :: As) T gi gr Q1)
    (kk : ∀ T' gi' gr' v, Q1 T' gi' gr' v → G E X pc' ls (v.toList ++ rest) T' gi' gr' (k + Y.2.2.2.2.cells) (n + Y.2.2.2.2.slots) Q) : G E X pc ls st T gi gr k n Q := by
  obtain ⟨g1, g2, g3, g4⟩ := g
  obtain ⟨hd, rfl⟩ := hd
  intro p e s m args below meth c Z hc hr H locs lsA hl hw hf
  have hts := hc.2.2.2.2.2.2.1
  have hK := hc.2.2.2.2.2.2.2.2
  have g1' : Cond.code Y.1 Y.2.1 Y.2.2.1 none ∈ gTbl := by rw [← hret]; exact g1
  refine G_after (Y := Y) (Q1 := Q1) (va_runI (As := As) (rest := rest) (Ts := gTbl) (bytes := Y.2.1) (maxL := Y.2.2.1) ⟨hc.1, hc.2.1, hc.2.2.1, hc.2.2.2.2.2.1, hts⟩ hC ⟨callB_of (ws' := gTbl) As.length hts (gws_good X Y g1) (by unfold gws; rw [hret]) rfl rfl (hts _ g2) (hts _ w1) g3 g4, hnm, hts _ w2⟩ (gPre hw hK) rfl rfl hl.1 hst (lv_room hrest) hd hk) hc hr hl hf kk
theorem G_callIN {idx a : Nat} {host : String} {As rest : List Value} (g : gCall X Y As.length) (w1 : Cond.methodLinkNest X.1.cls idx Y.1 host ∈ gNest) (w2 : Cond.instanceMethod Y.1 ∈ gTbl) (hnm : Y.1.name = "<init>") (hret : Y.2.2.2.1 = none) (hd : gD X pc (.invokespecial idx) 3 pc') (hst : st = As.reverse ++ .ref a :: rest) (hrest : (rest.map fun v => v.category).sum ≤ 8) (hk : k + Y.2.2.2.2.cells ≤ X.2.2.2.2.cells ∧ n + Y.2.2.2.2.slots ≤ X.2.2.2.2.slots) (hC : Ct E Y (.ref a :: As) T gi gr Q1)
    (kk : ∀ T' gi' gr' v, Q1 T' gi' gr' v → G E X pc' ls (v.toList ++ rest) T' gi' gr' (k + Y.2.2.2.2.cells) (n + Y.2.2.2.2.slots) Q) : G E X pc ls st T gi gr k n Q := by
  obtain ⟨g1, g2, g3, g4⟩ := g
  obtain ⟨hd, rfl⟩ := hd
  intro p e s m args below meth c Z hc hr H locs lsA hl hw hf
  have hts := hc.2.2.2.2.2.2.1
  have hK := hc.2.2.2.2.2.2.2.2
  refine G_after (Y := Y) (Q1 := Q1) (va_runIN (As := As) (rest := rest) (Ts := gTbl) (bytes := Y.2.1) (maxL := Y.2.2.1) ⟨hc.1, hc.2.1, hc.2.2.1, hc.2.2.2.2.2.1, hts⟩ hC ⟨va_cnB (ws' := gTbl) As.length hts (gws_good X Y g1) (by unfold gws; rw [hret]) rfl rfl (hK.2.1 _ w1) (hts _ g2) g3 g4, hnm, hts _ w2⟩ (gPre hw hK) rfl rfl hl.1 hst (lv_room hrest) hd hk) hc hr hl hf kk
end GC
section GN
variable {E : gE} {X : gX} {pc pc' : Nat} {ls st st' : List Value} {T : gT} {gi : gI} {gr : gR} {k n : Nat} {Q : gQ}
theorem G_st (h : st = st') (kk : G E X pc ls st' T gi gr k n Q) : G E X pc ls st T gi gr k n Q := by
  subst h
  exact kk
theorem vp_inN {j len a : Nat} {T : gT} (hl : T.2.1 a = len) (hj : j < len) (hb : len < 2 ^ 31) : vp_in (nI j) (T.2.1 a) := by
  rw [hl]
  exact vp_in_nI hj hb
theorem G_ialdN {a j len : Nat} (hd : gD X pc .iaload 1 pc') (ht : T.1 a = 100) (hl : T.2.1 a = len) (hb : len < 2 ^ 31) (hj : j < len) (kk : G E X pc' ls (.int (gi a j) :: st) T gi gr k n Q) : G E X pc ls (.int (nI j) :: .ref a :: st) T gi gr k n Q := by
  refine G_iald hd ht (vp_inN hl hj hb) ?_
  rw [nI_clamp (Nat.lt_trans hj hb)]
  exact kk
theorem G_zaldN {a j len : Nat} (hd : gD X pc .baload 1 pc') (ht : T.1 a = 101) (hl : T.2.1 a = len) (hb : len < 2 ^ 31) (hj : j < len) (kk : G E X pc' ls (.int (gi a j) :: st) T gi gr k n Q) : G E X pc ls (.int (nI j) :: .ref a :: st) T gi gr k n Q := by
  refine G_zald hd ht (vp_inN hl hj hb) ?_
  rw [nI_clamp (Nat.lt_trans hj hb)]
  exact kk
theorem G_aaldN (t : Nat) {a j len : Nat} (hd : gD X pc .aaload 1 pc') (h2 : 2 ≤ t ∧ t < 5) (ht : T.1 a = 100 + t) (hl : T.2.1 a = len) (hb : len < 2 ^ 31) (hj : j < len) (kk : G E X pc' ls (va_rf (gr a j) :: st) T gi gr k n Q) : G E X pc ls (.int (nI j) :: .ref a :: st) T gi gr k n Q := by
  refine G_aald t hd h2 ht (vp_inN hl hj hb) ?_
  rw [nI_clamp (Nat.lt_trans hj hb)]
  exact kk
theorem G_aaldsN (t : Nat) {a j len q : Nat} (hd : gD X pc .aaload 1 pc') (h2 : 2 ≤ t ∧ t < 5) (ht : T.1 a = 100 + t) (hl : T.2.1 a = len) (hb : len < 2 ^ 31) (hj : j < len) (hq : gr a j = some q) (kk : G E X pc' ls (.ref q :: st) T gi gr k n Q) : G E X pc ls (.int (nI j) :: .ref a :: st) T gi gr k n Q := G_aaldN t hd h2 ht hl hb hj (by rw [hq]; exact kk)
theorem G_iastN {a j len : Nat} {x : Int32} (hd : gD X pc .iastore 1 pc') (ht : T.1 a = 100) (hl : T.2.1 a = len) (hb : len < 2 ^ 31) (hj : j < len) (kk : G E X pc' ls st T (gu gi a j x) gr k n Q) : G E X pc ls (.int x :: .int (nI j) :: .ref a :: st) T gi gr k n Q := by
  refine G_iast hd ht (vp_inN hl hj hb) ?_
  rw [nI_clamp (Nat.lt_trans hj hb)]
  exact kk
theorem G_zastN {a j len : Nat} {x : Int32} (hd : gD X pc .bastore 1 pc') (ht : T.1 a = 101) (hl : T.2.1 a = len) (hb : len < 2 ^ 31) (hj : j < len) (hx : x = 0 ∨ x = 1) (kk : G E X pc' ls st T (gu gi a j x) gr k n Q) : G E X pc ls (.int x :: .int (nI j) :: .ref a :: st) T gi gr k n Q := by
  refine G_zast hd ht (vp_inN hl hj hb) hx ?_
  rw [nI_clamp (Nat.lt_trans hj hb)]
  exact kk
theorem G_aastsN (t : Nat) {a v ci j len : Nat} {C : String} {Tb : u_T} {N : Nat} (hd : gD X pc .aastore 1 pc') (h2 : t = 2 ∨ t = 3) (ht : T.1 a = 100 + t) (hl : T.2.1 a = len) (hb : len < 2 ^ 31) (hj : j < len) (hv : T.1 v = ci + 1) (hcl : vwCl[ci]? = some (C, Tb, N)) (hC : gAT t = .object C) (kk : G E X pc' ls st T gi (gu gr a j (some v)) k n Q) : G E X pc ls (.ref v :: .int (nI j) :: .ref a :: st) T gi gr k n Q := by
  refine G_aast t hd h2 ht (vp_inN hl hj hb) hv hcl hC ?_
  rw [nI_clamp (Nat.lt_trans hj hb)]
  exact kk
theorem G_aastNN (t : Nat) {a j len : Nat} {C : String} (hd : gD X pc .aastore 1 pc') (h2 : t = 2 ∨ t = 3) (ht : T.1 a = 100 + t) (hl : T.2.1 a = len) (hb : len < 2 ^ 31) (hj : j < len) (hC : gAT t = .object C) (kk : G E X pc' ls st T gi (gu gr a j none) k n Q) : G E X pc ls (.null :: .int (nI j) :: .ref a :: st) T gi gr k n Q := by
  refine G_aastN t hd h2 ht (vp_inN hl hj hb) hC ?_
  rw [nI_clamp (Nat.lt_trans hj hb)]
  exact kk
end GN
end
