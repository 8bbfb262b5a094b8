section
/-- a private method of a class that the tables say can be made, by its rows of tables_1 -/
def lw_okq (q : MethodName × Nat) : Prop := (q.1.cls ≠ "java/lang/invoke/MethodHandle" ∧ q.1.cls ≠ "java/lang/invoke/VarHandle") ∧ Cond.instantiable q.1.cls q.2 ∈ tables_1 ∧ Cond.privateMethod q.1 ∈ tables_1 ∧ Cond.instanceMethod q.1 ∈ tables_1
theorem lw_p0 : lw_okq (⟨"DamageView", "addBox", "(ILDamageView$Box;)I"⟩, 7) := ⟨⟨by decide +kernel, by decide +kernel⟩, List.mem_of_getElem? (i := 12) (by decide +kernel), List.mem_of_getElem? (i := 88) (by decide +kernel), List.mem_of_getElem? (i := 89) (by decide +kernel)⟩
theorem lw_p1 : lw_okq (⟨"DamageView", "showChanges", "()V"⟩, 7) := ⟨⟨by decide +kernel, by decide +kernel⟩, List.mem_of_getElem? (i := 12) (by decide +kernel), List.mem_of_getElem? (i := 151) (by decide +kernel), List.mem_of_getElem? (i := 152) (by decide +kernel)⟩
theorem lw_p2 : lw_okq (⟨"DamageView", "showBox", "(LDamageView$Box;)V"⟩, 7) := ⟨⟨by decide +kernel, by decide +kernel⟩, List.mem_of_getElem? (i := 12) (by decide +kernel), List.mem_of_getElem? (i := 191) (by decide +kernel), List.mem_of_getElem? (i := 192) (by decide +kernel)⟩
theorem lw_p3 : lw_okq (⟨"DamageView", "colourOf", "(LDamageView$Box;)I"⟩, 7) := ⟨⟨by decide +kernel, by decide +kernel⟩, List.mem_of_getElem? (i := 12) (by decide +kernel), List.mem_of_getElem? (i := 195) (by decide +kernel), List.mem_of_getElem? (i := 196) (by decide +kernel)⟩
theorem lw_p4 : lw_okq (⟨"DamageView", "isBox", "(I)Z"⟩, 7) := ⟨⟨by decide +kernel, by decide +kernel⟩, List.mem_of_getElem? (i := 12) (by decide +kernel), List.mem_of_getElem? (i := 240) (by decide +kernel), List.mem_of_getElem? (i := 241) (by decide +kernel)⟩
theorem lw_p5 : lw_okq (⟨"DamageView$Layout", "solve", "()Z"⟩, 6) := ⟨⟨by decide +kernel, by decide +kernel⟩, List.mem_of_getElem? (i := 37) (by decide +kernel), List.mem_of_getElem? (i := 293) (by decide +kernel), List.mem_of_getElem? (i := 294) (by decide +kernel)⟩
theorem lw_p6 : lw_okq (⟨"DamageView$Layout", "demandAll", "()V"⟩, 6) := ⟨⟨by decide +kernel, by decide +kernel⟩, List.mem_of_getElem? (i := 37) (by decide +kernel), List.mem_of_getElem? (i := 297) (by decide +kernel), List.mem_of_getElem? (i := 298) (by decide +kernel)⟩
theorem lw_p7 : lw_okq (⟨"DamageView$Layout", "chooseBest", "()V"⟩, 6) := ⟨⟨by decide +kernel, by decide +kernel⟩, List.mem_of_getElem? (i := 37) (by decide +kernel), List.mem_of_getElem? (i := 328) (by decide +kernel), List.mem_of_getElem? (i := 329) (by decide +kernel)⟩
theorem lw_p8 : lw_okq (⟨"DamageView", "isInnerBox", "(I)Z"⟩, 7) := ⟨⟨by decide +kernel, by decide +kernel⟩, List.mem_of_getElem? (i := 12) (by decide +kernel), List.mem_of_getElem? (i := 401) (by decide +kernel), List.mem_of_getElem? (i := 402) (by decide +kernel)⟩
theorem lw_p9 : lw_okq (⟨"DamageView", "isLastOfItsParent", "(LDamageView$Box;)Z"⟩, 7) := ⟨⟨by decide +kernel, by decide +kernel⟩, List.mem_of_getElem? (i := 12) (by decide +kernel), List.mem_of_getElem? (i := 409) (by decide +kernel), List.mem_of_getElem? (i := 410) (by decide +kernel)⟩
theorem lw_p10 : lw_okq (⟨"DamageView", "bringToFront", "(LDamageView$Box;)V"⟩, 7) := ⟨⟨by decide +kernel, by decide +kernel⟩, List.mem_of_getElem? (i := 12) (by decide +kernel), List.mem_of_getElem? (i := 413) (by decide +kernel), List.mem_of_getElem? (i := 414) (by decide +kernel)⟩
theorem lw_p11 : lw_okq (⟨"DamageView", "frontBox", "(II)LDamageView$Box;"⟩, 7) := ⟨⟨by decide +kernel, by decide +kernel⟩, List.mem_of_getElem? (i := 12) (by decide +kernel), List.mem_of_getElem? (i := 421) (by decide +kernel), List.mem_of_getElem? (i := 422) (by decide +kernel)⟩
theorem lw_p12 : lw_okq (⟨"DamageView", "frontChild", "(LDamageView$Box;II)LDamageView$Box;"⟩, 7) := ⟨⟨by decide +kernel, by decide +kernel⟩, List.mem_of_getElem? (i := 12) (by decide +kernel), List.mem_of_getElem? (i := 425) (by decide +kernel), List.mem_of_getElem? (i := 426) (by decide +kernel)⟩
theorem lw_p13 : lw_okq (⟨"DamageView", "pictureAt", "(II)I"⟩, 7) := ⟨⟨by decide +kernel, by decide +kernel⟩, List.mem_of_getElem? (i := 12) (by decide +kernel), List.mem_of_getElem? (i := 479) (by decide +kernel), List.mem_of_getElem? (i := 480) (by decide +kernel)⟩
theorem lw_p14 : lw_okq (⟨"DamageViewModel", "look", "()V"⟩, 29) := ⟨⟨by decide +kernel, by decide +kernel⟩, List.mem_of_getElem? (i := 498) (by decide +kernel), List.mem_of_getElem? (i := 504) (by decide +kernel), List.mem_of_getElem? (i := 505) (by decide +kernel)⟩
theorem lw_p15 : lw_okq (⟨"DamageViewModel", "can", "(I)Z"⟩, 29) := ⟨⟨by decide +kernel, by decide +kernel⟩, List.mem_of_getElem? (i := 498) (by decide +kernel), List.mem_of_getElem? (i := 508) (by decide +kernel), List.mem_of_getElem? (i := 509) (by decide +kernel)⟩
def lw_privs_1 : List (MethodName × Nat) := [(⟨"DamageView", "addBox", "(ILDamageView$Box;)I"⟩, 7), (⟨"DamageView", "showChanges", "()V"⟩, 7), (⟨"DamageView", "showBox", "(LDamageView$Box;)V"⟩, 7), (⟨"DamageView", "colourOf", "(LDamageView$Box;)I"⟩, 7), (⟨"DamageView", "isBox", "(I)Z"⟩, 7), (⟨"DamageView$Layout", "solve", "()Z"⟩, 6), (⟨"DamageView$Layout", "demandAll", "()V"⟩, 6), (⟨"DamageView$Layout", "chooseBest", "()V"⟩, 6), (⟨"DamageView", "isInnerBox", "(I)Z"⟩, 7), (⟨"DamageView", "isLastOfItsParent", "(LDamageView$Box;)Z"⟩, 7), (⟨"DamageView", "bringToFront", "(LDamageView$Box;)V"⟩, 7), (⟨"DamageView", "frontBox", "(II)LDamageView$Box;"⟩, 7), (⟨"DamageView", "frontChild", "(LDamageView$Box;II)LDamageView$Box;"⟩, 7), (⟨"DamageView", "pictureAt", "(II)I"⟩, 7), (⟨"DamageViewModel", "look", "()V"⟩, 29), (⟨"DamageViewModel", "can", "(I)Z"⟩, 29)]
theorem lw_r1 : ∀ q ∈ lw_privs_1, lw_okq q := List.forall_mem_cons.mpr ⟨lw_p0, List.forall_mem_cons.mpr ⟨lw_p1, List.forall_mem_cons.mpr ⟨lw_p2, List.forall_mem_cons.mpr ⟨lw_p3, List.forall_mem_cons.mpr ⟨lw_p4, List.forall_mem_cons.mpr ⟨lw_p5, List.forall_mem_cons.mpr ⟨lw_p6, List.forall_mem_cons.mpr ⟨lw_p7, List.forall_mem_cons.mpr ⟨lw_p8, List.forall_mem_cons.mpr ⟨lw_p9, List.forall_mem_cons.mpr ⟨lw_p10, List.forall_mem_cons.mpr ⟨lw_p11, List.forall_mem_cons.mpr ⟨lw_p12, List.forall_mem_cons.mpr ⟨lw_p13, List.forall_mem_cons.mpr ⟨lw_p14, List.forall_mem_cons.mpr ⟨lw_p15, fun _ h => absurd h List.not_mem_nil⟩⟩⟩⟩⟩⟩⟩⟩⟩⟩⟩⟩⟩⟩⟩⟩
theorem lw_p16 : lw_okq (⟨"DamageViewModel", "someArea", "(I)Z"⟩, 29) := ⟨⟨by decide +kernel, by decide +kernel⟩, List.mem_of_getElem? (i := 498) (by decide +kernel), List.mem_of_getElem? (i := 512) (by decide +kernel), List.mem_of_getElem? (i := 513) (by decide +kernel)⟩
theorem lw_p17 : lw_okq (⟨"DamageViewModel", "inArea", "(III)Z"⟩, 29) := ⟨⟨by decide +kernel, by decide +kernel⟩, List.mem_of_getElem? (i := 498) (by decide +kernel), List.mem_of_getElem? (i := 516) (by decide +kernel), List.mem_of_getElem? (i := 517) (by decide +kernel)⟩
theorem lw_p18 : lw_okq (⟨"DamageViewModel", "covers", "(III)Z"⟩, 29) := ⟨⟨by decide +kernel, by decide +kernel⟩, List.mem_of_getElem? (i := 498) (by decide +kernel), List.mem_of_getElem? (i := 520) (by decide +kernel), List.mem_of_getElem? (i := 521) (by decide +kernel)⟩
theorem lw_p19 : lw_okq (⟨"DamageViewModel", "colour", "(I)I"⟩, 29) := ⟨⟨by decide +kernel, by decide +kernel⟩, List.mem_of_getElem? (i := 498) (by decide +kernel), List.mem_of_getElem? (i := 524) (by decide +kernel), List.mem_of_getElem? (i := 525) (by decide +kernel)⟩
theorem lw_p20 : lw_okq (⟨"DamageViewModel", "isBox", "(I)Z"⟩, 29) := ⟨⟨by decide +kernel, by decide +kernel⟩, List.mem_of_getElem? (i := 498) (by decide +kernel), List.mem_of_getElem? (i := 620) (by decide +kernel), List.mem_of_getElem? (i := 621) (by decide +kernel)⟩
theorem lw_p21 : lw_okq (⟨"DamageViewModel", "isEdge", "(I)Z"⟩, 29) := ⟨⟨by decide +kernel, by decide +kernel⟩, List.mem_of_getElem? (i := 498) (by decide +kernel), List.mem_of_getElem? (i := 628) (by decide +kernel), List.mem_of_getElem? (i := 629) (by decide +kernel)⟩
theorem lw_p22 : lw_okq (⟨"DamageViewModel", "solve", "(II)Z"⟩, 29) := ⟨⟨by decide +kernel, by decide +kernel⟩, List.mem_of_getElem? (i := 498) (by decide +kernel), List.mem_of_getElem? (i := 635) (by decide +kernel), List.mem_of_getElem? (i := 636) (by decide +kernel)⟩
theorem lw_p23 : lw_okq (⟨"DamageViewModel", "required", "()V"⟩, 29) := ⟨⟨by decide +kernel, by decide +kernel⟩, List.mem_of_getElem? (i := 498) (by decide +kernel), List.mem_of_getElem? (i := 639) (by decide +kernel), List.mem_of_getElem? (i := 640) (by decide +kernel)⟩
theorem lw_p24 : lw_okq (⟨"DamageViewModel", "exactly", "(III)V"⟩, 29) := ⟨⟨by decide +kernel, by decide +kernel⟩, List.mem_of_getElem? (i := 498) (by decide +kernel), List.mem_of_getElem? (i := 643) (by decide +kernel), List.mem_of_getElem? (i := 644) (by decide +kernel)⟩
theorem lw_p25 : lw_okq (⟨"DamageViewModel", "atLeast", "(III)V"⟩, 29) := ⟨⟨by decide +kernel, by decide +kernel⟩, List.mem_of_getElem? (i := 498) (by decide +kernel), List.mem_of_getElem? (i := 647) (by decide +kernel), List.mem_of_getElem? (i := 648) (by decide +kernel)⟩
theorem lw_p26 : lw_okq (⟨"DamageViewModel", "row", "(III)V"⟩, 29) := ⟨⟨by decide +kernel, by decide +kernel⟩, List.mem_of_getElem? (i := 498) (by decide +kernel), List.mem_of_getElem? (i := 651) (by decide +kernel), List.mem_of_getElem? (i := 652) (by decide +kernel)⟩
theorem lw_p27 : lw_okq (⟨"DamageViewModel", "conflict", "()Z"⟩, 29) := ⟨⟨by decide +kernel, by decide +kernel⟩, List.mem_of_getElem? (i := 498) (by decide +kernel), List.mem_of_getElem? (i := 655) (by decide +kernel), List.mem_of_getElem? (i := 656) (by decide +kernel)⟩
theorem lw_p28 : lw_okq (⟨"DamageViewModel", "lower", "()Z"⟩, 29) := ⟨⟨by decide +kernel, by decide +kernel⟩, List.mem_of_getElem? (i := 498) (by decide +kernel), List.mem_of_getElem? (i := 659) (by decide +kernel), List.mem_of_getElem? (i := 660) (by decide +kernel)⟩
theorem lw_p29 : lw_okq (⟨"DamageViewModel", "settle", "(III)I"⟩, 29) := ⟨⟨by decide +kernel, by decide +kernel⟩, List.mem_of_getElem? (i := 498) (by decide +kernel), List.mem_of_getElem? (i := 664) (by decide +kernel), List.mem_of_getElem? (i := 665) (by decide +kernel)⟩
theorem lw_p30 : lw_okq (⟨"DamageViewModel", "most", "(II)I"⟩, 29) := ⟨⟨by decide +kernel, by decide +kernel⟩, List.mem_of_getElem? (i := 498) (by decide +kernel), List.mem_of_getElem? (i := 668) (by decide +kernel), List.mem_of_getElem? (i := 669) (by decide +kernel)⟩
theorem lw_p31 : lw_okq (⟨"DamageViewModel", "soft", "(I)V"⟩, 29) := ⟨⟨by decide +kernel, by decide +kernel⟩, List.mem_of_getElem? (i := 498) (by decide +kernel), List.mem_of_getElem? (i := 672) (by decide +kernel), List.mem_of_getElem? (i := 673) (by decide +kernel)⟩
def lw_privs_2 : List (MethodName × Nat) := [(⟨"DamageViewModel", "someArea", "(I)Z"⟩, 29), (⟨"DamageViewModel", "inArea", "(III)Z"⟩, 29), (⟨"DamageViewModel", "covers", "(III)Z"⟩, 29), (⟨"DamageViewModel", "colour", "(I)I"⟩, 29), (⟨"DamageViewModel", "isBox", "(I)Z"⟩, 29), (⟨"DamageViewModel", "isEdge", "(I)Z"⟩, 29), (⟨"DamageViewModel", "solve", "(II)Z"⟩, 29), (⟨"DamageViewModel", "required", "()V"⟩, 29), (⟨"DamageViewModel", "exactly", "(III)V"⟩, 29), (⟨"DamageViewModel", "atLeast", "(III)V"⟩, 29), (⟨"DamageViewModel", "row", "(III)V"⟩, 29), (⟨"DamageViewModel", "conflict", "()Z"⟩, 29), (⟨"DamageViewModel", "lower", "()Z"⟩, 29), (⟨"DamageViewModel", "settle", "(III)I"⟩, 29), (⟨"DamageViewModel", "most", "(II)I"⟩, 29), (⟨"DamageViewModel", "soft", "(I)V"⟩, 29)]
theorem lw_r2 : ∀ q ∈ lw_privs_2, lw_okq q := List.forall_mem_cons.mpr ⟨lw_p16, List.forall_mem_cons.mpr ⟨lw_p17, List.forall_mem_cons.mpr ⟨lw_p18, List.forall_mem_cons.mpr ⟨lw_p19, List.forall_mem_cons.mpr ⟨lw_p20, List.forall_mem_cons.mpr ⟨lw_p21, List.forall_mem_cons.mpr ⟨lw_p22, List.forall_mem_cons.mpr ⟨lw_p23, List.forall_mem_cons.mpr ⟨lw_p24, List.forall_mem_cons.mpr ⟨lw_p25, List.forall_mem_cons.mpr ⟨lw_p26, List.forall_mem_cons.mpr ⟨lw_p27, List.forall_mem_cons.mpr ⟨lw_p28, List.forall_mem_cons.mpr ⟨lw_p29, List.forall_mem_cons.mpr ⟨lw_p30, List.forall_mem_cons.mpr ⟨lw_p31, fun _ h => absurd h List.not_mem_nil⟩⟩⟩⟩⟩⟩⟩⟩⟩⟩⟩⟩⟩⟩⟩⟩
theorem lw_p32 : lw_okq (⟨"DamageViewModel", "isConstraint", "(I)Z"⟩, 29) := ⟨⟨by decide +kernel, by decide +kernel⟩, List.mem_of_getElem? (i := 498) (by decide +kernel), List.mem_of_getElem? (i := 680) (by decide +kernel), List.mem_of_getElem? (i := 681) (by decide +kernel)⟩
theorem lw_p33 : lw_okq (⟨"DamageViewModel", "isLast", "(I)Z"⟩, 29) := ⟨⟨by decide +kernel, by decide +kernel⟩, List.mem_of_getElem? (i := 498) (by decide +kernel), List.mem_of_getElem? (i := 708) (by decide +kernel), List.mem_of_getElem? (i := 709) (by decide +kernel)⟩
theorem lw_p34 : lw_okq (⟨"DamageViewModel", "inFront", "(II)Z"⟩, 29) := ⟨⟨by decide +kernel, by decide +kernel⟩, List.mem_of_getElem? (i := 498) (by decide +kernel), List.mem_of_getElem? (i := 716) (by decide +kernel), List.mem_of_getElem? (i := 717) (by decide +kernel)⟩
theorem lw_p35 : lw_okq (⟨"DamageViewModel", "activate", "(I)V"⟩, 29) := ⟨⟨by decide +kernel, by decide +kernel⟩, List.mem_of_getElem? (i := 498) (by decide +kernel), List.mem_of_getElem? (i := 729) (by decide +kernel), List.mem_of_getElem? (i := 730) (by decide +kernel)⟩
def lw_privs_3 : List (MethodName × Nat) := [(⟨"DamageViewModel", "isConstraint", "(I)Z"⟩, 29), (⟨"DamageViewModel", "isLast", "(I)Z"⟩, 29), (⟨"DamageViewModel", "inFront", "(II)Z"⟩, 29), (⟨"DamageViewModel", "activate", "(I)V"⟩, 29)]
theorem lw_r3 : ∀ q ∈ lw_privs_3, lw_okq q := List.forall_mem_cons.mpr ⟨lw_p32, List.forall_mem_cons.mpr ⟨lw_p33, List.forall_mem_cons.mpr ⟨lw_p34, List.forall_mem_cons.mpr ⟨lw_p35, fun _ h => absurd h List.not_mem_nil⟩⟩⟩⟩
def lw_privs : List (MethodName × Nat) := lw_privs_1 ++ (lw_privs_2 ++ (lw_privs_3))
def lw_tbl : List Cond := k2_sels lw_privs ++ tables_1
theorem lw_privs_ok : ∀ q ∈ lw_privs, lw_okq q := by
  show ∀ q ∈ lw_privs_1 ++ (lw_privs_2 ++ (lw_privs_3)), lw_okq q
  exact List.forall_mem_append.mpr ⟨lw_r1, List.forall_mem_append.mpr ⟨lw_r2, lw_r3⟩⟩
def TbDV : u_T := fun k => match k with
  | 0 => ("DamageView", "layout", "LDamageView$Layout;", true)
  | 1 => ("DamageView", "screen", "LDamageView$Screen;", true)
  | 2 => ("DamageView", "boxes", "[LDamageView$Box;", true)
  | 3 => ("DamageView", "order", "[LDamageView$Box;", true)
  | 4 => ("DamageView", "boxCount", "I", false)
  | 5 => ("DamageView", "focus", "LDamageView$Box;", false)
  | _ => ("DamageView", "pressed", "LDamageView$Box;", false)
def tyDV : Nat → FieldType := fun k => match k with
  | 0 => .object "DamageView$Layout"
  | 1 => .object "DamageView$Screen"
  | 2 => .array (.object "DamageView$Box")
  | 3 => .array (.object "DamageView$Box")
  | 4 => .int
  | 5 => .object "DamageView$Box"
  | _ => .object "DamageView$Box"
def TbSC : u_T := fun k => match k with
  | 0 => ("DamageView$Screen", "frame", "[I", true)
  | _ => ("DamageView$Screen", "damaged", "[Z", true)
def tySC : Nat → FieldType := fun k => match k with
  | 0 => .array .int
  | _ => .array .boolean
def TbLA : u_T := fun k => match k with
  | 0 => ("DamageView$Layout", "places", "[I", true)
  | 1 => ("DamageView$Layout", "edgeCount", "I", false)
  | 2 => ("DamageView$Layout", "constraints", "[LDamageView$Constraint;", true)
  | 3 => ("DamageView$Layout", "bounds", "LDamageView$Bounds;", true)
  | 4 => ("DamageView$Layout", "width", "I", false)
  | _ => ("DamageView$Layout", "height", "I", false)
def tyLA : Nat → FieldType := fun k => match k with
  | 0 => .array .int
  | 1 => .int
  | 2 => .array (.object "DamageView$Constraint")
  | 3 => .object "DamageView$Bounds"
  | 4 => .int
  | _ => .int
def TbBD : u_T := fun k => match k with
  | 0 => ("DamageView$Bounds", "rise", "[[I", true)
  | 1 => ("DamageView$Bounds", "edgeCount", "I", false)
  | _ => ("DamageView$Bounds", "conflict", "Z", false)
def tyBD : Nat → FieldType := fun k => match k with
  | 0 => .array (.array .int)
  | 1 => .int
  | _ => .boolean
def TbBX : u_T := fun k => match k with
  | 0 => ("DamageView$Box", "number", "I", true)
  | 1 => ("DamageView$Box", "kind", "I", true)
  | 2 => ("DamageView$Box", "parent", "LDamageView$Box;", true)
  | 3 => ("DamageView$Box", "area", "LDamageView$Area;", true)
  | 4 => ("DamageView$Box", "areaBefore", "LDamageView$Area;", true)
  | 5 => ("DamageView$Box", "colour", "I", false)
  | 6 => ("DamageView$Box", "activations", "I", false)
  | 7 => ("DamageView$Box", "hidden", "Z", false)
  | _ => ("DamageView$Box", "on", "Z", false)
def tyBX : Nat → FieldType := fun k => match k with
  | 0 => .int
  | 1 => .int
  | 2 => .object "DamageView$Box"
  | 3 => .object "DamageView$Area"
  | 4 => .object "DamageView$Area"
  | 5 => .int
  | 6 => .int
  | 7 => .boolean
  | _ => .boolean
def TbAR : u_T := fun k => match k with
  | 0 => ("DamageView$Area", "left", "I", false)
  | 1 => ("DamageView$Area", "right", "I", false)
  | 2 => ("DamageView$Area", "top", "I", false)
  | _ => ("DamageView$Area", "bottom", "I", false)
def tyAR : Nat → FieldType := fun k => match k with
  | 0 => .int
  | 1 => .int
  | 2 => .int
  | _ => .int
def TbCN : u_T := fun k => match k with
  | 0 => ("DamageView$Constraint", "strength", "I", true)
  | 1 => ("DamageView$Constraint", "p", "I", true)
  | 2 => ("DamageView$Constraint", "q", "I", true)
  | 3 => ("DamageView$Constraint", "c", "I", true)
  | _ => ("DamageView$Constraint", "form", "I", true)
def tyCN : Nat → FieldType := fun k => match k with
  | 0 => .int
  | 1 => .int
  | 2 => .int
  | 3 => .int
  | _ => .int
def TbMO : u_T := fun k => match k with
  | 0 => ("DamageViewModel", "boxes", "I", false)
  | 1 => ("DamageViewModel", "kind", "[I", true)
  | 2 => ("DamageViewModel", "parent", "[I", true)
  | 3 => ("DamageViewModel", "hidden", "[Z", true)
  | 4 => ("DamageViewModel", "lit", "[Z", true)
  | 5 => ("DamageViewModel", "counts", "[I", true)
  | 6 => ("DamageViewModel", "rank", "[I", true)
  | 7 => ("DamageViewModel", "ranks", "I", false)
  | 8 => ("DamageViewModel", "width", "I", false)
  | 9 => ("DamageViewModel", "height", "I", false)
  | 10 => ("DamageViewModel", "places", "[I", true)
  | 11 => ("DamageViewModel", "found", "[I", true)
  | 12 => ("DamageViewModel", "used", "[Z", true)
  | 13 => ("DamageViewModel", "first", "[I", true)
  | 14 => ("DamageViewModel", "second", "[I", true)
  | 15 => ("DamageViewModel", "apart", "[I", true)
  | 16 => ("DamageViewModel", "form", "[I", true)
  | 17 => ("DamageViewModel", "strength", "[I", true)
  | 18 => ("DamageViewModel", "rows", "I", false)
  | 19 => ("DamageViewModel", "tail", "[I", true)
  | 20 => ("DamageViewModel", "head", "[I", true)
  | 21 => ("DamageViewModel", "weight", "[I", true)
  | 22 => ("DamageViewModel", "reach", "[I", true)
  | 23 => ("DamageViewModel", "focus", "I", false)
  | 24 => ("DamageViewModel", "pressed", "I", false)
  | 25 => ("DamageViewModel", "area", "[Z", true)
  | 26 => ("DamageViewModel", "colours", "[I", true)
  | 27 => ("DamageViewModel", "damaged", "[Z", true)
  | _ => ("DamageViewModel", "frame", "[I", true)
def tyMO : Nat → FieldType := fun k => match k with
  | 0 => .int
  | 1 => .array .int
  | 2 => .array .int
  | 3 => .array .boolean
  | 4 => .array .boolean
  | 5 => .array .int
  | 6 => .array .int
  | 7 => .int
  | 8 => .int
  | 9 => .int
  | 10 => .array .int
  | 11 => .array .int
  | 12 => .array .boolean
  | 13 => .array .int
  | 14 => .array .int
  | 15 => .array .int
  | 16 => .array .int
  | 17 => .array .int
  | 18 => .int
  | 19 => .array .int
  | 20 => .array .int
  | 21 => .array .int
  | 22 => .array .int
  | 23 => .int
  | 24 => .int
  | 25 => .array .boolean
  | 26 => .array .int
  | 27 => .array .boolean
  | _ => .array .int
def vwCl : List vw_C := [("DamageView", TbDV, 7), ("DamageView$Screen", TbSC, 2), ("DamageView$Layout", TbLA, 6), ("DamageView$Bounds", TbBD, 3), ("DamageView$Box", TbBX, 9), ("DamageView$Area", TbAR, 4), ("DamageView$Constraint", TbCN, 5), ("DamageViewModel", TbMO, 29)]
def gNest : List Cond := [.methodLinkNest "DamageView" 11 ⟨"DamageView$Screen", "<init>", "()V"⟩ "DamageView", .methodLinkNest "DamageView$Layout" 23 ⟨"DamageView$Bounds", "<init>", "()V"⟩ "DamageView", .methodLinkNest "DamageView$Box" 11 ⟨"DamageView$Area", "<init>", "()V"⟩ "DamageView", .methodLinkNest "DamageView$Bounds" 47 ⟨"DamageView", "nearest", "(III)I"⟩ "DamageView"]
theorem gNest_warm {s U : State} (hW : s.WarmedH U.vm) (h : ∀ w ∈ gNest, va_Nw w s) : ∀ w ∈ gNest, va_Nw w U := by
  intro w hw
  have h0 := h w hw
  simp only [gNest, List.mem_cons, List.not_mem_nil, or_false] at hw
  rcases hw with rfl | rfl | rfl | rfl
  all_goals exact va_Nw.warmM hW h0
theorem gNest_same {w : Cond} (hw : w ∈ gNest) {u U : State} (h : u.vm = U.vm) (hZ : va_Nw w u) : va_Nw w U := by
  simp only [gNest, List.mem_cons, List.not_mem_nil, or_false] at hw
  rcases hw with rfl | rfl | rfl | rfl
  all_goals exact va_Nw.same rfl h hZ
end
section
abbrev gT : Type := (Nat → Nat) × (Nat → Nat) × Nat
abbrev gI : Type := Nat → Nat → Int32
abbrev gR : Type := Nat → Nat → Option Nat
abbrev gE : Type := Launch × va_G × (Nat → ClassId) × Nat × Nat × (Nat → Int32) × Nat
abbrev gX : Type := MethodName × ByteArray × Nat × Option FieldType × Room
abbrev gQ : Type := gT → gI → gR → Option Value → Prop
def gbase (E : gE) : Nat := E.2.2.2.2.2.2
def gFR (d : String) : Bool := match parseFieldDescriptor d with
  | some ty => ty.isReference
  | none => false
def gfv (Tb : u_T) (k : Nat) (fi : Nat → Int32) (fr : Nat → Option Nat) : Value := if gFR (Tb k).2.2.1 = true then va_rf (fr k) else .int (fi k)
def gAT (q : Nat) : FieldType := match q with
  | 0 => .int
  | 1 => .boolean
  | 2 => .object "DamageView$Box"
  | 3 => .object "DamageView$Constraint"
  | _ => .array .int
def gav (q : Nat) (fi : Nat → Int32) (fr : Nat → Option Nat) (j : Nat) : Value := if q < 2 then .int (fi j) else va_rf (fr j)
def gAt (E : gE) (t n : Nat) (fi : Nat → Int32) (fr : Nat → Option Nat) (cell : Cell) : Prop :=
  (∀ (ci : Nat) (r : vw_C), t = ci + 1 → vwCl[ci]? = some r → cell.cls = E.2.1.1 ci ∧ cell.vm = .none ∧ ∀ k, k < r.2.2 → cell.slots[E.2.1.2 ci k]? = some (gfv r.2.1 k fi fr)) ∧
  ∀ q : Nat, t = 100 + q → cell = arrV (E.2.2.1 q) n (gav q fi fr)
def gMem (E : gE) (T : gT) (gi : gI) (gr : gR) (H : Heap) : Prop :=
  H.size = T.2.2 ∧ gbase E ≤ T.2.2 ∧ ∀ a, T.1 a ≠ 0 → gbase E ≤ a ∧ ∃ cell, H[a]? = some cell ∧ gAt E (T.1 a) (T.2.1 a) (gi a) (gr a) cell
def gW (E : gE) (T : gT) (gi : gI) (gr : gR) (U : State) (H : Heap) : Prop := gMem E T gi gr H ∧ va_X E.2.2.2.1 E.2.2.2.2.1 E.2.2.2.2.2.1 U H ∧ E.2.2.2.1 < gbase E
def gTys (E : gE) : List (ClassId × FieldType) := [(E.2.2.1 0, gAT 0), (E.2.2.1 1, gAT 1), (E.2.2.1 2, gAT 2), (E.2.2.1 3, gAT 3), (E.2.2.1 4, gAT 4)]
def gK (E : gE) (U : State) : Prop := va_K E.2.1 vwCl (gTys E) U ∧ (∀ w ∈ gNest, va_Nw w U) ∧ va_AO "DamageView$Box" U ∧ va_AO "DamageView$Constraint" U ∧ (Cond.arrayOver (.array .int)).before #[] U = true
def gGood (w : Cond) : Bool := (w.onTables && w.keeps) || (match w with
  | .arrayClass _ => true
  | _ => false)
def gTbl : List Cond := lw_tbl.filter gGood
theorem gGood_or {w : Cond} (h : gGood w = true) : (w.onTables && w.keeps) = true ∨ ∃ ty, w = .arrayClass ty := by
  unfold gGood at h
  rcases Bool.or_eq_true _ _ ▸ h with h | h
  · exact Or.inl h
  · cases w <;> first | exact Or.inr ⟨_, rfl⟩ | cases h
theorem gTbl_in {i : Nat} {w : Cond} (h : lw_tbl[i]? = some w) (hg : gGood w = true) : w ∈ gTbl := List.mem_filter.mpr ⟨List.mem_of_getElem? h, hg⟩
def gws (X : gX) : List Cond := .code X.1 X.2.1 X.2.2.1 X.2.2.2.1 :: gTbl
def gCx (E : gE) (X : gX) (p : Program) (s : State) (m : MethodId) (args : Array Value) (meth : Method) (c : Code) : Prop :=
  p.tables.exec = Jvm.exec ∧ c.code = X.2.1 ∧ c.maxLocals = X.2.2.1 ∧ meth.sig.returnType = X.2.2.2.1 ∧ meth.locks = false ∧ s.vm.findClass X.1.cls = some m.cls ∧ (∀ w ∈ gTbl, w.before args s = true) ∧ meth.name = X.1.name ∧ gK E s
def gRt (X : gX) (pc : Nat) (v : Option Value) : Prop := match v with
  | none => decode X.2.1 pc = .ok (.return_, 1) ∧ X.2.2.2.1 = none
  | some (.int x) => decode X.2.1 pc = .ok (.ireturn, 1) ∧ ∃ ty, X.2.2.2.1 = some ty ∧ narrow ty (.int x) = .int x
  | some v => decode X.2.1 pc = .ok (.areturn, 1) ∧ (v = .null ∨ ∃ a, v = .ref a) ∧ ∃ n, X.2.2.2.1 = some (.object n)
def gl (ls : List Value) : List (Nat × Value) := (List.range ls.length).filterMap fun j => (ls[j]?).bind fun v => if v.category = 1 then some (j, v) else none
theorem gl_mem {ls : List Value} {j : Nat} {v : Value} : (j, v) ∈ gl ls ↔ ls[j]? = some v ∧ v.category = 1 := by
  unfold gl
  rw [List.mem_filterMap]
  constructor
  · rintro ⟨i, -, h⟩
    cases hv : ls[i]? with
    | none => rw [hv] at h; cases h
    | some w =>
      rw [hv] at h
      simp only [Option.bind_some] at h
      split at h
      · rename_i hc
        cases h
        exact ⟨hv, hc⟩
      · cases h
  · rintro ⟨h, hc⟩
    refine ⟨j, List.mem_range.mpr (List.getElem?_eq_some_iff.mp h).1, ?_⟩
    rw [h]
    simp [hc]
def gL (ls : List Value) (nL : Nat) (lsA : Array Slot) : Prop := lv_has lsA nL (gl ls)
theorem gL_at {ls : List Value} {nL : Nat} {lsA : Array Slot} (h : gL ls nL lsA) {i : Nat} {v : Value} (hv : ls[i]? = some v) (hc : v.category = 1) : lsA[i]? = some (.val v) := h.2.2 (i, v) (gl_mem.mpr ⟨hv, hc⟩)
theorem gL_of {ls : List Value} {nL : Nat} {lsA : Array Slot} {l : List (Nat × Value)} (h : lv_has lsA nL l) (hs : ∀ q ∈ gl ls, q ∈ l) : gL ls nL lsA := ⟨h.1, h.2.1, fun q hq => h.2.2 q (hs q hq)⟩
theorem gL_set {ls : List Value} {nL : Nat} {lsA : Array Slot} {i : Nat} {v : Value} (h : lv_has lsA nL ((i, v) :: (gl ls).filter (fun q => !(q.1 == i) && !(q.1 + 1 == i && q.2.category == 2)))) : gL (ls.set i v) nL lsA := by
  refine gL_of h fun q hq => ?_
  obtain ⟨j, w⟩ := q
  obtain ⟨h1, h2⟩ := gl_mem.mp hq
  by_cases hj : i = j
  · subst hj
    rw [List.getElem?_set_self' ] at h1
    cases hx : ls[i]? with
    | none => rw [hx] at h1; cases h1
    | some y =>
      rw [hx] at h1
      cases h1
      exact List.mem_cons_self
  · rw [List.getElem?_set_ne hj] at h1
    refine List.mem_cons_of_mem _ (List.mem_filter.mpr ⟨gl_mem.mpr ⟨h1, h2⟩, ?_⟩)
    simp only [h2]
    have : ¬ j = i := fun z => hj z.symm
    simp [this]
def gD (X : gX) (pc : Nat) (i : Instr) (len pc' : Nat) : Prop := decode X.2.1 pc = .ok (i, len) ∧ pc + len = pc'
def gB (X : gX) (pc : Nat) (i : Instr) (off : Int) (tgt pc' : Nat) : Prop := decode X.2.1 pc = .ok (i, 3) ∧ (pc : Int) + off = (tgt : Int) ∧ pc + 3 = pc'
def G (E : gE) (X : gX) (pc : Nat) (ls st : List Value) (T : gT) (gi : gI) (gr : gR) (k n : Nat) (Q : gQ) : Prop :=
  ∀ (p : Program) (e : Env) (s : State) (m : MethodId) (args : Array Value) (below : List Frame) (meth : Method) (c : Code) (Z : State → Prop),
    gCx E X p s m args meth c →
    (∀ (T' : gT) (gi' : gI) (gr' : gR) (v : Option Value) (H' : Heap) (locs' : List Loc) (lsA : Array Slot) (pc' : Nat), Q T' gi' gr' v → gW E T' gi' gr' s H' → (∀ q ∈ locs', gbase E ≤ q.base) → gRt X pc' v → W p E.1 e X.2.2.2.2 s m args below meth c H' locs' X.2.2.2.2.cells X.2.2.2.2.slots Z (F0 m pc' lsA v.toList)) →
    ∀ (H : Heap) (locs : List Loc) (lsA : Array Slot), gL ls X.2.2.1 lsA → gW E T gi gr s H → (∀ q ∈ locs, gbase E ≤ q.base) → W p E.1 e X.2.2.2.2 s m args below meth c H locs k n Z (F0 m pc lsA st)
section GR
variable {E : gE} {X : gX} {pc pc' : Nat} {ls st : List Value} {T : gT} {gi : gI} {gr : gR} {k n : Nat} {Q : gQ}
theorem G_iconst {z : Int} {v : Int32} (hd : gD X pc (.iconst z) 1 pc') (hv : Int32.ofInt z = v) (kk : G E X pc' ls (.int v :: st) T gi gr k n Q) : G E X pc ls (st) T gi gr k n Q := by
  obtain ⟨hd, rfl⟩ := hd
  intro p e s m args below meth c Z hc hr H locs lsA hl hw hf
  exact lv_iconst hc.1 hc.2.1 hd hv (kk p e s m args below meth c Z hc hr H locs lsA hl hw hf)
theorem G_bipush {z : Int} {v : Int32} (hd : gD X pc (.bipush z) 2 pc') (hv : (Int8.ofInt z).toInt32 = v) (kk : G E X pc' ls (.int v :: st) T gi gr k n Q) : G E X pc ls (st) T gi gr k n Q := by
  obtain ⟨hd, rfl⟩ := hd
  intro p e s m args below meth c Z hc hr H locs lsA hl hw hf
  exact lv_bipush hc.1 hc.2.1 hd hv (kk p e s m args below meth c Z hc hr H locs lsA hl hw hf)
theorem G_sipush {z : Int} {v : Int32} (hd : gD X pc (.sipush z) 3 pc') (hv : (Int16.ofInt z).toInt32 = v) (kk : G E X pc' ls (.int v :: st) T gi gr k n Q) : G E X pc ls (st) T gi gr k n Q := by
  obtain ⟨hd, rfl⟩ := hd
  intro p e s m args below meth c Z hc hr H locs lsA hl hw hf
  exact lv_sipush hc.1 hc.2.1 hd hv (kk p e s m args below meth c Z hc hr H locs lsA hl hw hf)
theorem G_ldc {i : Nat} {v : Int32} (hd : gD X pc (.ldc i) 2 pc') (hv : Cond.constant X.1.cls i v ∈ gTbl) (kk : G E X pc' ls (.int v :: st) T gi gr k n Q) : G E X pc ls (st) T gi gr k n Q := by
  obtain ⟨hd, rfl⟩ := hd
  intro p e s m args below meth c Z hc hr H locs lsA hl hw hf
  exact lv_ldc hc.1 hc.2.1 hc.2.2.2.2.2.1 (hc.2.2.2.2.2.2.1 _ hv) hd (kk p e s m args below meth c Z hc hr H locs lsA hl hw hf)
theorem G_iload_n {i : Fin 4} {x : Int32} (hd : gD X pc (.iload_n i) 1 pc') (hv : ls[(i : Nat)]? = some (.int x)) (kk : G E X pc' ls (.int x :: st) T gi gr k n Q) : G E X pc ls (st) T gi gr k n Q := by
  obtain ⟨hd, rfl⟩ := hd
  intro p e s m args below meth c Z hc hr H locs lsA hl hw hf
  exact lv_iload_n hc.1 hc.2.1 hd rfl (gL_at hl hv rfl) (kk p e s m args below meth c Z hc hr H locs lsA hl hw hf)
theorem G_iload {i : Nat} {x : Int32} (hd : gD X pc (.iload i) 2 pc') (hv : ls[i]? = some (.int x)) (kk : G E X pc' ls (.int x :: st) T gi gr k n Q) : G E X pc ls (st) T gi gr k n Q := by
  obtain ⟨hd, rfl⟩ := hd
  intro p e s m args below meth c Z hc hr H locs lsA hl hw hf
  exact lv_iload hc.1 hc.2.1 hd (gL_at hl hv rfl) (kk p e s m args below meth c Z hc hr H locs lsA hl hw hf)
theorem G_aload_n {i : Fin 4} {a : Nat} (hd : gD X pc (.aload_n i) 1 pc') (hv : ls[(i : Nat)]? = some (.ref a)) (kk : G E X pc' ls (.ref a :: st) T gi gr k n Q) : G E X pc ls (st) T gi gr k n Q := by
  obtain ⟨hd, rfl⟩ := hd
  intro p e s m args below meth c Z hc hr H locs lsA hl hw hf
  exact lv_aload_n hc.1 hc.2.1 hd rfl (gL_at hl hv rfl) (kk p e s m args below meth c Z hc hr H locs lsA hl hw hf)
theorem G_aload_nN {i : Fin 4} (hd : gD X pc (.aload_n i) 1 pc') (hv : ls[(i : Nat)]? = some .null) (kk : G E X pc' ls (.null :: st) T gi gr k n Q) : G E X pc ls (st) T gi gr k n Q := by
  obtain ⟨hd, rfl⟩ := hd
  intro p e s m args below meth c Z hc hr H locs lsA hl hw hf
  exact lv_aload_nN hc.1 hc.2.1 hd rfl (gL_at hl hv rfl) (kk p e s m args below meth c Z hc hr H locs lsA hl hw hf)
theorem G_aload_nq {i : Fin 4} {r : Option Nat} (hd : gD X pc (.aload_n i) 1 pc') (hv : ls[(i : Nat)]? = some (va_rf r)) (kk : G E X pc' ls (va_rf r :: st) T gi gr k n Q) : G E X pc ls st T gi gr k n Q := by
  cases r with
  | none => exact G_aload_nN hd hv kk
  | some a => exact G_aload_n hd hv kk
theorem G_aload {i : Nat} {a : Nat} (hd : gD X pc (.aload i) 2 pc') (hv : ls[i]? = some (.ref a)) (kk : G E X pc' ls (.ref a :: st) T gi gr k n Q) : G E X pc ls (st) T gi gr k n Q := by
  obtain ⟨hd, rfl⟩ := hd
  intro p e s m args below meth c Z hc hr H locs lsA hl hw hf
  exact lv_aload hc.1 hc.2.1 hd (gL_at hl hv rfl) (kk p e s m args below meth c Z hc hr H locs lsA hl hw hf)
theorem G_aloadN {i : Nat} (hd : gD X pc (.aload i) 2 pc') (hv : ls[i]? = some .null) (kk : G E X pc' ls (.null :: st) T gi gr k n Q) : G E X pc ls (st) T gi gr k n Q := by
  obtain ⟨hd, rfl⟩ := hd
  intro p e s m args below meth c Z hc hr H locs lsA hl hw hf
  exact lv_aloadN hc.1 hc.2.1 hd (gL_at hl hv rfl) (kk p e s m args below meth c Z hc hr H locs lsA hl hw hf)
theorem G_aloadq {i : Nat} {r : Option Nat} (hd : gD X pc (.aload i) 2 pc') (hv : ls[i]? = some (va_rf r)) (kk : G E X pc' ls (va_rf r :: st) T gi gr k n Q) : G E X pc ls st T gi gr k n Q := by
  cases r with
  | none => exact G_aloadN hd hv kk
  | some a => exact G_aload hd hv kk
theorem G_istore_n {i : Fin 4} {x : Int32} {ls' : List Value} (hd : gD X pc (.istore_n i) 1 pc') (hi : (i : Nat) < X.2.2.1) (hs : ls.set (i : Nat) (.int x) = ls') (kk : G E X pc' ls' st T gi gr k n Q) : G E X pc ls (.int x :: st) T gi gr k n Q := by
  obtain ⟨hd, rfl⟩ := hd
  subst hs
  intro p e s m args below meth c Z hc hr H locs lsA hl hw hf
  exact lv_istore_n hc.1 hc.2.1 hd rfl hl hi rfl (fun lsB hB => kk p e s m args below meth c Z hc hr H locs lsB (gL_set hB) hw hf)
theorem G_istore {i : Nat} {x : Int32} {ls' : List Value} (hd : gD X pc (.istore i) 2 pc') (hi : i < X.2.2.1) (hs : ls.set i (.int x) = ls') (kk : G E X pc' ls' st T gi gr k n Q) : G E X pc ls (.int x :: st) T gi gr k n Q := by
  obtain ⟨hd, rfl⟩ := hd
  subst hs
  intro p e s m args below meth c Z hc hr H locs lsA hl hw hf
  exact lv_istore hc.1 hc.2.1 hd hl hi rfl (fun lsB hB => kk p e s m args below meth c Z hc hr H locs lsB (gL_set hB) hw hf)
theorem G_astore_n {i : Fin 4} {a : Nat} {ls' : List Value} (hd : gD X pc (.astore_n i) 1 pc') (hi : (i : Nat) < X.2.2.1) (hs : ls.set (i : Nat) (.ref a) = ls') (kk : G E X pc' ls' st T gi gr k n Q) : G E X pc ls (.ref a :: st) T gi gr k n Q := by
  obtain ⟨hd, rfl⟩ := hd
  subst hs
  intro p e s m args below meth c Z hc hr H locs lsA hl hw hf
  exact lv_astore_n hc.1 hc.2.1 hd rfl hl hi rfl (fun lsB hB => kk p e s m args below meth c Z hc hr H locs lsB (gL_set hB) hw hf)
theorem G_astore {i : Nat} {a : Nat} {ls' : List Value} (hd : gD X pc (.astore i) 2 pc') (hi : i < X.2.2.1) (hs : ls.set i (.ref a) = ls') (kk : G E X pc' ls' st T gi gr k n Q) : G E X pc ls (.ref a :: st) T gi gr k n Q := by
  obtain ⟨hd, rfl⟩ := hd
  subst hs
  intro p e s m args below meth c Z hc hr H locs lsA hl hw hf
  exact lv_astore hc.1 hc.2.1 hd hl hi rfl (fun lsB hB => kk p e s m args below meth c Z hc hr H locs lsB (gL_set hB) hw hf)
theorem G_astore_nN {i : Fin 4} {ls' : List Value} (hd : gD X pc (.astore_n i) 1 pc') (hi : (i : Nat) < X.2.2.1) (hs : ls.set (i : Nat) (.null) = ls') (kk : G E X pc' ls' st T gi gr k n Q) : G E X pc ls (.null :: st) T gi gr k n Q := by
  obtain ⟨hd, rfl⟩ := hd
  subst hs
  intro p e s m args below meth c Z hc hr H locs lsA hl hw hf
  exact lv_astore_nN hc.1 hc.2.1 hd rfl hl hi rfl (fun lsB hB => kk p e s m args below meth c Z hc hr H locs lsB (gL_set hB) hw hf)
theorem G_astoreN {i : Nat} {ls' : List Value} (hd : gD X pc (.astore i) 2 pc') (hi : i < X.2.2.1) (hs : ls.set i (.null) = ls') (kk : G E X pc' ls' st T gi gr k n Q) : G E X pc ls (.null :: st) T gi gr k n Q := by
  obtain ⟨hd, rfl⟩ := hd
  subst hs
  intro p e s m args below meth c Z hc hr H locs lsA hl hw hf
  exact lv_astoreN hc.1 hc.2.1 hd hl hi rfl (fun lsB hB => kk p e s m args below meth c Z hc hr H locs lsB (gL_set hB) hw hf)
theorem G_astore_nq {i : Fin 4} {r : Option Nat} {ls' : List Value} (hd : gD X pc (.astore_n i) 1 pc') (hi : (i : Nat) < X.2.2.1) (hs : ls.set (i : Nat) (va_rf r) = ls') (kk : G E X pc' ls' st T gi gr k n Q) : G E X pc ls (va_rf r :: st) T gi gr k n Q := by
  cases r with
  | none => exact G_astore_nN hd hi hs kk
  | some a => exact G_astore_n hd hi hs kk
theorem G_astoreq {i : Nat} {r : Option Nat} {ls' : List Value} (hd : gD X pc (.astore i) 2 pc') (hi : i < X.2.2.1) (hs : ls.set i (va_rf r) = ls') (kk : G E X pc' ls' st T gi gr k n Q) : G E X pc ls (va_rf r :: st) T gi gr k n Q := by
  cases r with
  | none => exact G_astoreN hd hi hs kk
  | some a => exact G_astore hd hi hs kk
theorem G_iinc {i : Nat} {z : Int} {x v : Int32} {ls' : List Value} (hd : gD X pc (.iinc i z) 3 pc') (hx : ls[i]? = some (.int x)) (hv : x + Int32.ofInt z = v) (hi : i < X.2.2.1) (hs : ls.set i (.int v) = ls') (kk : G E X pc' ls' st T gi gr k n Q) : G E X pc ls st T gi gr k n Q := by
  obtain ⟨hd, rfl⟩ := hd
  subst hs
  intro p e s m args below meth c Z hc hr H locs lsA hl hw hf
  obtain ⟨j, hj⟩ := List.getElem?_of_mem (gl_mem.mpr ⟨hx, (rfl : (Value.int x).category = 1)⟩)
  exact lv_iinc hc.1 hc.2.1 hd hl hj hv hi rfl (fun lsB hB => kk p e s m args below meth c Z hc hr H locs lsB (gL_set hB) hw hf)
theorem G_iadd {x y : Int32} (hd : gD X pc (.iadd) 1 pc')  (kk : G E X pc' ls (.int (x + y) :: st) T gi gr k n Q) : G E X pc ls (.int y :: .int x :: st) T gi gr k n Q := by
  obtain ⟨hd, rfl⟩ := hd
  intro p e s m args below meth c Z hc hr H locs lsA hl hw hf
  exact lv_iadd hc.1 hc.2.1 hd (kk p e s m args below meth c Z hc hr H locs lsA hl hw hf)
theorem G_isub {x y : Int32} (hd : gD X pc (.isub) 1 pc')  (kk : G E X pc' ls (.int (x - y) :: st) T gi gr k n Q) : G E X pc ls (.int y :: .int x :: st) T gi gr k n Q := by
  obtain ⟨hd, rfl⟩ := hd
  intro p e s m args below meth c Z hc hr H locs lsA hl hw hf
  exact lv_isub hc.1 hc.2.1 hd (kk p e s m args below meth c Z hc hr H locs lsA hl hw hf)
theorem G_imul {x y : Int32} (hd : gD X pc (.imul) 1 pc')  (kk : G E X pc' ls (.int (x * y) :: st) T gi gr k n Q) : G E X pc ls (.int y :: .int x :: st) T gi gr k n Q := by
  obtain ⟨hd, rfl⟩ := hd
  intro p e s m args below meth c Z hc hr H locs lsA hl hw hf
  exact lv_imul hc.1 hc.2.1 hd (kk p e s m args below meth c Z hc hr H locs lsA hl hw hf)
theorem G_iand {x y : Int32} (hd : gD X pc (.iand) 1 pc')  (kk : G E X pc' ls (.int (x &&& y) :: st) T gi gr k n Q) : G E X pc ls (.int y :: .int x :: st) T gi gr k n Q := by
  obtain ⟨hd, rfl⟩ := hd
  intro p e s m args below meth c Z hc hr H locs lsA hl hw hf
  exact lv_iand hc.1 hc.2.1 hd (kk p e s m args below meth c Z hc hr H locs lsA hl hw hf)
theorem G_ixor {x y : Int32} (hd : gD X pc (.ixor) 1 pc')  (kk : G E X pc' ls (.int (x ^^^ y) :: st) T gi gr k n Q) : G E X pc ls (.int y :: .int x :: st) T gi gr k n Q := by
  obtain ⟨hd, rfl⟩ := hd
  intro p e s m args below meth c Z hc hr H locs lsA hl hw hf
  exact lv_ixor hc.1 hc.2.1 hd (kk p e s m args below meth c Z hc hr H locs lsA hl hw hf)
theorem G_idiv {x y : Int32} (hd : gD X pc (.idiv) 1 pc') (hne : ¬ y = 0) (kk : G E X pc' ls (.int (x / y) :: st) T gi gr k n Q) : G E X pc ls (.int y :: .int x :: st) T gi gr k n Q := by
  obtain ⟨hd, rfl⟩ := hd
  intro p e s m args below meth c Z hc hr H locs lsA hl hw hf
  exact lv_idiv hc.1 hc.2.1 hd hne (kk p e s m args below meth c Z hc hr H locs lsA hl hw hf)
theorem G_irem {x y : Int32} (hd : gD X pc (.irem) 1 pc') (hne : ¬ y = 0) (kk : G E X pc' ls (.int (x - x / y * y) :: st) T gi gr k n Q) : G E X pc ls (.int y :: .int x :: st) T gi gr k n Q := by
  obtain ⟨hd, rfl⟩ := hd
  intro p e s m args below meth c Z hc hr H locs lsA hl hw hf
  exact lv_irem hc.1 hc.2.1 hd hne (kk p e s m args below meth c Z hc hr H locs lsA hl hw hf)
theorem G_ineg {x : Int32} (hd : gD X pc (.ineg) 1 pc')  (kk : G E X pc' ls (.int (-x) :: st) T gi gr k n Q) : G E X pc ls (.int x :: st) T gi gr k n Q := by
  obtain ⟨hd, rfl⟩ := hd
  intro p e s m args below meth c Z hc hr H locs lsA hl hw hf
  exact lv_ineg hc.1 hc.2.1 hd (kk p e s m args below meth c Z hc hr H locs lsA hl hw hf)
theorem G_dup {v : Value} (hd : gD X pc (.dup) 1 pc') (hv : v.category = 1) (kk : G E X pc' ls (v :: v :: st) T gi gr k n Q) : G E X pc ls (v :: st) T gi gr k n Q := by
  obtain ⟨hd, rfl⟩ := hd
  intro p e s m args below meth c Z hc hr H locs lsA hl hw hf
  exact lv_dup hc.1 hc.2.1 hd hv (kk p e s m args below meth c Z hc hr H locs lsA hl hw hf)
theorem G_pop {v : Value} (hd : gD X pc (.pop) 1 pc') (hv : v.category = 1) (kk : G E X pc' ls (st) T gi gr k n Q) : G E X pc ls (v :: st) T gi gr k n Q := by
  obtain ⟨hd, rfl⟩ := hd
  intro p e s m args below meth c Z hc hr H locs lsA hl hw hf
  exact lv_pop hc.1 hc.2.1 hd hv (kk p e s m args below meth c Z hc hr H locs lsA hl hw hf)
theorem G_dup2 {v u : Value} (hd : gD X pc (.dup2) 1 pc') (hv : v.category = 1) (hu : u.category = 1) (kk : G E X pc' ls (v :: u :: v :: u :: st) T gi gr k n Q) : G E X pc ls (v :: u :: st) T gi gr k n Q := by
  obtain ⟨hd, rfl⟩ := hd
  intro p e s m args below meth c Z hc hr H locs lsA hl hw hf
  exact lv_dup2_11 hc.1 hc.2.1 hd hv hu (kk p e s m args below meth c Z hc hr H locs lsA hl hw hf)
theorem G_null  (hd : gD X pc (.aconst_null) 1 pc')  (kk : G E X pc' ls (.null :: st) T gi gr k n Q) : G E X pc ls (st) T gi gr k n Q := by
  obtain ⟨hd, rfl⟩ := hd
  intro p e s m args below meth c Z hc hr H locs lsA hl hw hf
  exact lv_null hc.1 hc.2.1 hd (kk p e s m args below meth c Z hc hr H locs lsA hl hw hf)
theorem G_icmp_eq {x y : Int32} {off : Int} {tgt : Nat} (hd : gB X pc (.if_icmp .eq off) off tgt pc') (kt : x = y → G E X tgt ls st T gi gr k n Q) (kf : ¬ x = y → G E X pc' ls st T gi gr k n Q) : G E X pc ls (.int y :: .int x :: st) T gi gr k n Q := by
  obtain ⟨hd, ht, rfl⟩ := hd
  intro p e s m args below meth c Z hc hr H locs lsA hl hw hf
  exact lv_icmp_eq hc.1 hc.2.1 hd ht (fun h => kt h p e s m args below meth c Z hc hr H locs lsA hl hw hf) (fun h => kf h p e s m args below meth c Z hc hr H locs lsA hl hw hf)
theorem G_if_eq {x : Int32} {off : Int} {tgt : Nat} (hd : gB X pc (.ifCond .eq off) off tgt pc') (kt : x = 0 → G E X tgt ls st T gi gr k n Q) (kf : ¬ x = 0 → G E X pc' ls st T gi gr k n Q) : G E X pc ls (.int x :: st) T gi gr k n Q := by
  obtain ⟨hd, ht, rfl⟩ := hd
  intro p e s m args below meth c Z hc hr H locs lsA hl hw hf
  exact lv_if_eq hc.1 hc.2.1 hd ht (fun h => kt h p e s m args below meth c Z hc hr H locs lsA hl hw hf) (fun h => kf h p e s m args below meth c Z hc hr H locs lsA hl hw hf)
theorem G_icmp_ne {x y : Int32} {off : Int} {tgt : Nat} (hd : gB X pc (.if_icmp .ne off) off tgt pc') (kt : ¬ x = y → G E X tgt ls st T gi gr k n Q) (kf : x = y → G E X pc' ls st T gi gr k n Q) : G E X pc ls (.int y :: .int x :: st) T gi gr k n Q := by
  obtain ⟨hd, ht, rfl⟩ := hd
  intro p e s m args below meth c Z hc hr H locs lsA hl hw hf
  exact lv_icmp_ne hc.1 hc.2.1 hd ht (fun h => kt h p e s m args below meth c Z hc hr H locs lsA hl hw hf) (fun h => kf h p e s m args below meth c Z hc hr H locs lsA hl hw hf)
theorem G_if_ne {x : Int32} {off : Int} {tgt : Nat} (hd : gB X pc (.ifCond .ne off) off tgt pc') (kt : ¬ x = 0 → G E X tgt ls st T gi gr k n Q) (kf : x = 0 → G E X pc' ls st T gi gr k n Q) : G E X pc ls (.int x :: st) T gi gr k n Q := by
  obtain ⟨hd, ht, rfl⟩ := hd
  intro p e s m args below meth c Z hc hr H locs lsA hl hw hf
  exact lv_if_ne hc.1 hc.2.1 hd ht (fun h => kt h p e s m args below meth c Z hc hr H locs lsA hl hw hf) (fun h => kf h p e s m args below meth c Z hc hr H locs lsA hl hw hf)
theorem G_icmp_lt {x y : Int32} {off : Int} {tgt : Nat} (hd : gB X pc (.if_icmp .lt off) off tgt pc') (kt : x < y → G E X tgt ls st T gi gr k n Q) (kf : ¬ x < y → G E X pc' ls st T gi gr k n Q) : G E X pc ls (.int y :: .int x :: st) T gi gr k n Q := by
  obtain ⟨hd, ht, rfl⟩ := hd
  intro p e s m args below meth c Z hc hr H locs lsA hl hw hf
  exact lv_icmp_lt hc.1 hc.2.1 hd ht (fun h => kt h p e s m args below meth c Z hc hr H locs lsA hl hw hf) (fun h => kf h p e s m args below meth c Z hc hr H locs lsA hl hw hf)
theorem G_if_lt {x : Int32} {off : Int} {tgt : Nat} (hd : gB X pc (.ifCond .lt off) off tgt pc') (kt : x < 0 → G E X tgt ls st T gi gr k n Q) (kf : ¬ x < 0 → G E X pc' ls st T gi gr k n Q) : G E X pc ls (.int x :: st) T gi gr k n Q := by
  obtain ⟨hd, ht, rfl⟩ := hd
  intro p e s m args below meth c Z hc hr H locs lsA hl hw hf
  exact lv_if_lt hc.1 hc.2.1 hd ht (fun h => kt h p e s m args below meth c Z hc hr H locs lsA hl hw hf) (fun h => kf h p e s m args below meth c Z hc hr H locs lsA hl hw hf)
theorem G_icmp_ge {x y : Int32} {off : Int} {tgt : Nat} (hd : gB X pc (.if_icmp .ge off) off tgt pc') (kt : y ≤ x → G E X tgt ls st T gi gr k n Q) (kf : ¬ y ≤ x → G E X pc' ls st T gi gr k n Q) : G E X pc ls (.int y :: .int x :: st) T gi gr k n Q := by
  obtain ⟨hd, ht, rfl⟩ := hd
  intro p e s m args below meth c Z hc hr H locs lsA hl hw hf
  exact lv_icmp_ge hc.1 hc.2.1 hd ht (fun h => kt h p e s m args below meth c Z hc hr H locs lsA hl hw hf) (fun h => kf h p e s m args below meth c Z hc hr H locs lsA hl hw hf)
theorem G_if_ge {x : Int32} {off : Int} {tgt : Nat} (hd : gB X pc (.ifCond .ge off) off tgt pc') (kt : 0 ≤ x → G E X tgt ls st T gi gr k n Q) (kf : ¬ 0 ≤ x → G E X pc' ls st T gi gr k n Q) : G E X pc ls (.int x :: st) T gi gr k n Q := by
  obtain ⟨hd, ht, rfl⟩ := hd
  intro p e s m args below meth c Z hc hr H locs lsA hl hw hf
  exact lv_if_ge hc.1 hc.2.1 hd ht (fun h => kt h p e s m args below meth c Z hc hr H locs lsA hl hw hf) (fun h => kf h p e s m args below meth c Z hc hr H locs lsA hl hw hf)
theorem G_icmp_gt {x y : Int32} {off : Int} {tgt : Nat} (hd : gB X pc (.if_icmp .gt off) off tgt pc') (kt : y < x → G E X tgt ls st T gi gr k n Q) (kf : ¬ y < x → G E X pc' ls st T gi gr k n Q) : G E X pc ls (.int y :: .int x :: st) T gi gr k n Q := by
  obtain ⟨hd, ht, rfl⟩ := hd
  intro p e s m args below meth c Z hc hr H locs lsA hl hw hf
  exact lv_icmp_gt hc.1 hc.2.1 hd ht (fun h => kt h p e s m args below meth c Z hc hr H locs lsA hl hw hf) (fun h => kf h p e s m args below meth c Z hc hr H locs lsA hl hw hf)
theorem G_if_gt {x : Int32} {off : Int} {tgt : Nat} (hd : gB X pc (.ifCond .gt off) off tgt pc') (kt : 0 < x → G E X tgt ls st T gi gr k n Q) (kf : ¬ 0 < x → G E X pc' ls st T gi gr k n Q) : G E X pc ls (.int x :: st) T gi gr k n Q := by
  obtain ⟨hd, ht, rfl⟩ := hd
  intro p e s m args below meth c Z hc hr H locs lsA hl hw hf
  exact lv_if_gt hc.1 hc.2.1 hd ht (fun h => kt h p e s m args below meth c Z hc hr H locs lsA hl hw hf) (fun h => kf h p e s m args below meth c Z hc hr H locs lsA hl hw hf)
theorem G_icmp_le {x y : Int32} {off : Int} {tgt : Nat} (hd : gB X pc (.if_icmp .le off) off tgt pc') (kt : x ≤ y → G E X tgt ls st T gi gr k n Q) (kf : ¬ x ≤ y → G E X pc' ls st T gi gr k n Q) : G E X pc ls (.int y :: .int x :: st) T gi gr k n Q := by
  obtain ⟨hd, ht, rfl⟩ := hd
  intro p e s m args below meth c Z hc hr H locs lsA hl hw hf
  exact lv_icmp_le hc.1 hc.2.1 hd ht (fun h => kt h p e s m args below meth c Z hc hr H locs lsA hl hw hf) (fun h => kf h p e s m args below meth c Z hc hr H locs lsA hl hw hf)
theorem G_if_le {x : Int32} {off : Int} {tgt : Nat} (hd : gB X pc (.ifCond .le off) off tgt pc') (kt : x ≤ 0 → G E X tgt ls st T gi gr k n Q) (kf : ¬ x ≤ 0 → G E X pc' ls st T gi gr k n Q) : G E X pc ls (.int x :: st) T gi gr k n Q := by
  obtain ⟨hd, ht, rfl⟩ := hd
  intro p e s m args below meth c Z hc hr H locs lsA hl hw hf
  exact lv_if_le hc.1 hc.2.1 hd ht (fun h => kt h p e s m args below meth c Z hc hr H locs lsA hl hw hf) (fun h => kf h p e s m args below meth c Z hc hr H locs lsA hl hw hf)
theorem G_acmp_eq {rx ry : Option Nat} {vx vy : Value} {off : Int} {tgt : Nat} (ex : vx = va_rf rx) (ey : vy = va_rf ry) (hd : gB X pc (.if_acmp .eq off) off tgt pc') (kt : rx = ry → G E X tgt ls st T gi gr k n Q) (kf : ¬ rx = ry → G E X pc' ls st T gi gr k n Q) : G E X pc ls (vy :: vx :: st) T gi gr k n Q := by
  obtain ⟨hd, ht, rfl⟩ := hd
  subst ex
  subst ey
  intro p e s m args below meth c Z hc hr H locs lsA hl hw hf
  exact lv_acmp_eq hc.1 hc.2.1 hd ht (fun h => kt h p e s m args below meth c Z hc hr H locs lsA hl hw hf) (fun h => kf h p e s m args below meth c Z hc hr H locs lsA hl hw hf)
theorem G_acmp_ne {rx ry : Option Nat} {vx vy : Value} {off : Int} {tgt : Nat} (ex : vx = va_rf rx) (ey : vy = va_rf ry) (hd : gB X pc (.if_acmp .ne off) off tgt pc') (kt : ¬ rx = ry → G E X tgt ls st T gi gr k n Q) (kf : rx = ry → G E X pc' ls st T gi gr k n Q) : G E X pc ls (vy :: vx :: st) T gi gr k n Q := by
  obtain ⟨hd, ht, rfl⟩ := hd
  subst ex
  subst ey
  intro p e s m args below meth c Z hc hr H locs lsA hl hw hf
  exact lv_acmp_ne hc.1 hc.2.1 hd ht (fun h => kt h p e s m args below meth c Z hc hr H locs lsA hl hw hf) (fun h => kf h p e s m args below meth c Z hc hr H locs lsA hl hw hf)
theorem G_goto {off : Int} {tgt : Nat} (hd : gB X pc (.goto off) off tgt pc') (kk : G E X tgt ls st T gi gr k n Q) : G E X pc ls st T gi gr k n Q := by
  obtain ⟨hd, ht, rfl⟩ := hd
  intro p e s m args below meth c Z hc hr H locs lsA hl hw hf
  exact lv_goto hc.1 hc.2.1 hd ht (kk p e s m args below meth c Z hc hr H locs lsA hl hw hf)
theorem G_ifnull {a : Nat} {off : Int} {tgt : Nat} (hd : gB X pc (.ifnull off) off tgt pc') (kk : G E X pc' ls st T gi gr k n Q) : G E X pc ls (.ref a :: st) T gi gr k n Q := by
  obtain ⟨hd, ht, rfl⟩ := hd
  intro p e s m args below meth c Z hc hr H locs lsA hl hw hf
  exact lv_ifnull hc.1 hc.2.1 hd (kk p e s m args below meth c Z hc hr H locs lsA hl hw hf)
theorem G_ifnonnull {a : Nat} {off : Int} {tgt : Nat} (hd : gB X pc (.ifnonnull off) off tgt pc') (kk : G E X tgt ls st T gi gr k n Q) : G E X pc ls (.ref a :: st) T gi gr k n Q := by
  obtain ⟨hd, ht, rfl⟩ := hd
  intro p e s m args below meth c Z hc hr H locs lsA hl hw hf
  exact lv_ifnonnull hc.1 hc.2.1 hd ht (kk p e s m args below meth c Z hc hr H locs lsA hl hw hf)
theorem G_ifnullN {off : Int} {tgt : Nat} (hd : gB X pc (.ifnull off) off tgt pc') (kk : G E X tgt ls st T gi gr k n Q) : G E X pc ls (.null :: st) T gi gr k n Q := by
  obtain ⟨hd, ht, rfl⟩ := hd
  intro p e s m args below meth c Z hc hr H locs lsA hl hw hf
  exact lv_ifnullN hc.1 hc.2.1 hd ht (kk p e s m args below meth c Z hc hr H locs lsA hl hw hf)
theorem G_ifnonnullN {off : Int} {tgt : Nat} (hd : gB X pc (.ifnonnull off) off tgt pc') (kk : G E X pc' ls st T gi gr k n Q) : G E X pc ls (.null :: st) T gi gr k n Q := by
  obtain ⟨hd, ht, rfl⟩ := hd
  intro p e s m args below meth c Z hc hr H locs lsA hl hw hf
  exact lv_ifnonnullN hc.1 hc.2.1 hd (kk p e s m args below meth c Z hc hr H locs lsA hl hw hf)
theorem G_ifnullq {r : Option Nat} {off : Int} {tgt : Nat} (hd : gB X pc (.ifnull off) off tgt pc') (kn : r = none → G E X tgt ls st T gi gr k n Q) (ks : ∀ a, r = some a → G E X pc' ls st T gi gr k n Q) : G E X pc ls (va_rf r :: st) T gi gr k n Q := by
  cases r with
  | none => exact G_ifnullN hd (kn rfl)
  | some a => exact G_ifnull hd (ks a rfl)
theorem G_ifnonnullq {r : Option Nat} {off : Int} {tgt : Nat} (hd : gB X pc (.ifnonnull off) off tgt pc') (kn : r = none → G E X pc' ls st T gi gr k n Q) (ks : ∀ a, r = some a → G E X tgt ls st T gi gr k n Q) : G E X pc ls (va_rf r :: st) T gi gr k n Q := by
  cases r with
  | none => exact G_ifnonnullN hd (kn rfl)
  | some a => exact G_ifnonnull hd (ks a rfl)
theorem G_tableOut {dflt lo hi : Int} {offs : Array Int} {len tgt : Nat} {x : Int32} (hd : decode X.2.1 pc = .ok (.tableswitch dflt lo hi offs, len)) (h : x.toInt < lo ∨ hi < x.toInt) (ht : (pc : Int) + dflt = (tgt : Int)) (kk : G E X tgt ls st T gi gr k n Q) : G E X pc ls (.int x :: st) T gi gr k n Q := by
  intro p e s m args below meth c Z hc hr H locs lsA hl hw hf
  exact lv_tableOut hc.1 hc.2.1 hd h ht (kk p e s m args below meth c Z hc hr H locs lsA hl hw hf)
theorem G_tableIn {dflt lo hi off : Int} {offs : Array Int} {len tgt : Nat} {x : Int32} (hd : decode X.2.1 pc = .ok (.tableswitch dflt lo hi offs, len)) (h1 : ¬ x.toInt < lo) (h2 : ¬ hi < x.toInt) (ho : offs[(x.toInt - lo).toNat]? = some off) (ht : (pc : Int) + off = (tgt : Int)) (kk : G E X tgt ls st T gi gr k n Q) : G E X pc ls (.int x :: st) T gi gr k n Q := by
  intro p e s m args below meth c Z hc hr H locs lsA hl hw hf
  exact lv_tableIn hc.1 hc.2.1 hd h1 h2 ho ht (kk p e s m args below meth c Z hc hr H locs lsA hl hw hf)
theorem G_ireturn {x : Int32} {ty : FieldType} (hd : decode X.2.1 pc = .ok (.ireturn, 1)) (hty : X.2.2.2.1 = some ty) (hn : narrow ty (.int x) = .int x) (hk : k ≤ X.2.2.2.2.cells) (hn2 : n ≤ X.2.2.2.2.slots) (hq : Q T gi gr (some (.int x))) : G E X pc ls [.int x] T gi gr k n Q := by
  intro p e s m args below meth c Z hc hr H locs lsA hl hw hf
  exact W.widen hk hn2 (hr T gi gr (some (.int x)) H locs lsA pc hq hw hf ⟨hd, ty, hty, hn⟩)
theorem G_return (hd : decode X.2.1 pc = .ok (.return_, 1)) (hty : X.2.2.2.1 = none) (hk : k ≤ X.2.2.2.2.cells) (hn2 : n ≤ X.2.2.2.2.slots) (hq : Q T gi gr none) : G E X pc ls [] T gi gr k n Q := by
  intro p e s m args below meth c Z hc hr H locs lsA hl hw hf
  exact W.widen hk hn2 (hr T gi gr none H locs lsA pc hq hw hf ⟨hd, hty⟩)
theorem G_areturn {r : Option Nat} {v : Value} {C : String} (hd : decode X.2.1 pc = .ok (.areturn, 1)) (hv : v = va_rf r) (hty : X.2.2.2.1 = some (.object C)) (hk : k ≤ X.2.2.2.2.cells) (hn2 : n ≤ X.2.2.2.2.slots) (hq : Q T gi gr (some (va_rf r))) : G E X pc ls [v] T gi gr k n Q := by
  subst hv
  intro p e s m args below meth c Z hc hr H locs lsA hl hw hf
  refine W.widen hk hn2 (hr T gi gr (some (va_rf r)) H locs lsA pc hq hw hf ?_)
  cases r with
  | none => exact ⟨hd, Or.inl rfl, C, hty⟩
  | some a => exact ⟨hd, Or.inr ⟨a, rfl⟩, C, hty⟩
end GR
end
section
def gu {α : Type} (f : Nat → Nat → α) (a k : Nat) (x : α) : Nat → Nat → α := fun q j => if q = a ∧ j = k then x else f q j
def gup {α : Type} (f : Nat → α) (a : Nat) (x : α) : Nat → α := fun q => if q = a then x else f q
def gNew (T : gT) (tag len : Nat) : gT := (gup T.1 T.2.2 tag, gup T.2.1 T.2.2 len, T.2.2 + 1)
theorem gu_off {α : Type} {f : Nat → Nat → α} {a k : Nat} {x : α} {q : Nat} (h : q ≠ a) : gu f a k x q = f q := by
  funext j
  simp [gu, h]
theorem gu_row {α : Type} {f : Nat → Nat → α} {a k : Nat} {x : α} (j : Nat) : gu f a k x a j = if j = k then x else f a j := by
  simp [gu]
theorem gu_same {α : Type} {f : Nat → Nat → α} {a k : Nat} {x : α} : gu f a k x a k = x := by simp [gu]
theorem gu_ne {α : Type} {f : Nat → Nat → α} {a k : Nat} {x : α} {q j : Nat} (h : q ≠ a ∨ j ≠ k) : gu f a k x q j = f q j := by
  unfold gu
  rw [if_neg]
  rintro ⟨h1, h2⟩
  rcases h with h | h
  · exact h h1
  · exact h h2
theorem gup_same {α : Type} {f : Nat → α} {a : Nat} {x : α} : gup f a x a = x := by simp [gup]
theorem gup_ne {α : Type} {f : Nat → α} {a : Nat} {x : α} {q : Nat} (h : q ≠ a) : gup f a x q = f q := by simp [gup, h]
theorem vwCl_lt {ci : Nat} {r : vw_C} (h : vwCl[ci]? = some r) : ci < 99 := Nat.lt_of_lt_of_le (List.getElem?_eq_some_iff.mp h).1 (by decide)
theorem gMem_fld {E : gE} {T : gT} {gi gi' : gI} {gr gr' : gR} {H H1 : Heap} {a ci : Nat} {r : vw_C} {cell1 : Cell} (hM : gMem E T gi gr H) (ht : T.1 a = ci + 1) (hcl : vwCl[ci]? = some r) (hoff : ∀ q, q ≠ a → gi' q = gi q ∧ gr' q = gr q) (h1 : H1[a]? = some cell1) (hz : H1.size = H.size) (ho : ∀ q, q ≠ a → H1[q]? = H[q]?)
    (hnew : cell1.cls = E.2.1.1 ci ∧ cell1.vm = .none ∧ ∀ k, k < r.2.2 → cell1.slots[E.2.1.2 ci k]? = some (gfv r.2.1 k (gi' a) (gr' a))) : gMem E T gi' gr' H1 := by
  refine ⟨hz.trans hM.1, hM.2.1, fun q hq => ?_⟩
  by_cases hqa : q = a
  · subst hqa
    refine ⟨(hM.2.2 q hq).1, cell1, h1, fun ci' r' e1 e2 => ?_, fun t e1 => ?_⟩
    · have : ci' = ci := by omega
      subst this
      rw [hcl] at e2
      cases e2
      exact hnew
    · have := vwCl_lt hcl
      omega
  · obtain ⟨hb, cell, hcell, hat⟩ := hM.2.2 q hq
    refine ⟨hb, cell, (ho q hqa).trans hcell, ?_⟩
    rw [(hoff q hqa).1, (hoff q hqa).2]
    exact hat
theorem gMem_arr {E : gE} {T : gT} {gi gi' : gI} {gr gr' : gR} {H H1 : Heap} {a t : Nat} (hM : gMem E T gi gr H) (ht : T.1 a = 100 + t) (hoff : ∀ q, q ≠ a → gi' q = gi q ∧ gr' q = gr q) (h1 : H1[a]? = some (arrV (E.2.2.1 t) (T.2.1 a) (gav t (gi' a) (gr' a)))) (hz : H1.size = H.size) (ho : ∀ q, q ≠ a → H1[q]? = H[q]?) : gMem E T gi' gr' H1 := by
  refine ⟨hz.trans hM.1, hM.2.1, fun q hq => ?_⟩
  by_cases hqa : q = a
  · subst hqa
    refine ⟨(hM.2.2 q hq).1, _, h1, fun ci' r' e1 e2 => ?_, fun t' e1 => ?_⟩
    · have := vwCl_lt e2
      omega
    · have : t' = t := by omega
      subst this
      rfl
  · obtain ⟨hb, cell, hcell, hat⟩ := hM.2.2 q hq
    refine ⟨hb, cell, (ho q hqa).trans hcell, ?_⟩
    rw [(hoff q hqa).1, (hoff q hqa).2]
    exact hat
theorem gMem_new {E : gE} {T : gT} {gi : gI} {gr : gR} {H H1 : Heap} {tag len : Nat} {cell1 : Cell} (hM : gMem E T gi gr H) (h1 : H1[H.size]? = some cell1) (hz : H1.size = H.size + 1) (ho : ∀ q, q < H.size → H1[q]? = H[q]?) (hnew : gAt E tag len (fun _ => 0) (fun _ => none) cell1) :
    gMem E (gNew T tag len) (gup gi T.2.2 (fun _ => 0)) (gup gr T.2.2 (fun _ => none)) H1 := by
  obtain ⟨m1, m2, m3⟩ := hM
  refine ⟨by rw [hz, m1]; rfl, Nat.le_succ_of_le m2, fun q hq => ?_⟩
  by_cases hqa : q = T.2.2
  · subst hqa
    refine ⟨m2, cell1, by rw [← m1]; exact h1, ?_⟩
    simp only [gNew, gup_same]
    exact hnew
  · simp only [gNew, gup_ne hqa] at hq ⊢
    obtain ⟨hb, cell, hcell, hat⟩ := m3 q hq
    exact ⟨hb, cell, (ho q (Array.getElem?_eq_some_iff.mp hcell).1).trans hcell, hat⟩
theorem gW_to {E : gE} {T T' : gT} {gi gi' : gI} {gr gr' : gR} {U : State} {H H1 : Heap} (hw : gW E T gi gr U H) (hM : gMem E T' gi' gr' H1) (hb : H1[E.2.2.2.1]? = H[E.2.2.2.1]?) : gW E T' gi' gr' U H1 := ⟨hM, hw.2.1.kept hb, hw.2.2⟩
theorem gLocs {E : gE} {locs : List Loc} {a j : Nat} (hf : ∀ q ∈ locs, gbase E ≤ q.base) (ha : gbase E ≤ a) : ∀ q ∈ locs ++ [(⟨a, j⟩ : Loc)], gbase E ≤ q.base := by
  intro q hq
  rcases List.mem_append.mp hq with h | h
  · exact hf q h
  · rw [List.mem_singleton.mp h]; exact ha
def gCls (ci : Nat) (C : String) (Tb : u_T) (N : Nat) (ty : Nat → FieldType) : Prop :=
  vwCl[ci]? = some (C, Tb, N) ∧ (∀ w ∈ u_ws C Tb N, w ∈ gTbl) ∧ (∀ k, k < N → parseFieldDescriptor (Tb k).2.2.1 = some (ty k)) ∧ (∀ a, a < N → ∀ b, b < N → a ≠ b → (Tb a).2.1 ≠ (Tb b).2.1)
def gFld (own : String) (idx ci k : Nat) (rf : Bool) : Prop := ∃ (C : String) (Tb : u_T) (N : Nat) (ty : Nat → FieldType), gCls ci C Tb N ty ∧ k < N ∧ gFR (Tb k).2.2.1 = rf ∧ Cond.fieldLink own idx (Tb k).1 (Tb k).2.1 (Tb k).2.2.1 ∈ gTbl
def gFldW (own : String) (idx ci k : Nat) (fin rf : Bool) (t : FieldType) : Prop := ∃ (C : String) (Tb : u_T) (N : Nat) (ty : Nat → FieldType), gCls ci C Tb N ty ∧ k < N ∧ gFR (Tb k).2.2.1 = rf ∧ Cond.fieldLink own idx (Tb k).1 (Tb k).2.1 (Tb k).2.2.1 ∈ gTbl ∧ ty k = t ∧ (Tb k).2.2.2 = fin ∧ (fin = true → (Tb k).1 = own)
section GF
variable {E : gE} {X : gX} {pc pc' : Nat} {ls st : List Value} {T : gT} {gi : gI} {gr : gR} {k n : Nat} {Q : gQ}
theorem G_getV {idx ci fk a : Nat} {rf : Bool} (f : gFld X.1.cls idx ci fk rf) (hd : gD X pc (.getfield idx) 3 pc') (ht : T.1 a = ci + 1) (kk : G E X pc' ls ((if rf = true then va_rf (gr a fk) else .int (gi a fk)) :: st) T gi gr k n Q) : G E X pc ls (.ref a :: st) T gi gr k n Q := by
  obtain ⟨C, Tb, N, ty, ⟨hcl, hin, hty, hnm⟩, hk, hrf, hlk⟩ := f
  obtain ⟨hd, rfl⟩ := hd
  intro p e s m args below meth c Z hc hr H locs lsA hl hw hf
  obtain ⟨hb0, cell, hcell, hat⟩ := hw.1.2.2 a (by rw [ht]; exact Nat.succ_ne_zero _)
  obtain ⟨q2, q3, q4⟩ := hat.1 ci _ ht hcl
  obtain ⟨hS, hfc, kC, hkC, hkind⟩ := hc.2.2.2.2.2.2.2.2.1.1 ci _ hcl
  obtain ⟨cf, kf, fi, f, hi, hsl⟩ := hS fk hk
  refine W.getf hc.1 hc.2.1 hc.2.2.2.2.2.1 (hc.2.2.2.2.2.2.1 _ hlk) hi (u_facts hfc hkC (u_lays hc.2.2.2.2.2.2.1 hin hk) hi).1 hcell (by rw [q3]; exact fun h => by cases h) ?_ rfl rfl hd (kk p e s m args below meth c Z hc hr H locs lsA hl hw hf)
  rw [hsl, q4 fk hk]
  simp only [gfv, hrf]
theorem G_getI {idx ci fk a : Nat} (f : gFld X.1.cls idx ci fk false) (hd : gD X pc (.getfield idx) 3 pc') (ht : T.1 a = ci + 1) (kk : G E X pc' ls (.int (gi a fk) :: st) T gi gr k n Q) : G E X pc ls (.ref a :: st) T gi gr k n Q := G_getV f hd ht kk
theorem G_getR {idx ci fk a : Nat} (f : gFld X.1.cls idx ci fk true) (hd : gD X pc (.getfield idx) 3 pc') (ht : T.1 a = ci + 1) (kk : G E X pc' ls (va_rf (gr a fk) :: st) T gi gr k n Q) : G E X pc ls (.ref a :: st) T gi gr k n Q := G_getV f hd ht kk
theorem G_getRs {idx ci fk a q : Nat} (f : gFld X.1.cls idx ci fk true) (hd : gD X pc (.getfield idx) 3 pc') (ht : T.1 a = ci + 1) (hq : gr a fk = some q) (kk : G E X pc' ls (.ref q :: st) T gi gr k n Q) : G E X pc ls (.ref a :: st) T gi gr k n Q := G_getR f hd ht (by rw [hq]; exact kk)
theorem G_putV {idx ci fk a : Nat} {fin rf : Bool} {t : FieldType} {v : Value} {gi' : gI} {gr' : gR} (f : gFldW X.1.cls idx ci fk fin rf t) (hfin : fin = false ∨ X.1.name = "<init>") (hd : gD X pc (.putfield idx) 3 pc') (ht : T.1 a = ci + 1) (hn : narrow t v = v) (hfit : fits t v = true) (hoff : ∀ q, q ≠ a → gi' q = gi q ∧ gr' q = gr q)
    (hval : ∀ (Tb : u_T) (j : Nat), (j = fk → gFR (Tb fk).2.2.1 = rf) → gfv Tb j (gi' a) (gr' a) = if j = fk then v else gfv Tb j (gi a) (gr a)) (kk : G E X pc' ls st T gi' gr' k n Q) : G E X pc ls (v :: .ref a :: st) T gi gr k n Q := by
  obtain ⟨C, Tb, N, ty, ⟨hcl, hin, hty, hnm⟩, hk, hrf, hlk, hte, hfe, hdecl⟩ := f
  obtain ⟨hd, rfl⟩ := hd
  intro p e s m args below meth c Z hc hr H locs lsA hl hw hf
  have hts := hc.2.2.2.2.2.2.1
  have hown := hc.2.2.2.2.2.1
  have hK := hc.2.2.2.2.2.2.2.2.1
  obtain ⟨hb0, cell, hcell, hat⟩ := hw.1.2.2 a (by rw [ht]; exact Nat.succ_ne_zero _)
  obtain ⟨q2, q3, q4⟩ := hat.1 ci _ ht hcl
  have hap := va_apart (own := X.1.cls) hts hin ty hty hnm hK hcl
  obtain ⟨hS, hfc, kC, hkC, hkind⟩ := hK.1 ci _ hcl
  obtain ⟨cf, kf, fi, f, hi, hsl⟩ := hS fk hk
  have hst := (u_facts hfc hkC (u_lays hts hin hk) hi).1
  have hd2 : parseFieldDescriptor (Tb fk).2.2.1 = some t := by rw [← hte]; exact hty fk hk
  have go : ∀ H' : Heap, H'[a]? = some (cell.setSlot f.slot v) → H'.size = H.size → (∀ q, q ≠ a → H'[q]? = H[q]?) → W p E.1 e X.2.2.2.2 s m args below meth c H' (locs ++ [⟨a, f.slot⟩]) k n Z (F0 m (pc + 3) lsA st) := by
    intro H' e1 e2 e3
    refine kk p e s m args below meth c Z hc hr H' _ lsA hl (gW_to hw (gMem_fld hw.1 ht hcl hoff e1 e2 e3 ⟨q2, q3, fun j hj => ?_⟩) (e3 _ (fun z => by have := hw.2.2; omega))) (gLocs hf hb0)
    rw [hsl, t_set q4 hap hk v j hj]
    simp only [updV]
    rw [hval Tb j (fun _ => hrf)]
  have hlay := hts _ (hin _ (u_in_lay hk))
  unfold u_lay at hlay
  cases fin with
  | false =>
    rw [if_neg (by rw [hfe]; decide)] at hlay
    exact W.putK hc.1 hc.2.1 (f := f) ⟨hown, hts _ hlk, ⟨_, _, _, hi⟩, hst⟩ (by rw [q2]; exact u_store hfc hkC hkind hlay hi hd2 hn hfit) hcell q3 (by rw [hsl]; exact k2_hasslot (q4 fk hk)) rfl rfl hd go
  | true =>
    rw [if_pos hfe] at hlay
    have hcf : m.cls = cf := by
      obtain ⟨_, _, c', _, _, _, -, -, hf', -, -, -, hown2, -⟩ := Cond.laysFinal_spec hlay
      have e1 : c' = cf := by have := hi.symm.trans hf'; simp at this; exact this.1.symm
      rw [hdecl rfl] at hown2
      rw [← e1]; exact Option.some.inj (hown.symm.trans hown2)
    exact W.putFinK hc.1 hc.2.1 hown (hts _ hlk) hi hst hcf (by rw [hc.2.2.2.2.2.2.2.1]; rcases hfin with h | h; cases h; exact h) (by rw [q2]; exact u_fits hfc hkC hkind (Or.inr hlay) hi hd2 hn hfit) hcell q3 (by rw [hsl]; exact k2_hasslot (q4 fk hk)) rfl rfl hd go
theorem gfv_I {Tb : u_T} {fi : gI} {fr : gR} {a fk j : Nat} {x : Int32} (h : j = fk → gFR (Tb fk).2.2.1 = false) : gfv Tb j (gu fi a fk x a) (fr a) = if j = fk then .int x else gfv Tb j (fi a) (fr a) := by
  by_cases hj : j = fk
  · subst hj
    rw [if_pos rfl]
    simp [gfv, h rfl, gu]
  · rw [if_neg hj]
    simp [gfv, gu, hj]
theorem gfv_R {Tb : u_T} {fi : gI} {fr : gR} {a fk j : Nat} {x : Option Nat} (h : j = fk → gFR (Tb fk).2.2.1 = true) : gfv Tb j (fi a) (gu fr a fk x a) = if j = fk then va_rf x else gfv Tb j (fi a) (fr a) := by
  by_cases hj : j = fk
  · subst hj
    rw [if_pos rfl]
    simp [gfv, h rfl, gu]
  · rw [if_neg hj]
    simp [gfv, gu, hj]
theorem G_putI {idx ci fk a : Nat} {fin : Bool} {t : FieldType} {x : Int32} (f : gFldW X.1.cls idx ci fk fin false t) (hfin : fin = false ∨ X.1.name = "<init>") (hd : gD X pc (.putfield idx) 3 pc') (ht : T.1 a = ci + 1) (hn : narrow t (.int x) = .int x) (hfit : fits t (.int x) = true) (kk : G E X pc' ls st T (gu gi a fk x) gr k n Q) : G E X pc ls (.int x :: .ref a :: st) T gi gr k n Q :=
  G_putV (gi' := gu gi a fk x) (gr' := gr) f hfin hd ht hn hfit (fun q hq => ⟨gu_off hq, rfl⟩) (fun Tb j h => gfv_I h) kk
theorem G_putR {idx ci fk a : Nat} {fin : Bool} {t : FieldType} {v : Value} {r : Option Nat} (hv : v = va_rf r) (f : gFldW X.1.cls idx ci fk fin true t) (hfin : fin = false ∨ X.1.name = "<init>") (hd : gD X pc (.putfield idx) 3 pc') (ht : T.1 a = ci + 1) (hn : ∀ q, narrow t (va_rf q) = va_rf q) (hfit : ∀ q, fits t (va_rf q) = true) (kk : G E X pc' ls st T gi (gu gr a fk r) k n Q) : G E X pc ls (v :: .ref a :: st) T gi gr k n Q := by
  subst hv
  exact G_putV (gi' := gi) (gr' := gu gr a fk r) f hfin hd ht (hn r) (hfit r) (fun q hq => ⟨rfl, gu_off hq⟩) (fun Tb j h => gfv_R h) kk
theorem nr_o (C : String) (q : Option Nat) : narrow (.object C) (va_rf q) = va_rf q := by cases q <;> rfl
theorem ft_o (C : String) (q : Option Nat) : fits (.object C) (va_rf q) = true := by cases q <;> rfl
theorem nr_a (t : FieldType) (q : Option Nat) : narrow (.array t) (va_rf q) = va_rf q := by cases q <;> rfl
theorem ft_a (t : FieldType) (q : Option Nat) : fits (.array t) (va_rf q) = true := by cases q <;> rfl
theorem nr_z {x : Int32} (h : x = 0 ∨ x = 1) : narrow .boolean (.int x) = .int x := by rcases h with rfl | rfl <;> decide +kernel
theorem ft_z {x : Int32} (h : x = 0 ∨ x = 1) : fits .boolean (.int x) = true := by rcases h with rfl | rfl <;> decide +kernel
theorem gK_arr {s : State} (hK : gK E s) {q : Nat} (hq : q < 5) : ArrOfT s (E.2.2.1 q) (gAT q) ∧ va_RA s (E.2.2.1 q) (gAT q) := by
  have h := hK.1.2 q (E.2.2.1 q, gAT q)
  have e : (gTys E)[q]? = some (E.2.2.1 q, gAT q) := by
    match q, hq with
    | 0, _ => rfl
    | 1, _ => rfl
    | 2, _ => rfl
    | 3, _ => rfl
    | 4, _ => rfl
  exact h e
theorem G_iald {a : Nat} {i : Int32} (hd : gD X pc .iaload 1 pc') (ht : T.1 a = 100) (hin : vp_in i (T.2.1 a)) (kk : G E X pc' ls (.int (gi a i.toNatClampNeg) :: st) T gi gr k n Q) : G E X pc ls (.int i :: .ref a :: st) T gi gr k n Q := by
  obtain ⟨hd, rfl⟩ := hd
  intro p e s m args below meth c Z hc hr H locs lsA hl hw hf
  obtain ⟨hb0, cell, hcell, hat⟩ := hw.1.2.2 a (by rw [ht]; decide)
  have hce := hat.2 0 ht
  subst hce
  have hlt : i.toNatClampNeg < T.2.1 a := Nat.not_le.mp fun q => hin (Or.inr q)
  exact W.iald hc.1 hc.2.1 hcell ((gK_arr hc.2.2.2.2.2.2.2.2 (q := 0) (by decide)).1 _ _) (fun q => by cases q) (by rw [arrV_size]; exact hin) (by rw [arrV_read _ _ hlt]; rfl) rfl rfl hd (kk p e s m args below meth c Z hc hr H locs lsA hl hw hf)
theorem G_zald {a : Nat} {i : Int32} (hd : gD X pc .baload 1 pc') (ht : T.1 a = 101) (hin : vp_in i (T.2.1 a)) (kk : G E X pc' ls (.int (gi a i.toNatClampNeg) :: st) T gi gr k n Q) : G E X pc ls (.int i :: .ref a :: st) T gi gr k n Q := by
  obtain ⟨hd, rfl⟩ := hd
  intro p e s m args below meth c Z hc hr H locs lsA hl hw hf
  obtain ⟨hb0, cell, hcell, hat⟩ := hw.1.2.2 a (by rw [ht]; decide)
  have hce := hat.2 1 ht
  subst hce
  have hlt : i.toNatClampNeg < T.2.1 a := Nat.not_le.mp fun q => hin (Or.inr q)
  exact W.zald hc.1 hc.2.1 hcell ((gK_arr hc.2.2.2.2.2.2.2.2 (q := 1) (by decide)).1 _ _) (fun q => by cases q) (by rw [arrV_size]; exact hin) (by rw [arrV_read _ _ hlt]; rfl) rfl rfl hd (kk p e s m args below meth c Z hc hr H locs lsA hl hw hf)
theorem G_aald (t : Nat) {a : Nat} {i : Int32} (hd : gD X pc .aaload 1 pc') (h2 : 2 ≤ t ∧ t < 5) (ht : T.1 a = 100 + t) (hin : vp_in i (T.2.1 a)) (kk : G E X pc' ls (va_rf (gr a i.toNatClampNeg) :: st) T gi gr k n Q) : G E X pc ls (.int i :: .ref a :: st) T gi gr k n Q := by
  obtain ⟨hd, rfl⟩ := hd
  intro p e s m args below meth c Z hc hr H locs lsA hl hw hf
  obtain ⟨hb0, cell, hcell, hat⟩ := hw.1.2.2 a (by rw [ht]; omega)
  have hce := hat.2 t ht
  subst hce
  have hlt : i.toNatClampNeg < T.2.1 a := Nat.not_le.mp fun q => hin (Or.inr q)
  have hre : (gAT t).isReference = true := by
    match t, h2 with
    | 2, _ => rfl
    | 3, _ => rfl
    | 4, _ => rfl
  exact W.aald hc.1 hc.2.1 hcell ((gK_arr hc.2.2.2.2.2.2.2.2 (q := t) h2.2).1 _ _) hre (fun q => by cases q) (by rw [arrV_size]; exact hin) (by rw [arrV_read _ _ hlt]; simp only [gav]; rw [if_neg (by omega)]) rfl rfl hd (kk p e s m args below meth c Z hc hr H locs lsA hl hw hf)
theorem G_aalds (t : Nat) {a q : Nat} {i : Int32} (hd : gD X pc .aaload 1 pc') (h2 : 2 ≤ t ∧ t < 5) (ht : T.1 a = 100 + t) (hin : vp_in i (T.2.1 a)) (hq : gr a i.toNatClampNeg = some q) (kk : G E X pc' ls (.ref q :: st) T gi gr k n Q) : G E X pc ls (.int i :: .ref a :: st) T gi gr k n Q := G_aald t hd h2 ht hin (by rw [hq]; exact kk)
theorem G_alen (t : Nat) {a : Nat} {v : Int32} (hd : gD X pc .arraylength 1 pc') (h2 : t < 5) (ht : T.1 a = 100 + t) (hv : Int32.ofNat (T.2.1 a) = v) (kk : G E X pc' ls (.int v :: st) T gi gr k n Q) : G E X pc ls (.ref a :: st) T gi gr k n Q := by
  obtain ⟨hd, rfl⟩ := hd
  intro p e s m args below meth c Z hc hr H locs lsA hl hw hf
  obtain ⟨hb0, cell, hcell, hat⟩ := hw.1.2.2 a (by rw [ht]; omega)
  have hce := hat.2 t ht
  subst hce
  exact W.alen hc.1 hc.2.1 hcell ((gK_arr hc.2.2.2.2.2.2.2.2 (q := t) h2).1 _ _) (by rw [arrV_size]; exact hv) rfl rfl hd (kk p e s m args below meth c Z hc hr H locs lsA hl hw hf)
theorem G_sald {i : Int32} (hd : gD X pc .iaload 1 pc') (hin : vp_in i E.2.2.2.2.1) (kk : G E X pc' ls (.int (E.2.2.2.2.2.1 i.toNatClampNeg) :: st) T gi gr k n Q) : G E X pc ls (.int i :: .ref E.2.2.2.1 :: st) T gi gr k n Q := by
  obtain ⟨hd, rfl⟩ := hd
  intro p e s m args below meth c Z hc hr H locs lsA hl hw hf
  obtain ⟨scr, h1, h2, h3, h4, h5⟩ := hw.2.1
  have hlt : i.toNatClampNeg < E.2.2.2.2.1 := Nat.not_le.mp fun q => hin (Or.inr q)
  exact W.iald hc.1 hc.2.1 h1 h2 h3 (by rw [h4]; exact hin) (h5 _ hlt) rfl rfl hd (kk p e s m args below meth c Z hc hr H locs lsA hl hw hf)
theorem G_slen {v : Int32} (hd : gD X pc .arraylength 1 pc') (hv : Int32.ofNat E.2.2.2.2.1 = v) (kk : G E X pc' ls (.int v :: st) T gi gr k n Q) : G E X pc ls (.ref E.2.2.2.1 :: st) T gi gr k n Q := by
  obtain ⟨hd, rfl⟩ := hd
  intro p e s m args below meth c Z hc hr H locs lsA hl hw hf
  obtain ⟨scr, h1, h2, h3, h4, h5⟩ := hw.2.1
  exact W.alen hc.1 hc.2.1 h1 h2 (by rw [h4]; exact hv) rfl rfl hd (kk p e s m args below meth c Z hc hr H locs lsA hl hw hf)
theorem gav_I {q : Nat} {fi : gI} {fr : Nat → Option Nat} {a j : Nat} {x : Int32} (hq : q < 2) : updV (gav q (fi a) fr) j (.int x) = gav q (gu fi a j x a) fr := by
  funext i
  simp only [updV, gav, gu, if_pos hq]
  by_cases h : i = j <;> simp [h]
theorem gav_R {q : Nat} {fi : Nat → Int32} {fr : gR} {a j : Nat} {x : Option Nat} (hq : ¬ q < 2) : updV (gav q fi (fr a)) j (va_rf x) = gav q fi (gu fr a j x a) := by
  funext i
  simp only [updV, gav, gu, if_neg hq]
  by_cases h : i = j <;> simp [h]
theorem G_iast {a : Nat} {i x : Int32} (hd : gD X pc .iastore 1 pc') (ht : T.1 a = 100) (hin : vp_in i (T.2.1 a)) (kk : G E X pc' ls st T (gu gi a i.toNatClampNeg x) gr k n Q) : G E X pc ls (.int x :: .int i :: .ref a :: st) T gi gr k n Q := by
  obtain ⟨hd, rfl⟩ := hd
  intro p e s m args below meth c Z hc hr H locs lsA hl hw hf
  obtain ⟨hb0, cell, hcell, hat⟩ := hw.1.2.2 a (by rw [ht]; decide)
  have hce := hat.2 0 ht
  subst hce
  refine W.iast hc.1 hc.2.1 hcell ((gK_arr hc.2.2.2.2.2.2.2.2 (q := 0) (by decide)).1 _ _) (fun q => by cases q) (by rw [arrV_size]; exact hin) rfl rfl hd fun H1 e1 z oq => ?_
  rw [arrV_store, gav_I (by decide)] at e1
  exact kk p e s m args below meth c Z hc hr H1 _ lsA hl (gW_to hw (gMem_arr (t := 0) hw.1 ht (fun q hq => ⟨gu_off hq, rfl⟩) e1 z oq) (oq _ (Nat.ne_of_lt (Nat.lt_of_lt_of_le hw.2.2 hb0)))) (gLocs hf hb0)
theorem G_zast {a : Nat} {i x : Int32} (hd : gD X pc .bastore 1 pc') (ht : T.1 a = 101) (hin : vp_in i (T.2.1 a)) (hx : x = 0 ∨ x = 1) (kk : G E X pc' ls st T (gu gi a i.toNatClampNeg x) gr k n Q) : G E X pc ls (.int x :: .int i :: .ref a :: st) T gi gr k n Q := by
  obtain ⟨hd, rfl⟩ := hd
  intro p e s m args below meth c Z hc hr H locs lsA hl hw hf
  obtain ⟨hb0, cell, hcell, hat⟩ := hw.1.2.2 a (by rw [ht]; decide)
  have hce := hat.2 1 ht
  subst hce
  refine W.zast hc.1 hc.2.1 hcell ((gK_arr hc.2.2.2.2.2.2.2.2 (q := 1) (by decide)).1 _ _) (fun q => by cases q) (by rw [arrV_size]; exact hin) rfl rfl hd fun H1 e1 z oq => ?_
  rw [nr_z hx, arrV_store, gav_I (by decide)] at e1
  exact kk p e s m args below meth c Z hc hr H1 _ lsA hl (gW_to hw (gMem_arr (t := 1) hw.1 ht (fun q hq => ⟨gu_off hq, rfl⟩) e1 z oq) (oq _ (Nat.ne_of_lt (Nat.lt_of_lt_of_le hw.2.2 hb0)))) (gLocs hf hb0)
theorem G_aast (t : Nat) {a v ci : Nat} {i : Int32} {C : String} {Tb : u_T} {N : Nat} (hd : gD X pc .aastore 1 pc') (h2 : t = 2 ∨ t = 3) (ht : T.1 a = 100 + t) (hin : vp_in i (T.2.1 a)) (hv : T.1 v = ci + 1) (hcl : vwCl[ci]? = some (C, Tb, N)) (hC : gAT t = .object C) (kk : G E X pc' ls st T gi (gu gr a i.toNatClampNeg (some v)) k n Q) : G E X pc ls (.ref v :: .int i :: .ref a :: st) T gi gr k n Q := by
  obtain ⟨hd, rfl⟩ := hd
  intro p e s m args below meth c Z hc hr H locs lsA hl hw hf
  obtain ⟨hb0, cell, hcell, hat⟩ := hw.1.2.2 a (by rw [ht]; omega)
  have hce := hat.2 t ht
  subst hce
  obtain ⟨hb1, cellV, g1, hatV⟩ := hw.1.2.2 v (by rw [hv]; exact Nat.succ_ne_zero _)
  obtain ⟨g2, g3, -⟩ := hatV.1 ci _ hv hcl
  have hK := hc.2.2.2.2.2.2.2.2
  have hcls := (hK.1.1 ci _ hcl).2
  have hra := (gK_arr hK (q := t) (by omega)).2
  rw [hC] at hra
  obtain ⟨kA, comp, k1, k2, k3, -⟩ := hra
  have hcomp : comp = E.2.1.1 ci := Option.some.inj (k3.symm.trans hcls.1)
  subst hcomp
  obtain ⟨kC, hkC, -⟩ := hcls.2
  have hlt : i.toNatClampNeg < T.2.1 a := Nat.not_le.mp fun q => hin (Or.inr q)
  refine W.aast hc.1 hc.2.1 hcell (fun q h => by cases h) (fun h => by cases h) k1 k2 rfl hkC ⟨fun q => hin (Or.inl q), by rw [arrV_size]; exact hlt⟩ g1 (fun q h => by rw [g3] at h; cases h) (by rw [g2]; exact hkC) (by rw [g2]; exact va_assign hcls) rfl rfl hd fun H1 e1 z oq => ?_
  rw [arrV_store, show (Value.ref v) = va_rf (some v) from rfl, gav_R (by omega)] at e1
  exact kk p e s m args below meth c Z hc hr H1 _ lsA hl (gW_to hw (gMem_arr (t := t) hw.1 ht (fun q hq => ⟨rfl, gu_off hq⟩) e1 z oq) (oq _ (Nat.ne_of_lt (Nat.lt_of_lt_of_le hw.2.2 hb0)))) (gLocs hf hb0)
theorem G_aastN (t : Nat) {a : Nat} {i : Int32} {C : String} (hd : gD X pc .aastore 1 pc') (h2 : t = 2 ∨ t = 3) (ht : T.1 a = 100 + t) (hin : vp_in i (T.2.1 a)) (hC : gAT t = .object C) (kk : G E X pc' ls st T gi (gu gr a i.toNatClampNeg none) k n Q) : G E X pc ls (.null :: .int i :: .ref a :: st) T gi gr k n Q := by
  obtain ⟨hd, rfl⟩ := hd
  intro p e s m args below meth c Z hc hr H locs lsA hl hw hf
  obtain ⟨hb0, cell, hcell, hat⟩ := hw.1.2.2 a (by rw [ht]; omega)
  have hce := hat.2 t ht
  subst hce
  have har := (gK_arr hc.2.2.2.2.2.2.2.2 (q := t) (by omega)).1
  rw [hC] at har
  refine va_WaastN (C := C) hc.1 hc.2.1 hcell (har _ _) (fun h => by cases h) (by rw [arrV_size]; exact hin) rfl rfl hd fun H1 e1 z oq => ?_
  rw [arrV_store, show (Value.null) = va_rf none from rfl, gav_R (by omega)] at e1
  exact kk p e s m args below meth c Z hc hr H1 _ lsA hl (gW_to hw (gMem_arr (t := t) hw.1 ht (fun q hq => ⟨rfl, gu_off hq⟩) e1 z oq) (oq _ (Nat.ne_of_lt (Nat.lt_of_lt_of_le hw.2.2 hb0)))) (gLocs hf hb0)
theorem gav_0 (q n : Nat) (cA : ClassId) (hq : q < 5) : arrV cA n (fun _ => defaultValue (gAT q)) = arrV cA n (gav q (fun _ => 0) (fun _ => none)) := by
  congr 1
  funext j
  match q, hq with
  | 0, _ => rfl
  | 1, _ => rfl
  | 2, _ => rfl
  | 3, _ => rfl
  | 4, _ => rfl
theorem gAt_arr {q len : Nat} {cell : Cell} {fi : Nat → Int32} {fr : Nat → Option Nat} (h : cell = arrV (E.2.2.1 q) len (gav q fi fr)) : gAt E (100 + q) len fi fr cell := by
  refine ⟨fun ci r e1 e2 => ?_, fun q' e => ?_⟩
  · have := vwCl_lt e2
    omega
  · have : q' = q := by omega
    subst this
    exact h
theorem G_newa (q : Nat) {ty : ArrayType} {x : Int32} {len : Nat} (hd : gD X pc (.newarray ty) 2 pc') (hq : q < 2) (hty : newarray.typeOf ty = gAT q) (hwd : Cond.arrayClass (newarray.typeOf ty) ∈ gTbl) (hx : ¬ x < 0) (hN : x.toNatClampNeg = len) (hlen : len ≤ 100000) (hk : k + 1 ≤ X.2.2.2.2.cells) (hn : n + len ≤ X.2.2.2.2.slots)
    (kk : G E X pc' ls (.ref T.2.2 :: st) (gNew T (100 + q) len) (gup gi T.2.2 (fun _ => 0)) (gup gr T.2.2 (fun _ => none)) (k + 1) (n + len) Q) : G E X pc ls (.int x :: st) T gi gr k n Q := by
  obtain ⟨hd, rfl⟩ := hd
  intro p e s m args below meth c Z hc hr H locs lsA hl hw hf
  have hbytes : len * componentBytes (newarray.typeOf ty) ≤ 536870912 := by
    have : componentBytes (newarray.typeOf ty) ≤ 8 := by cases ty <;> decide
    calc len * componentBytes (newarray.typeOf ty) ≤ 100000 * 8 := Nat.mul_le_mul hlen this
      _ ≤ 536870912 := by decide
  refine va_newaK hc.1 hc.2.1 (hc.2.2.2.2.2.2.1 _ hwd) rfl hd rfl hx hN hbytes hk hn rfl fun H1 cA e1 z1 o1 hAr hNm => ?_
  have hra := (gK_arr hc.2.2.2.2.2.2.2.2 (q := q) (by omega)).2
  have hcA : cA = E.2.2.1 q := by
    rw [hty] at hNm
    have h2 : s.vm.findClass ("[" ++ (gAT q).toString) = some (E.2.2.1 q) := by
      match q, hq with
      | 0, _ => exact hra
      | 1, _ => exact hra
    exact Option.some.inj (hNm.symm.trans h2)
  subst hcA
  rw [hty, gav_0 q len _ (by omega)] at e1
  have := kk p e s m args below meth c Z hc hr H1 locs lsA hl (gW_to hw (gMem_new hw.1 e1 z1 o1 (gAt_arr rfl)) (o1 _ (by rw [hw.1.1]; exact Nat.lt_of_lt_of_le hw.2.2 hw.1.2.1))) hf
  rw [hw.1.1]
  exact this
theorem G_anew (q : Nat) {idx : Nat} {C : String} {x : Int32} {len : Nat} (hd : gD X pc (.anewarray idx) 3 pc') (hq : q = 2 ∨ q = 3) (hC : gAT q = .object C) (hwd : Cond.classLink X.1.cls idx C ∈ gTbl) (hx : ¬ x < 0) (hN : x.toNatClampNeg = len) (hlen : len ≤ 100000) (hk : k + 1 ≤ X.2.2.2.2.cells) (hn : n + len ≤ X.2.2.2.2.slots)
    (kk : G E X pc' ls (.ref T.2.2 :: st) (gNew T (100 + q) len) (gup gi T.2.2 (fun _ => 0)) (gup gr T.2.2 (fun _ => none)) (k + 1) (n + len) Q) : G E X pc ls (.int x :: st) T gi gr k n Q := by
  obtain ⟨hd, rfl⟩ := hd
  intro p e s m args below meth c Z hc hr H locs lsA hl hw hf
  subst hN
  have hK := hc.2.2.2.2.2.2.2.2
  have hover : va_AO C s := by
    rcases hq with rfl | rfl
    · cases hC; exact hK.2.2.1
    · cases hC; exact hK.2.2.2.1
  refine W.anew hc.1 hc.2.1 hc.2.2.2.2.2.1 (hc.2.2.2.2.2.2.1 _ hwd) (va_AO.use hover) rfl hd rfl hx (by omega) hk hn fun cA kA comp f1 f2 f3 f4 => ?_
  have hra := (gK_arr hK (q := q) (by omega)).2
  rw [hC] at hra
  obtain ⟨kA', comp', k1, k2, k3, k4⟩ := hra
  have hcA : cA = E.2.2.1 q := Option.some.inj (f1.symm.trans k4)
  subst hcA
  generalize hH1 : H.push ({ cls := E.2.2.1 q, slots := Array.replicate x.toNatClampNeg .null, vm := .none } : Cell) = H1
  have z1 : H1.size = H.size + 1 := by rw [← hH1, Array.size_push]
  have e1 : H1[H.size]? = some (arrV (E.2.2.1 q) x.toNatClampNeg (gav q (fun _ => 0) (fun _ => none))) := by
    rw [← hH1, Array.getElem?_push_size, arrV_new, ← gav_0 q _ _ (by omega), hC]
    rfl
  have o1 : ∀ q : Nat, q < H.size → H1[q]? = H[q]? := fun q hq => by rw [← hH1, Array.getElem?_push, if_neg (Nat.ne_of_lt hq)]
  have := kk p e s m args below meth c Z hc hr H1 locs lsA hl (gW_to hw (gMem_new hw.1 e1 z1 o1 (gAt_arr rfl)) (o1 _ (by rw [hw.1.1]; exact Nat.lt_of_lt_of_le hw.2.2 hw.1.2.1))) hf
  rw [hw.1.1]
  exact this
def gNw (own : String) (idx ci N : Nat) : Prop := ∃ (C : String) (Tb : u_T) (ty : Nat → FieldType), gCls ci C Tb N ty ∧ (∀ k, k < N → defaultValue (ty k) = gfv Tb k (fun _ => 0) (fun _ => none)) ∧ Cond.classLink own idx C ∈ gTbl ∧ Cond.instantiable C N ∈ gTbl ∧ Cond.initialized C ∈ gTbl
theorem G_new {idx ci N : Nat} (f : gNw X.1.cls idx ci N) (hd : gD X pc (.new idx) 3 pc') (hk : k + 1 ≤ X.2.2.2.2.cells) (hn : n + N ≤ X.2.2.2.2.slots)
    (kk : G E X pc' ls (.ref T.2.2 :: st) (gNew T (ci + 1) 0) (gup gi T.2.2 (fun _ => 0)) (gup gr T.2.2 (fun _ => none)) (k + 1) (n + N) Q) : G E X pc ls st T gi gr k n Q := by
  obtain ⟨C, Tb, ty, ⟨hcl, hin, hty, hnm⟩, hdf, w1, w2, w3⟩ := f
  obtain ⟨hd, rfl⟩ := hd
  intro p e s m args below meth c Z hc hr H locs lsA hl hw hf
  have hts := hc.2.2.2.2.2.2.1
  have hK := hc.2.2.2.2.2.2.2.2
  have hKn := hK.1.1 ci _ hcl
  refine W.newcK hc.1 hc.2.1 hc.2.2.2.2.2.1 (hts _ w1) (hts _ w2) (hts _ w3) rfl hd hk hn hKn.2.1 rfl fun H1 kC hkC e1 z1 o1 => ?_
  obtain ⟨cell, g1, g2, g3, g4⟩ := u_born ty hts hin hKn hkC e1 hty
  have hat : gAt E (ci + 1) 0 (fun _ => 0) (fun _ => none) cell := by
    refine ⟨fun ci' r a1 a2 => ?_, fun q a1 => ?_⟩
    · have : ci' = ci := by omega
      subst this
      rw [hcl] at a2
      cases a2
      exact ⟨g2, g3, fun j hj => by rw [g4 j hj]; exact congrArg some (hdf j hj)⟩
    · have := vwCl_lt hcl
      omega
  have := kk p e s m args below meth c Z hc hr H1 locs lsA hl (gW_to hw (gMem_new hw.1 g1 z1 o1 hat) (o1 _ (by rw [hw.1.1]; exact Nat.lt_of_lt_of_le hw.2.2 hw.1.2.1))) hf
  rw [hw.1.1]
  exact this
theorem G_objInit {idx a : Nat} (w1 : Cond.methodLink X.1.cls idx objectInit ∈ gTbl) (w2 : Cond.instanceMethod objectInit ∈ gTbl) (w3 : Cond.code objectInit ⟨#[0xb1]⟩ 1 none ∈ gTbl) (hd : gD X pc (.invokespecial idx) 3 pc') (hfr : 1 ≤ X.2.2.2.2.frames) (hlo : (st.map fun v => v.category).sum + 12 ≤ X.2.2.2.2.locals) (kk : G E X pc' ls st T gi gr k n Q) : G E X pc ls (.ref a :: st) T gi gr k n Q := by
  obtain ⟨hd, rfl⟩ := hd
  intro p e s m args below meth c Z hc hr H locs lsA hl hw hf
  have hts := hc.2.2.2.2.2.2.1
  exact W.objInit hc.1 hc.2.1 hc.2.2.2.2.2.1 (hts _ w1) (hts _ w2) (hts _ w3) rfl (by rw [hc.2.2.1]; exact hl.1) rfl hd hfr (by show 2 * 0 + _ + 12 ≤ _; omega) (kk p e s m args below meth c Z hc hr H locs lsA hl hw hf)
theorem G_mmax {idx : Nat} {x y : Int32} (w1 : Cond.methodLink X.1.cls idx Lib.Math.max.name ∈ gTbl) (w2 : Cond.static Lib.Math.max.name ∈ gTbl) (w3 : Cond.initialized "java/lang/Math" ∈ gTbl) (w4 : Cond.code Lib.Math.max.name Lib.Math.max.code 2 (some .int) ∈ gTbl) (hd : gD X pc (.invokestatic idx) 3 pc') (hfr : 1 ≤ X.2.2.2.2.frames) (hlo : (st.map fun v => v.category).sum + 13 ≤ X.2.2.2.2.locals) (hk : k ≤ X.2.2.2.2.cells) (hn : n ≤ X.2.2.2.2.slots) (kk : G E X pc' ls (.int (if x < y then y else x) :: st) T gi gr k n Q) : G E X pc ls (.int y :: .int x :: st) T gi gr k n Q := by
  obtain ⟨hd, rfl⟩ := hd
  intro p e s m args below meth c Z hc hr H locs lsA hl hw hf
  have hts := hc.2.2.2.2.2.2.1
  exact va_mmax hc.1 hc.2.1 (by rw [hc.2.2.1]; exact hl.1.symm) hc.2.2.2.2.2.1 (hts _ w1) (hts _ w2) (hts _ w3) (hts _ w4) hfr hlo hk hn hd (kk p e s m args below meth c Z hc hr H locs lsA hl hw hf)
theorem G_mmin {idx : Nat} {x y : Int32} (w1 : Cond.methodLink X.1.cls idx Lib.Math.min.name ∈ gTbl) (w2 : Cond.static Lib.Math.min.name ∈ gTbl) (w3 : Cond.initialized "java/lang/Math" ∈ gTbl) (w4 : Cond.code Lib.Math.min.name Lib.Math.min.code 2 (some .int) ∈ gTbl) (hd : gD X pc (.invokestatic idx) 3 pc') (hfr : 1 ≤ X.2.2.2.2.frames) (hlo : (st.map fun v => v.category).sum + 13 ≤ X.2.2.2.2.locals) (hk : k ≤ X.2.2.2.2.cells) (hn : n ≤ X.2.2.2.2.slots) (kk : G E X pc' ls (.int (if y < x then y else x) :: st) T gi gr k n Q) : G E X pc ls (.int y :: .int x :: st) T gi gr k n Q := by
  obtain ⟨hd, rfl⟩ := hd
  intro p e s m args below meth c Z hc hr H locs lsA hl hw hf
  have hts := hc.2.2.2.2.2.2.1
  exact va_mmin hc.1 hc.2.1 (by rw [hc.2.2.1]; exact hl.1.symm) hc.2.2.2.2.2.1 (hts _ w1) (hts _ w2) (hts _ w3) (hts _ w4) hfr hlo hk hn hd (kk p e s m args below meth c Z hc hr H locs lsA hl hw hf)
theorem G_mabs {idx : Nat} {x : Int32} (w1 : Cond.methodLink X.1.cls idx Lib.Math.abs.name ∈ gTbl) (w2 : Cond.static Lib.Math.abs.name ∈ gTbl) (w3 : Cond.initialized "java/lang/Math" ∈ gTbl) (w4 : Cond.code Lib.Math.abs.name Lib.Math.abs.code 1 (some .int) ∈ gTbl) (hd : gD X pc (.invokestatic idx) 3 pc') (hfr : 1 ≤ X.2.2.2.2.frames) (hlo : (st.map fun v => v.category).sum + 13 ≤ X.2.2.2.2.locals) (hk : k ≤ X.2.2.2.2.cells) (hn : n ≤ X.2.2.2.2.slots) (kk : G E X pc' ls (.int (if 0 ≤ x then x else 0 - x) :: st) T gi gr k n Q) : G E X pc ls (.int x :: st) T gi gr k n Q := by
  obtain ⟨hd, rfl⟩ := hd
  intro p e s m args below meth c Z hc hr H locs lsA hl hw hf
  have hts := hc.2.2.2.2.2.2.1
  exact va_mabs hc.1 hc.2.1 (by rw [hc.2.2.1]; exact hl.1.symm) hc.2.2.2.2.2.1 (hts _ w1) (hts _ w2) (hts _ w3) (hts _ w4) hfr hlo hk hn hd (kk p e s m args below meth c Z hc hr H locs lsA hl hw hf)
end GF
def Ct (E : gE) (X : gX) (As : List Value) (T : gT) (gi : gI) (gr : gR) (Q : gQ) : Prop :=
  Met E.1 X.1 (gws X) X.2.2.2.2 (fun a U => a = As.toArray ∧ gW E T gi gr U U.heap ∧ gK E U) (fun _ _ o t => ∃ (T' : gT) (gi' : gI) (gr' : gR) (v : Option Value), o = .returned v ∧ Q T' gi' gr' v ∧ gW E T' gi' gr' t t.heap ∧ gK E t) X.2.2.2.2.cells X.2.2.2.2.slots (fun q => gbase E ≤ q)
theorem gK_warm {E : gE} {s U : State} (hW : s.WarmedH U.vm) (h : gK E s) : gK E U := by
  obtain ⟨h1, h2, h3, h4, h5⟩ := h
  exact ⟨va_K.moved hW.alike h1, gNest_warm hW h2, va_AO.moved hW.alike h3, va_AO.moved hW.alike h4, over_moved hW.alike h5⟩
theorem gK_call {E : gE} {U : State} {g : JFrame} {mk : MethodId} {a : Array Value} (h : gK E U) : gK E (U.calling g mk a) := by
  obtain ⟨h1, h2, h3, h4, h5⟩ := h
  exact ⟨va_K.moved (u := U) (U := U.calling g mk a) (Vm.Alike.refl U.vm) h1, fun w hw => gNest_same hw (rfl : U.vm = (U.calling g mk a).vm) (h2 w hw), va_AO.moved (u := U) (U := U.calling g mk a) (Vm.Alike.refl U.vm) h3, va_AO.moved (u := U) (U := U.calling g mk a) (Vm.Alike.refl U.vm) h4, over_moved (u := U) (E := U.calling g mk a) (Vm.Alike.refl U.vm) h5⟩
theorem gW_moved {E : gE} {T : gT} {gi : gI} {gr : gR} {u U : State} {H : Heap} (hvm : u.vm.Alike U.vm) (h : gW E T gi gr u H) : gW E T gi gr U H := ⟨h.1, h.2.1.moved hvm, h.2.2⟩
theorem lv_args_in : ∀ (As : List Value) (i : Nat), (∀ v ∈ As, v.category = 1) → ∀ (j : Nat) (v : Value), As[j]? = some v → (i + j, v) ∈ lv_args i As
  | [], i, _, j, v, h => by simp at h
  | a :: As, i, hc, j, v, h => by
    have ha : a.category = 1 := hc a List.mem_cons_self
    cases j with
    | zero =>
      rw [List.getElem?_cons_zero] at h
      cases h
      exact List.mem_cons_self
    | succ j =>
      rw [List.getElem?_cons_succ] at h
      refine List.mem_cons_of_mem _ ?_
      rw [if_neg (by omega), show i + (j + 1) = (i + 1) + j by omega]
      exact lv_args_in As (i + 1) (fun v hv => hc v (List.mem_cons_of_mem _ hv)) j v h
theorem lg_sl_len : ∀ (As : List Value), (∀ v ∈ As, v.category = 1) → (lg_sl As).length = As.length
  | [], _ => rfl
  | a :: As, hc => by
    have ha : a.category = 1 := hc a List.mem_cons_self
    have ih := lg_sl_len As (fun v hv => hc v (List.mem_cons_of_mem _ hv))
    simp only [lg_sl, List.flatMap_cons, ha] at ih ⊢
    simp [ih]
theorem gL_entry {As : List Value} {nL : Nat} (hc : ∀ v ∈ As, v.category = 1) (hl : As.length ≤ nL) : gL (As ++ List.replicate (nL - As.length) (.long 0)) nL ((lg_sl As ++ List.replicate (nL - (lg_sl As).length) Slot.unset).toArray) := by
  refine gL_of (lv_entry As (by rw [lg_sl_len As hc]; exact hl)) fun q hq => ?_
  obtain ⟨j, v⟩ := q
  obtain ⟨h1, h2⟩ := gl_mem.mp hq
  by_cases hj : j < As.length
  · rw [List.getElem?_append_left hj] at h1
    have := lv_args_in As 0 hc j v h1
    rwa [Nat.zero_add] at this
  · rw [List.getElem?_append_right (by omega), List.getElem?_replicate] at h1
    split at h1
    · cases h1; cases h2
    · cases h1
theorem Ct_of {E : gE} {X : gX} {As ls : List Value} {T : gT} {gi : gI} {gr : gR} {Q : gQ} (hpl : plainName X.1.cls = true) (hcat : ∀ v ∈ As, v.category = 1) (hl : As.length ≤ X.2.2.1) (hls : As ++ List.replicate (X.2.2.1 - As.length) (.long 0) = ls) (hG : G E X 0 ls [] T gi gr 0 0 Q) : Ct E X As T gi gr Q := by
  subst hls
  refine Met.ofW (cc := X.2.1) (maxL := X.2.2.1) (ret := X.2.2.2.1) hpl rfl ?_
  intro p e s m args below meth c s₁ B hml hv
  obtain ⟨rfl, hW, hK⟩ := hv
  have hts := atoms_spec (ws := gws X) B.pre
  rw [lg_entry_eq]
  have hlocks := B.notSynchronized
  refine hG p e s m _ below meth c _ ⟨B.exec, B.bytes, hml, B.returns, hlocks, findClass_of_methodNamed B.named, fun w hw => hts w (List.mem_cons_of_mem _ hw), (name_of_methodNamed B.named B.method).1, hK⟩ ?_ s.heap [] _ (gL_entry hcat hl) hW (fun q hq => by cases hq)
  intro T' gi' gr' v H' locs' lsA pc' hq hw hf hrt
  have fin : ∀ t : State, t.heap = H' → s.WarmedH t.vm → ∃ (T' : gT) (gi' : gI) (gr' : gR) (v' : Option Value), (Outcome.returned v) = .returned v' ∧ Q T' gi' gr' v' ∧ gW E T' gi' gr' t t.heap ∧ gK E t := fun t ht hwm => ⟨T', gi', gr', v, rfl, hq, by rw [ht]; exact gW_moved hwm.alike hw, gK_warm hwm hK⟩
  have hret := B.returns
  cases v with
  | none => exact W.vret B.exec B.bytes (by rw [hret]; exact hrt.2) fin hf hrt.1
  | some v =>
    cases v with
    | int x =>
      obtain ⟨h1, ty, h2, h3⟩ := hrt
      exact W.zret B.exec B.bytes (by rw [hret]; exact h2) h3 fin hf h1
    | null =>
      obtain ⟨h1, h2, C, h3⟩ := hrt
      exact W.aret B.exec B.bytes (by rw [hret]; exact h3) (Or.inl ⟨C, rfl⟩) h2 fin hf h1
    | ref a =>
      obtain ⟨h1, h2, C, h3⟩ := hrt
      exact W.aret B.exec B.bytes (by rw [hret]; exact h3) (Or.inl ⟨C, rfl⟩) h2 fin hf h1
    | long x => obtain ⟨h1, h2, C, h3⟩ := hrt; rcases h2 with h2 | ⟨a, h2⟩ <;> cases h2
    | float x => obtain ⟨h1, h2, C, h3⟩ := hrt; rcases h2 with h2 | ⟨a, h2⟩ <;> cases h2
    | double x => obtain ⟨h1, h2, C, h3⟩ := hrt; rcases h2 with h2 | ⟨a, h2⟩ <;> cases h2
    | retAddr x => obtain ⟨h1, h2, C, h3⟩ := hrt; rcases h2 with h2 | ⟨a, h2⟩ <;> cases h2
section GC
variable {E : gE} {X Y : gX} {pc pc' : Nat} {ls st : List Value} {T : gT} {gi : gI} {gr : gR} {k n : Nat} {Q Q1 : gQ}
theorem gws_good (X Y : gX) (h : Cond.code Y.1 Y.2.1 Y.2.2.1 Y.2.2.2.1 ∈ gTbl) : GoodIn gTbl (gws Y) := by
  intro w hw
  rcases List.mem_cons.mp hw with rfl | hw
  · exact ⟨h, gGood_or (List.mem_filter.mp h).2⟩
  · exact ⟨hw, gGood_or (List.mem_filter.mp hw).2⟩
def gCall (X Y : gX) (na : Nat) : Prop := Cond.code Y.1 Y.2.1 Y.2.2.1 Y.2.2.2.1 ∈ gTbl ∧ Cond.initialized Y.1.cls ∈ gTbl ∧ (Y.1.cls ≠ "java/lang/invoke/MethodHandle" ∧ Y.1.cls ≠ "java/lang/invoke/VarHandle" ∧ (parseMethodDescriptor Y.1.desc).map (fun d => d.parameters.length) = some na) ∧ Y.2.2.2.2.frames + 1 ≤ X.2.2.2.2.frames ∧ 8 + (Y.2.2.1 + 11) + Y.2.2.2.2.locals ≤ X.2.2.2.2.locals
theorem gBlind {As : List Value} : FrameBlind (fun a U => a = As.toArray ∧ gW E T gi gr U U.heap ∧ gK E U) := fun a U g mk h => ⟨h.1, gW_moved (u := U) (U := U.calling g mk a) (Vm.Alike.refl U.vm) h.2.1, gK_call h.2.2⟩
theorem gPre {s : State} {H : Heap} {As : List Value} (hw : gW E T gi gr s H) (hK : gK E s) : PreS s H (fun a U => a = As.toArray ∧ gW E T gi gr U U.heap ∧ gK E U) As := ⟨gBlind, fun U hU hW => ⟨rfl, by rw [hU]; exact gW_moved hW.alike hw, gK_warm hW hK⟩⟩
theorem G_after {rest : List Value} {p : Program} {e : Env} {s : State} {m : MethodId} {args : Array Value} {below : List Frame} {meth : Method} {c : Code} {Z : State → Prop} {H : Heap} {locs : List Loc} {lsA : Array Slot}
    (hr0 : va_Run p E.1 e X.2.2.2.2 s m args below meth c H locs k n Y.2.2.2.2.cells Y.2.2.2.2.slots (F0 m pc lsA st) rest (fun _ o t => ∃ (T' : gT) (gi' : gI) (gr' : gR) (v : Option Value), o = .returned v ∧ Q1 T' gi' gr' v ∧ gW E T' gi' gr' t t.heap ∧ gK E t) (fun q => gbase E ≤ q))
    (hc : gCx E X p s m args meth c) (hr : ∀ (T' : gT) (gi' : gI) (gr' : gR) (v : Option Value) (H' : Heap) (locs' : List Loc) (lsA : Array Slot) (pc' : Nat), Q T' gi' gr' v → gW E T' gi' gr' s H' → (∀ q ∈ locs', gbase E ≤ q.base) → gRt X pc' v → W p E.1 e X.2.2.2.2 s m args below meth c H' locs' X.2.2.2.2.cells X.2.2.2.2.slots Z (F0 m pc' lsA v.toList)) (hl : gL ls X.2.2.1 lsA) (hf : ∀ q ∈ locs, gbase E ≤ q.base)
    (kk : ∀ T' gi' gr' v, Q1 T' gi' gr' v → G E X (pc + 3) ls (v.toList ++ rest) T' gi' gr' (k + Y.2.2.2.2.cells) (n + Y.2.2.2.2.slots) Q) : W p E.1 e X.2.2.2.2 s m args below meth c H locs k n Z (F0 m pc lsA st) := by
  intro U hU X0
  obtain ⟨v, st₀, t, U', L, h0, X', hL, e1, e2, ⟨T', gi', gr', v', hv, hq, hw', hK'⟩, stp⟩ := hr0 U hU X0
  cases hv
  have hal : t.vm.Alike s.vm := by rw [← e2]; exact X'.warmed.alike.symm
  obtain ⟨t2, a1, b1⟩ := kk T' gi' gr' v hq p e s m args below meth c Z hc hr U'.heap (locs ++ L) lsA hl (by rw [e1]; exact gW_moved hal hw') (fun q hq => by
    rcases List.mem_append.mp hq with h | h
    · exact hf q h
    · exact hL q h) U' rfl X'
  exact ⟨t2, stp t2 a1, b1⟩
theorem G_callV {idx a ci : Nat} {As rest : List Value} {Tb : u_T} {N : Nat} (g : gCall X Y As.length) (w1 : Cond.methodLink X.1.cls idx Y.1 ∈ gTbl) (w2 : Cond.instanceMethod Y.1 ∈ gTbl) (w3 : Cond.selects Y.1.cls Y.1 Y.1 ∈ gTbl) (hcl : vwCl[ci]? = some (Y.1.cls, Tb, N)) (hd : gD X pc (.invokevirtual idx) 3 pc') (hst : st = As.reverse ++ .ref a :: rest) (hrest : (rest.map fun v => v.category).sum ≤ 8) (ht : T.1 a = ci + 1) (hk : k + Y.2.2.2.2.cells ≤ X.2.2.2.2.cells ∧ n + Y.2.2.2.2.slots ≤ X.2.2.2.2.slots) (hC : Ct E Y (.ref a :: As) T gi gr Q1)
    (kk : ∀ T' gi' gr' v, Q1 T' gi' gr' v → G E X pc' ls (v.toList ++ rest) T' gi' gr' (k + Y.2.2.2.2.cells) (n + Y.2.2.2.2.slots) Q) : G E X pc ls st T gi gr k n Q := by
  obtain ⟨g1, g2, g3, g4⟩ := g
  obtain ⟨hd, rfl⟩ := hd
  intro p e s m args below meth c Z hc hr H locs lsA hl hw hf
  have hts := hc.2.2.2.2.2.2.1
  have hK := hc.2.2.2.2.2.2.2.2
  obtain ⟨hb0, cell, hcell, hat⟩ := hw.1.2.2 a (by rw [ht]; exact Nat.succ_ne_zero _)
  obtain ⟨q2, q3, q4⟩ := hat.1 ci _ ht hcl
  refine G_after (Y := Y) (Q1 := Q1) (va_runV (As := As) (rest := rest) (Ts := gTbl) (C := Y.1.cls) ⟨hc.1, hc.2.1, hc.2.2.1, hc.2.2.2.2.2.1, hts⟩ hC ⟨callB_of (ws' := gTbl) As.length hts (gws_good X Y g1) rfl rfl rfl (hts _ g2) (hts _ w1) g3 g4, hts _ w2, hts _ w3⟩ ⟨gBlind, ⟨cell, hcell, by rw [q3]; rfl, by rw [q2]; exact (hK.1.1 ci _ hcl).2.1⟩, (gPre hw hK).2⟩ rfl rfl hl.1 hst (lv_room hrest) hd hk) hc hr hl hf kk
theorem G_callS {idx : Nat} {As rest : List Value} (g : gCall X Y As.length) (w1 : Cond.methodLink X.1.cls idx Y.1 ∈ gTbl) (w2 : Cond.static Y.1 ∈ gTbl) (hd : gD X pc (.invokestatic idx) 3 pc') (hst : st = As.reverse ++ rest) (hrest : (rest.map fun v => v.category).sum ≤ 8) (hk : k + Y.2.2.2.2.cells ≤ X.2.2.2.2.cells ∧ n + Y.2.2.2.2.slots ≤ X.2.2.2.2.slots) (hC : Ct E Y As T gi gr Q1)
    (kk : ∀ T' gi' gr' v, Q1 T' gi' gr' v → G E X pc' ls (v.toList ++ rest) T' gi' gr' (k + Y.2.2.2.2.cells) (n + Y.2.2.2.2.slots) Q) : G E X pc ls st T gi gr k n Q := by
  obtain ⟨g1, g2, g3, g4⟩ := g
  obtain ⟨hd, rfl⟩ := hd
  intro p e s m args below meth c Z hc hr H locs lsA hl hw hf
  have hts := hc.2.2.2.2.2.2.1
  have hK := hc.2.2.2.2.2.2.2.2
  refine G_after (Y := Y) (Q1 := Q1) (va_runS (As := As) (rest := rest) (Ts := gTbl) ⟨hc.1, hc.2.1, hc.2.2.1, hc.2.2.2.2.2.1, hts⟩ hC ⟨callB_of (ws' := gTbl) As.length hts (gws_good X Y g1) rfl rfl rfl (hts _ g2) (hts _ w1) g3 g4, hts _ w2⟩ (gPre hw hK) rfl rfl hl.1 hst (lv_room hrest) hd hk) hc hr hl hf kk
theorem G_callSN {idx : Nat} {host : String} {As rest : List Value} (g : gCall X Y As.length) (w1 : Cond.methodLinkNest X.1.cls idx Y.1 host ∈ gNest) (w2 : Cond.static Y.1 ∈ gTbl) (hd : gD X pc (.invokestatic idx) 3 pc') (hst : st = As.reverse ++ rest) (hrest : (rest.map fun v => v.category).sum ≤ 8) (hk : k + Y.2.2.2.2.cells ≤ X.2.2.2.2.cells ∧ n + Y.2.2.2.2.slots ≤ X.2.2.2.2.slots) (hC : Ct E Y As T gi gr Q1)
    (kk : ∀ T' gi' gr' v, Q1 T' gi' gr' v → G E X pc' ls (v.toList ++ rest) T' gi' gr' (k + Y.2.2.2.2.cells) (n + Y.2.2.2.2.slots) Q) : G E X pc ls st T gi gr k n Q := by
  obtain ⟨g1, g2, g3, g4⟩ := g
  obtain ⟨hd, rfl⟩ := hd
  intro p e s m args below meth c Z hc hr H locs lsA hl hw hf
  have hts := hc.2.2.2.2.2.2.1
  have hK := hc.2.2.2.2.2.2.2.2
  refine G_after (Y := Y) (Q1 := Q1) (va_runSN (As := As) (rest := rest) (Ts := gTbl) ⟨hc.1, hc.2.1, hc.2.2.1, hc.2.2.2.2.2.1, hts⟩ hC ⟨va_cnB (ws' := gTbl) As.length hts (gws_good X Y g1) rfl rfl rfl (hK.2.1 _ w1) (hts _ g2) g3 g4, hts _ w2, trivial⟩ (gPre hw hK) rfl rfl hl.1 hst (lv_room hrest) hd hk) hc hr hl hf kk
theorem G_callI {idx a : Nat} {As rest : List Value} (g : gCall X Y As.length) (w1 : Cond.methodLink X.1.cls idx Y.1 ∈ gTbl) (w2 : Cond.instanceMethod Y.1 ∈ gTbl) (hnm : Y.1.name = "<init>") (hret : Y.2.2.2.1 = none) (hd : gD X pc (.invokespecial idx) 3 pc') (hst : st = As.reverse ++ .ref a :: rest) (hrest : (rest.map fun v => v.category).sum ≤ 8) (hk : k + Y.2.2.2.2.cells ≤ X.2.2.2.2.cells ∧ n + Y.2.2.2.2.slots ≤ X.2.2.2.2.slots) (hC : Ct E Y (.ref a :: As) T gi gr Q1)
    (kk : ∀ T' gi' gr' v, Q1 T' gi' gr' v → G E X pc' ls (v.toList ++ rest) T' gi' gr' (k + Y.2.2.2.2.cells) (n + Y.2.2.2.2.slots) Q) : G E X pc ls st T gi gr k n Q := by
  obtain ⟨g1, g2, g3, g4⟩ := g
  obtain ⟨hd, rfl⟩ := hd
  intro p e s m args below meth c Z hc hr H locs lsA hl hw hf
  have hts := hc.2.2.2.2.2.2.1
  have hK := hc.2.2.2.2.2.2.2.2
  have g1' : Cond.code Y.1 Y.2.1 Y.2.2.1 none ∈ gTbl := by rw [← hret]; exact g1
  refine G_after (Y := Y) (Q1 := Q1) (va_runI (As := As) (rest := rest) (Ts := gTbl) (bytes := Y.2.1) (maxL := Y.2.2.1) ⟨hc.1, hc.2.1, hc.2.2.1, hc.2.2.2.2.2.1, hts⟩ hC ⟨callB_of (ws' := gTbl) As.length hts (gws_good X Y g1) (by unfold gws; rw [hret]) rfl rfl (hts _ g2) (hts _ w1) g3 g4, hnm, hts _ w2⟩ (gPre hw hK) rfl rfl hl.1 hst (lv_room hrest) hd hk) hc hr hl hf kk
theorem G_callIN {idx a : Nat} {host : String} {As rest : List Value} (g : gCall X Y As.length) (w1 : Cond.methodLinkNest X.1.cls idx Y.1 host ∈ gNest) (w2 : Cond.instanceMethod Y.1 ∈ gTbl) (hnm : Y.1.name = "<init>") (hret : Y.2.2.2.1 = none) (hd : gD X pc (.invokespecial idx) 3 pc') (hst : st = As.reverse ++ .ref a :: rest) (hrest : (rest.map fun v => v.category).sum ≤ 8) (hk : k + Y.2.2.2.2.cells ≤ X.2.2.2.2.cells ∧ n + Y.2.2.2.2.slots ≤ X.2.2.2.2.slots) (hC : Ct E Y (.ref a :: As) T gi gr Q1)
    (kk : ∀ T' gi' gr' v, Q1 T' gi' gr' v → G E X pc' ls (v.toList ++ rest) T' gi' gr' (k + Y.2.2.2.2.cells) (n + Y.2.2.2.2.slots) Q) : G E X pc ls st T gi gr k n Q := by
  obtain ⟨g1, g2, g3, g4⟩ := g
  obtain ⟨hd, rfl⟩ := hd
  intro p e s m args below meth c Z hc hr H locs lsA hl hw hf
  have hts := hc.2.2.2.2.2.2.1
  have hK := hc.2.2.2.2.2.2.2.2
  refine G_after (Y := Y) (Q1 := Q1) (va_runIN (As := As) (rest := rest) (Ts := gTbl) (bytes := Y.2.1) (maxL := Y.2.2.1) ⟨hc.1, hc.2.1, hc.2.2.1, hc.2.2.2.2.2.1, hts⟩ hC ⟨va_cnB (ws' := gTbl) As.length hts (gws_good X Y g1) (by unfold gws; rw [hret]) rfl rfl (hK.2.1 _ w1) (hts _ g2) g3 g4, hnm, hts _ w2⟩ (gPre hw hK) rfl rfl hl.1 hst (lv_room hrest) hd hk) hc hr hl hf kk
end GC
section GN
variable {E : gE} {X : gX} {pc pc' : Nat} {ls st st' : List Value} {T : gT} {gi : gI} {gr : gR} {k n : Nat} {Q : gQ}
theorem G_st (h : st = st') (kk : G E X pc ls st' T gi gr k n Q) : G E X pc ls st T gi gr k n Q := by
  subst h
  exact kk
theorem vp_inN {j len a : Nat} {T : gT} (hl : T.2.1 a = len) (hj : j < len) (hb : len < 2 ^ 31) : vp_in (nI j) (T.2.1 a) := by
  rw [hl]
  exact vp_in_nI hj hb
theorem G_ialdN {a j len : Nat} (hd : gD X pc .iaload 1 pc') (ht : T.1 a = 100) (hl : T.2.1 a = len) (hb : len < 2 ^ 31) (hj : j < len) (kk : G E X pc' ls (.int (gi a j) :: st) T gi gr k n Q) : G E X pc ls (.int (nI j) :: .ref a :: st) T gi gr k n Q := by
  refine G_iald hd ht (vp_inN hl hj hb) ?_
  rw [nI_clamp (Nat.lt_trans hj hb)]
  exact kk
theorem G_zaldN {a j len : Nat} (hd : gD X pc .baload 1 pc') (ht : T.1 a = 101) (hl : T.2.1 a = len) (hb : len < 2 ^ 31) (hj : j < len) (kk : G E X pc' ls (.int (gi a j) :: st) T gi gr k n Q) : G E X pc ls (.int (nI j) :: .ref a :: st) T gi gr k n Q := by
  refine G_zald hd ht (vp_inN hl hj hb) ?_
  rw [nI_clamp (Nat.lt_trans hj hb)]
  exact kk
theorem G_aaldN (t : Nat) {a j len : Nat} (hd : gD X pc .aaload 1 pc') (h2 : 2 ≤ t ∧ t < 5) (ht : T.1 a = 100 + t) (hl : T.2.1 a = len) (hb : len < 2 ^ 31) (hj : j < len) (kk : G E X pc' ls (va_rf (gr a j) :: st) T gi gr k n Q) : G E X pc ls (.int (nI j) :: .ref a :: st) T gi gr k n Q := by
  refine G_aald t hd h2 ht (vp_inN hl hj hb) ?_
  rw [nI_clamp (Nat.lt_trans hj hb)]
  exact kk
theorem G_aaldsN (t : Nat) {a j len q : Nat} (hd : gD X pc .aaload 1 pc') (h2 : 2 ≤ t ∧ t < 5) (ht : T.1 a = 100 + t) (hl : T.2.1 a = len) (hb : len < 2 ^ 31) (hj : j < len) (hq : gr a j = some q) (kk : G E X pc' ls (.ref q :: st) T gi gr k n Q) : G E X pc ls (.int (nI j) :: .ref a :: st) T gi gr k n Q := G_aaldN t hd h2 ht hl hb hj (by rw [hq]; exact kk)
theorem G_iastN {a j len : Nat} {x : Int32} (hd : gD X pc .iastore 1 pc') (ht : T.1 a = 100) (hl : T.2.1 a = len) (hb : len < 2 ^ 31) (hj : j < len) (kk : G E X pc' ls st T (gu gi a j x) gr k n Q) : G E X pc ls (.int x :: .int (nI j) :: .ref a :: st) T gi gr k n Q := by
  refine G_iast hd ht (vp_inN hl hj hb) ?_
  rw [nI_clamp (Nat.lt_trans hj hb)]
  exact kk
theorem G_zastN {a j len : Nat} {x : Int32} (hd : gD X pc .bastore 1 pc') (ht : T.1 a = 101) (hl : T.2.1 a = len) (hb : len < 2 ^ 31) (hj : j < len) (hx : x = 0 ∨ x = 1) (kk : G E X pc' ls st T (gu gi a j x) gr k n Q) : G E X pc ls (.int x :: .int (nI j) :: .ref a :: st) T gi gr k n Q := by
  refine G_zast hd ht (vp_inN hl hj hb) hx ?_
  rw [nI_clamp (Nat.lt_trans hj hb)]
  exact kk
theorem G_aastsN (t : Nat) {a v ci j len : Nat} {C : String} {Tb : u_T} {N : Nat} (hd : gD X pc .aastore 1 pc') (h2 : t = 2 ∨ t = 3) (ht : T.1 a = 100 + t) (hl : T.2.1 a = len) (hb : len < 2 ^ 31) (hj : j < len) (hv : T.1 v = ci + 1) (hcl : vwCl[ci]? = some (C, Tb, N)) (hC : gAT t = .object C) (kk : G E X pc' ls st T gi (gu gr a j (some v)) k n Q) : G E X pc ls (.ref v :: .int (nI j) :: .ref a :: st) T gi gr k n Q := by
  refine G_aast t hd h2 ht (vp_inN hl hj hb) hv hcl hC ?_
  rw [nI_clamp (Nat.lt_trans hj hb)]
  exact kk
theorem G_aastNN (t : Nat) {a j len : Nat} {C : String} (hd : gD X pc .aastore 1 pc') (h2 : t = 2 ∨ t = 3) (ht : T.1 a = 100 + t) (hl : T.2.1 a = len) (hb : len < 2 ^ 31) (hj : j < len) (hC : gAT t = .object C) (kk : G E X pc' ls st T gi (gu gr a j none) k n Q) : G E X pc ls (.null :: .int (nI j) :: .ref a :: st) T gi gr k n Q := by
  refine G_aastN t hd h2 ht (vp_inN hl hj hb) hC ?_
  rw [nI_clamp (Nat.lt_trans hj hb)]
  exact kk
end GN
end
section
def mDV_init : gX := (⟨"DamageView", "<init>", "(II)V"⟩, prog_1_method_1_code, 3, none, { frames := 4, cells := 37, slots := 1448, locals := 88 })
def mSC_init : gX := (⟨"DamageView$Screen", "<init>", "()V"⟩, prog_7_method_1_code, 1, none, { frames := 1, cells := 2, slots := 768, locals := 21 })
def mDV_nearest : gX := (⟨"DamageView", "nearest", "(III)I"⟩, prog_1_method_21_code, 3, some FieldType.int, { frames := 0, cells := 0, slots := 0, locals := 0 })
def mLA_init : gX := (⟨"DamageView$Layout", "<init>", "(II)V"⟩, prog_6_method_1_code, 3, none, { frames := 2, cells := 28, slots := 643, locals := 41 })
def mBD_init : gX := (⟨"DamageView$Bounds", "<init>", "()V"⟩, prog_3_method_1_code, 1, none, { frames := 1, cells := 25, slots := 600, locals := 21 })
def mDV_addBox : gX := (⟨"DamageView", "addBox", "(ILDamageView$Box;)I"⟩, prog_1_method_26_code, 5, some FieldType.int, { frames := 3, cells := 3, slots := 17, locals := 64 })
def mBX_init : gX := (⟨"DamageView$Box", "<init>", "(IILDamageView$Box;)V"⟩, prog_4_method_1_code, 4, none, { frames := 2, cells := 2, slots := 8, locals := 41 })
def mAR_init : gX := (⟨"DamageView$Area", "<init>", "()V"⟩, prog_2_method_1_code, 1, none, { frames := 1, cells := 0, slots := 0, locals := 21 })
def mDV_showChanges : gX := (⟨"DamageView", "showChanges", "()V"⟩, prog_1_method_33_code, 2, none, { frames := 3, cells := 0, slots := 0, locals := 67 })
def mBX_findArea : gX := (⟨"DamageView$Box", "findArea", "([I)V"⟩, prog_4_method_3_code, 2, none, { frames := 2, cells := 0, slots := 0, locals := 42 })
def mAR_copyFrom : gX := (⟨"DamageView$Area", "copyFrom", "(LDamageView$Area;)V"⟩, prog_2_method_6_code, 2, none, { frames := 0, cells := 0, slots := 0, locals := 0 })
def mAR_makeEmpty : gX := (⟨"DamageView$Area", "makeEmpty", "()V"⟩, prog_2_method_5_code, 1, none, { frames := 0, cells := 0, slots := 0, locals := 0 })
def mAR_takeEdges : gX := (⟨"DamageView$Area", "takeEdges", "([II)V"⟩, prog_2_method_7_code, 3, none, { frames := 0, cells := 0, slots := 0, locals := 0 })
def mAR_cutTo : gX := (⟨"DamageView$Area", "cutTo", "(LDamageView$Area;)V"⟩, prog_2_method_8_code, 2, none, { frames := 1, cells := 0, slots := 0, locals := 21 })
def mAR_isEmpty : gX := (⟨"DamageView$Area", "isEmpty", "()Z"⟩, prog_2_method_2_code, 1, some FieldType.boolean, { frames := 0, cells := 0, slots := 0, locals := 0 })
def mBX_canHaveAttention : gX := (⟨"DamageView$Box", "canHaveAttention", "()Z"⟩, prog_4_method_2_code, 1, some FieldType.boolean, { frames := 1, cells := 0, slots := 0, locals := 20 })
def mDV_showBox : gX := (⟨"DamageView", "showBox", "(LDamageView$Box;)V"⟩, prog_1_method_34_code, 3, none, { frames := 2, cells := 0, slots := 0, locals := 45 })
def mDV_colourOf : gX := (⟨"DamageView", "colourOf", "(LDamageView$Box;)I"⟩, prog_1_method_35_code, 2, some FieldType.int, { frames := 0, cells := 0, slots := 0, locals := 0 })
def mAR_isSameAs : gX := (⟨"DamageView$Area", "isSameAs", "(LDamageView$Area;)Z"⟩, prog_2_method_4_code, 2, some FieldType.boolean, { frames := 0, cells := 0, slots := 0, locals := 0 })
def mSC_damageArea : gX := (⟨"DamageView$Screen", "damageArea", "(LDamageView$Area;)V"⟩, prog_7_method_3_code, 4, none, { frames := 1, cells := 0, slots := 0, locals := 22 })
def mAR_has : gX := (⟨"DamageView$Area", "has", "(II)Z"⟩, prog_2_method_3_code, 3, some FieldType.boolean, { frames := 0, cells := 0, slots := 0, locals := 0 })
def mSC_pointOf : gX := (⟨"DamageView$Screen", "pointOf", "(II)I"⟩, prog_7_method_2_code, 2, some FieldType.int, { frames := 0, cells := 0, slots := 0, locals := 0 })
def mDV_box : gX := (⟨"DamageView", "box", "(II)I"⟩, prog_1_method_2_code, 3, some FieldType.int, { frames := 4, cells := 3, slots := 17, locals := 88 })
def mDV_isBox : gX := (⟨"DamageView", "isBox", "(I)Z"⟩, prog_1_method_24_code, 2, some FieldType.boolean, { frames := 0, cells := 0, slots := 0, locals := 0 })
def mDV_constrain : gX := (⟨"DamageView", "constrain", "(IIIII)I"⟩, prog_1_method_3_code, 7, some FieldType.int, { frames := 6, cells := 1, slots := 5, locals := 136 })
def mLA_canJoin : gX := (⟨"DamageView$Layout", "canJoin", "(II)Z"⟩, prog_6_method_3_code, 3, some FieldType.boolean, { frames := 1, cells := 0, slots := 0, locals := 21 })
def mLA_isEdge : gX := (⟨"DamageView$Layout", "isEdge", "(I)Z"⟩, prog_6_method_2_code, 2, some FieldType.boolean, { frames := 0, cells := 0, slots := 0, locals := 0 })
def mLA_isTopOrBottom : gX := (⟨"DamageView$Layout", "isTopOrBottom", "(I)Z"⟩, prog_6_method_4_code, 1, some FieldType.boolean, { frames := 0, cells := 0, slots := 0, locals := 0 })
def mDV_isNear : gX := (⟨"DamageView", "isNear", "(I)Z"⟩, prog_1_method_22_code, 1, some FieldType.boolean, { frames := 0, cells := 0, slots := 0, locals := 0 })
def mLA_freeNumber : gX := (⟨"DamageView$Layout", "freeNumber", "()I"⟩, prog_6_method_5_code, 2, some FieldType.int, { frames := 0, cells := 0, slots := 0, locals := 0 })
def mCN_init : gX := (⟨"DamageView$Constraint", "<init>", "(IIIII)V"⟩, prog_5_method_1_code, 6, none, { frames := 1, cells := 0, slots := 0, locals := 21 })
def mLA_add : gX := (⟨"DamageView$Layout", "add", "(ILDamageView$Constraint;)Z"⟩, prog_6_method_7_code, 4, some FieldType.boolean, { frames := 5, cells := 0, slots := 0, locals := 113 })
def mLA_solve : gX := (⟨"DamageView$Layout", "solve", "()Z"⟩, prog_6_method_10_code, 1, some FieldType.boolean, { frames := 4, cells := 0, slots := 0, locals := 93 })
def mLA_demandAll : gX := (⟨"DamageView$Layout", "demandAll", "()V"⟩, prog_6_method_12_code, 2, none, { frames := 3, cells := 0, slots := 0, locals := 70 })
def mBD_open : gX := (⟨"DamageView$Bounds", "open", "(I)V"⟩, prog_3_method_2_code, 3, none, { frames := 1, cells := 0, slots := 0, locals := 23 })
def mJF_fill : gX := (⟨"java/util/Arrays", "fill", "([II)V"⟩, prog_11_method_103_code, 4, none, { frames := 0, cells := 0, slots := 0, locals := 0 })
def mBD_fix : gX := (⟨"DamageView$Bounds", "fix", "(III)V"⟩, prog_3_method_5_code, 4, none, { frames := 1, cells := 0, slots := 0, locals := 26 })
def mBD_keepAtMost : gX := (⟨"DamageView$Bounds", "keepAtMost", "(III)V"⟩, prog_3_method_8_code, 7, none, { frames := 0, cells := 0, slots := 0, locals := 0 })
def mBD_keepAtLeast : gX := (⟨"DamageView$Bounds", "keepAtLeast", "(III)V"⟩, prog_3_method_7_code, 4, none, { frames := 1, cells := 0, slots := 0, locals := 26 })
def mCN_demandIn : gX := (⟨"DamageView$Constraint", "demandIn", "(LDamageView$Bounds;)V"⟩, prog_5_method_3_code, 2, none, { frames := 2, cells := 0, slots := 0, locals := 49 })
def mLA_chooseBest : gX := (⟨"DamageView$Layout", "chooseBest", "()V"⟩, prog_6_method_13_code, 3, none, { frames := 3, cells := 0, slots := 0, locals := 71 })
def mCN_leastErrorIn : gX := (⟨"DamageView$Constraint", "leastErrorIn", "(LDamageView$Bounds;)V"⟩, prog_5_method_4_code, 2, none, { frames := 2, cells := 0, slots := 0, locals := 50 })
def mBD_fixNear : gX := (⟨"DamageView$Bounds", "fixNear", "(III)I"⟩, prog_3_method_6_code, 5, some FieldType.int, { frames := 1, cells := 0, slots := 0, locals := 26 })
def mBD_lowest : gX := (⟨"DamageView$Bounds", "lowest", "(II)I"⟩, prog_3_method_4_code, 3, some FieldType.int, { frames := 0, cells := 0, slots := 0, locals := 0 })
def mBD_highest : gX := (⟨"DamageView$Bounds", "highest", "(II)I"⟩, prog_3_method_3_code, 3, some FieldType.int, { frames := 0, cells := 0, slots := 0, locals := 0 })
def mDV_remove : gX := (⟨"DamageView", "remove", "(I)Z"⟩, prog_1_method_4_code, 2, some FieldType.boolean, { frames := 6, cells := 0, slots := 0, locals := 134 })
def mLA_constraintAt : gX := (⟨"DamageView$Layout", "constraintAt", "(I)LDamageView$Constraint;"⟩, prog_6_method_6_code, 2, some (FieldType.object "DamageView$Constraint"), { frames := 0, cells := 0, slots := 0, locals := 0 })
def mLA_takeAway : gX := (⟨"DamageView$Layout", "takeAway", "(I)V"⟩, prog_6_method_8_code, 2, none, { frames := 5, cells := 0, slots := 0, locals := 113 })
def mDV_suggest : gX := (⟨"DamageView", "suggest", "(II)Z"⟩, prog_1_method_5_code, 3, some FieldType.boolean, { frames := 5, cells := 0, slots := 0, locals := 115 })
def mLA_solveNear : gX := (⟨"DamageView$Layout", "solveNear", "(II)V"⟩, prog_6_method_11_code, 3, none, { frames := 4, cells := 0, slots := 0, locals := 93 })
def mDV_resize : gX := (⟨"DamageView", "resize", "(II)Z"⟩, prog_1_method_6_code, 3, some FieldType.boolean, { frames := 6, cells := 0, slots := 0, locals := 138 })
def mLA_setSize : gX := (⟨"DamageView$Layout", "setSize", "(II)Z"⟩, prog_6_method_9_code, 6, some FieldType.boolean, { frames := 5, cells := 0, slots := 0, locals := 113 })
def mDV_place : gX := (⟨"DamageView", "place", "(I)I"⟩, prog_1_method_7_code, 2, some FieldType.int, { frames := 1, cells := 0, slots := 0, locals := 21 })
def mDV_error : gX := (⟨"DamageView", "error", "(I)I"⟩, prog_1_method_8_code, 3, some FieldType.int, { frames := 2, cells := 0, slots := 0, locals := 43 })
def mCN_errorIn : gX := (⟨"DamageView$Constraint", "errorIn", "([I)I"⟩, prog_5_method_2_code, 3, some FieldType.int, { frames := 1, cells := 0, slots := 0, locals := 21 })
def mDV_hide : gX := (⟨"DamageView", "hide", "(IZ)Z"⟩, prog_1_method_9_code, 3, some FieldType.boolean, { frames := 4, cells := 0, slots := 0, locals := 88 })
def mDV_isInnerBox : gX := (⟨"DamageView", "isInnerBox", "(I)Z"⟩, prog_1_method_25_code, 2, some FieldType.boolean, { frames := 0, cells := 0, slots := 0, locals := 0 })
def mDV_raise : gX := (⟨"DamageView", "raise", "(I)Z"⟩, prog_1_method_10_code, 2, some FieldType.boolean, { frames := 2, cells := 0, slots := 0, locals := 45 })
def mDV_isLastOfItsParent : gX := (⟨"DamageView", "isLastOfItsParent", "(LDamageView$Box;)Z"⟩, prog_1_method_27_code, 4, some FieldType.boolean, { frames := 0, cells := 0, slots := 0, locals := 0 })
def mDV_bringToFront : gX := (⟨"DamageView", "bringToFront", "(LDamageView$Box;)V"⟩, prog_1_method_28_code, 4, none, { frames := 0, cells := 0, slots := 0, locals := 0 })
def mDV_hit : gX := (⟨"DamageView", "hit", "(II)I"⟩, prog_1_method_11_code, 3, some FieldType.int, { frames := 3, cells := 0, slots := 0, locals := 71 })
def mDV_frontBox : gX := (⟨"DamageView", "frontBox", "(II)LDamageView$Box;"⟩, prog_1_method_29_code, 6, some (FieldType.object "DamageView$Box"), { frames := 2, cells := 0, slots := 0, locals := 46 })
def mDV_frontChild : gX := (⟨"DamageView", "frontChild", "(LDamageView$Box;II)LDamageView$Box;"⟩, prog_1_method_30_code, 5, some (FieldType.object "DamageView$Box"), { frames := 1, cells := 0, slots := 0, locals := 22 })
def mDV_numberOf : gX := (⟨"DamageView", "numberOf", "(LDamageView$Box;)I"⟩, prog_1_method_23_code, 1, some FieldType.int, { frames := 0, cells := 0, slots := 0, locals := 0 })
def mDV_press : gX := (⟨"DamageView", "press", "(II)I"⟩, prog_1_method_12_code, 4, some FieldType.int, { frames := 4, cells := 0, slots := 0, locals := 88 })
def mDV_release : gX := (⟨"DamageView", "release", "(II)I"⟩, prog_1_method_13_code, 4, some FieldType.int, { frames := 4, cells := 0, slots := 0, locals := 88 })
def mDV_activate : gX := (⟨"DamageView", "activate", "(LDamageView$Box;)V"⟩, prog_1_method_32_code, 3, none, { frames := 0, cells := 0, slots := 0, locals := 0 })
def mDV_step : gX := (⟨"DamageView", "step", "(Z)I"⟩, prog_1_method_14_code, 6, some FieldType.int, { frames := 4, cells := 0, slots := 0, locals := 88 })
def mJM_floorMod : gX := (⟨"java/lang/Math", "floorMod", "(II)I"⟩, prog_10_method_50_code, 3, some FieldType.int, { frames := 0, cells := 0, slots := 0, locals := 0 })
def mDV_key : gX := (⟨"DamageView", "key", "()I"⟩, prog_1_method_15_code, 1, some FieldType.int, { frames := 4, cells := 0, slots := 0, locals := 88 })
def mDV_attention : gX := (⟨"DamageView", "attention", "()I"⟩, prog_1_method_16_code, 1, some FieldType.int, { frames := 1, cells := 0, slots := 0, locals := 20 })
def mDV_count : gX := (⟨"DamageView", "count", "(I)I"⟩, prog_1_method_17_code, 2, some FieldType.int, { frames := 1, cells := 0, slots := 0, locals := 21 })
def mDV_damage : gX := (⟨"DamageView", "damage", "()I"⟩, prog_1_method_18_code, 1, some FieldType.int, { frames := 1, cells := 0, slots := 0, locals := 22 })
def mSC_damagedPoints : gX := (⟨"DamageView$Screen", "damagedPoints", "()I"⟩, prog_7_method_4_code, 3, some FieldType.int, { frames := 0, cells := 0, slots := 0, locals := 0 })
def mDV_paint : gX := (⟨"DamageView", "paint", "()I"⟩, prog_1_method_19_code, 4, some FieldType.int, { frames := 4, cells := 0, slots := 0, locals := 94 })
def mSC_isDamaged : gX := (⟨"DamageView$Screen", "isDamaged", "(II)Z"⟩, prog_7_method_5_code, 3, some FieldType.boolean, { frames := 1, cells := 0, slots := 0, locals := 21 })
def mDV_pictureAt : gX := (⟨"DamageView", "pictureAt", "(II)I"⟩, prog_1_method_31_code, 4, some FieldType.int, { frames := 3, cells := 0, slots := 0, locals := 71 })
def mSC_repair : gX := (⟨"DamageView$Screen", "repair", "(III)Z"⟩, prog_7_method_7_code, 6, some FieldType.boolean, { frames := 1, cells := 0, slots := 0, locals := 21 })
def mDV_pixel : gX := (⟨"DamageView", "pixel", "(II)I"⟩, prog_1_method_20_code, 4, some FieldType.int, { frames := 2, cells := 0, slots := 0, locals := 43 })
def mSC_frameAt : gX := (⟨"DamageView$Screen", "frameAt", "(II)I"⟩, prog_7_method_6_code, 3, some FieldType.int, { frames := 1, cells := 0, slots := 0, locals := 21 })
def mLW_cell : gX := (⟨"DamageViewLaw", "cell", "([II)I"⟩, method_2_code, 2, some FieldType.int, { frames := 0, cells := 0, slots := 0, locals := 0 })
def mMO_init : gX := (⟨"DamageViewModel", "<init>", "(II)V"⟩, prog_9_method_1_code, 3, none, { frames := 5, cells := 22, slots := 3642, locals := 117 })
def mMO_look : gX := (⟨"DamageViewModel", "look", "()V"⟩, prog_9_method_7_code, 5, none, { frames := 4, cells := 0, slots := 0, locals := 93 })
def mMO_can : gX := (⟨"DamageViewModel", "can", "(I)Z"⟩, prog_9_method_5_code, 2, some FieldType.boolean, { frames := 3, cells := 0, slots := 0, locals := 72 })
def mMO_someArea : gX := (⟨"DamageViewModel", "someArea", "(I)Z"⟩, prog_9_method_4_code, 4, some FieldType.boolean, { frames := 2, cells := 0, slots := 0, locals := 49 })
def mMO_inArea : gX := (⟨"DamageViewModel", "inArea", "(III)Z"⟩, prog_9_method_3_code, 7, some FieldType.boolean, { frames := 1, cells := 0, slots := 0, locals := 23 })
def mMO_covers : gX := (⟨"DamageViewModel", "covers", "(III)Z"⟩, prog_9_method_2_code, 4, some FieldType.boolean, { frames := 0, cells := 0, slots := 0, locals := 0 })
def mMO_colour : gX := (⟨"DamageViewModel", "colour", "(I)I"⟩, prog_9_method_6_code, 3, some FieldType.int, { frames := 0, cells := 0, slots := 0, locals := 0 })
def mMO_box : gX := (⟨"DamageViewModel", "box", "(II)I"⟩, prog_9_method_21_code, 3, some FieldType.int, { frames := 5, cells := 0, slots := 0, locals := 117 })
def mMO_isBox : gX := (⟨"DamageViewModel", "isBox", "(I)Z"⟩, prog_9_method_19_code, 2, some FieldType.boolean, { frames := 0, cells := 0, slots := 0, locals := 0 })
def mMO_constrain : gX := (⟨"DamageViewModel", "constrain", "(IIIII)I"⟩, prog_9_method_22_code, 7, some FieldType.int, { frames := 6, cells := 0, slots := 0, locals := 141 })
def mMO_isEdge : gX := (⟨"DamageViewModel", "isEdge", "(I)Z"⟩, prog_9_method_20_code, 2, some FieldType.boolean, { frames := 0, cells := 0, slots := 0, locals := 0 })
def mMO_origin : gX := (⟨"DamageViewModel", "origin", "(I)I"⟩, prog_9_method_17_code, 1, some FieldType.int, { frames := 0, cells := 0, slots := 0, locals := 0 })
def mMO_solve : gX := (⟨"DamageViewModel", "solve", "(II)Z"⟩, prog_9_method_18_code, 5, some FieldType.boolean, { frames := 5, cells := 0, slots := 0, locals := 117 })
def mMO_required : gX := (⟨"DamageViewModel", "required", "()V"⟩, prog_9_method_16_code, 2, none, { frames := 3, cells := 0, slots := 0, locals := 69 })
def mMO_exactly : gX := (⟨"DamageViewModel", "exactly", "(III)V"⟩, prog_9_method_10_code, 4, none, { frames := 2, cells := 0, slots := 0, locals := 46 })
def mMO_atLeast : gX := (⟨"DamageViewModel", "atLeast", "(III)V"⟩, prog_9_method_9_code, 4, none, { frames := 1, cells := 0, slots := 0, locals := 23 })
def mMO_row : gX := (⟨"DamageViewModel", "row", "(III)V"⟩, prog_9_method_8_code, 4, none, { frames := 0, cells := 0, slots := 0, locals := 0 })
def mMO_conflict : gX := (⟨"DamageViewModel", "conflict", "()Z"⟩, prog_9_method_12_code, 3, some FieldType.boolean, { frames := 1, cells := 0, slots := 0, locals := 23 })
def mMO_lower : gX := (⟨"DamageViewModel", "lower", "()Z"⟩, prog_9_method_11_code, 4, some FieldType.boolean, { frames := 0, cells := 0, slots := 0, locals := 0 })
def mMO_settle : gX := (⟨"DamageViewModel", "settle", "(III)I"⟩, prog_9_method_14_code, 7, some FieldType.int, { frames := 3, cells := 0, slots := 0, locals := 69 })
def mMO_most : gX := (⟨"DamageViewModel", "most", "(II)I"⟩, prog_9_method_13_code, 5, some FieldType.int, { frames := 1, cells := 0, slots := 0, locals := 23 })
def mMO_soft : gX := (⟨"DamageViewModel", "soft", "(I)V"⟩, prog_9_method_15_code, 3, none, { frames := 4, cells := 0, slots := 0, locals := 95 })
def mMO_remove : gX := (⟨"DamageViewModel", "remove", "(I)Z"⟩, prog_9_method_24_code, 3, some FieldType.boolean, { frames := 6, cells := 0, slots := 0, locals := 141 })
def mMO_isConstraint : gX := (⟨"DamageViewModel", "isConstraint", "(I)Z"⟩, prog_9_method_23_code, 2, some FieldType.boolean, { frames := 0, cells := 0, slots := 0, locals := 0 })
def mMO_suggest : gX := (⟨"DamageViewModel", "suggest", "(II)Z"⟩, prog_9_method_25_code, 4, some FieldType.boolean, { frames := 6, cells := 0, slots := 0, locals := 141 })
def mMO_resize : gX := (⟨"DamageViewModel", "resize", "(II)Z"⟩, prog_9_method_26_code, 6, some FieldType.boolean, { frames := 6, cells := 0, slots := 0, locals := 141 })
def mMO_place : gX := (⟨"DamageViewModel", "place", "(I)I"⟩, prog_9_method_27_code, 2, some FieldType.int, { frames := 1, cells := 0, slots := 0, locals := 21 })
def mMO_error : gX := (⟨"DamageViewModel", "error", "(I)I"⟩, prog_9_method_28_code, 3, some FieldType.int, { frames := 1, cells := 0, slots := 0, locals := 21 })
def mMO_hide : gX := (⟨"DamageViewModel", "hide", "(IZ)Z"⟩, prog_9_method_29_code, 3, some FieldType.boolean, { frames := 5, cells := 0, slots := 0, locals := 117 })
def mMO_raise : gX := (⟨"DamageViewModel", "raise", "(I)Z"⟩, prog_9_method_31_code, 3, some FieldType.boolean, { frames := 2, cells := 0, slots := 0, locals := 49 })
def mMO_isLast : gX := (⟨"DamageViewModel", "isLast", "(I)Z"⟩, prog_9_method_30_code, 4, some FieldType.boolean, { frames := 0, cells := 0, slots := 0, locals := 0 })
def mMO_hit : gX := (⟨"DamageViewModel", "hit", "(II)I"⟩, prog_9_method_33_code, 5, some FieldType.int, { frames := 2, cells := 0, slots := 0, locals := 49 })
def mMO_inFront : gX := (⟨"DamageViewModel", "inFront", "(II)Z"⟩, prog_9_method_32_code, 7, some FieldType.boolean, { frames := 0, cells := 0, slots := 0, locals := 0 })
def mMO_press : gX := (⟨"DamageViewModel", "press", "(II)I"⟩, prog_9_method_34_code, 5, some FieldType.int, { frames := 5, cells := 0, slots := 0, locals := 117 })
def mMO_release : gX := (⟨"DamageViewModel", "release", "(II)I"⟩, prog_9_method_36_code, 5, some FieldType.int, { frames := 5, cells := 0, slots := 0, locals := 117 })
def mMO_activate : gX := (⟨"DamageViewModel", "activate", "(I)V"⟩, prog_9_method_35_code, 4, none, { frames := 0, cells := 0, slots := 0, locals := 0 })
def mMO_step : gX := (⟨"DamageViewModel", "step", "(Z)I"⟩, prog_9_method_37_code, 5, some FieldType.int, { frames := 5, cells := 0, slots := 0, locals := 117 })
def mMO_key : gX := (⟨"DamageViewModel", "key", "()I"⟩, prog_9_method_38_code, 2, some FieldType.int, { frames := 5, cells := 0, slots := 0, locals := 117 })
def mMO_attention : gX := (⟨"DamageViewModel", "attention", "()I"⟩, prog_9_method_39_code, 1, some FieldType.int, { frames := 0, cells := 0, slots := 0, locals := 0 })
def mMO_count : gX := (⟨"DamageViewModel", "count", "(I)I"⟩, prog_9_method_40_code, 2, some FieldType.int, { frames := 1, cells := 0, slots := 0, locals := 21 })
def mMO_damage : gX := (⟨"DamageViewModel", "damage", "()I"⟩, prog_9_method_41_code, 3, some FieldType.int, { frames := 0, cells := 0, slots := 0, locals := 0 })
def mMO_paint : gX := (⟨"DamageViewModel", "paint", "()I"⟩, prog_9_method_42_code, 5, some FieldType.int, { frames := 3, cells := 0, slots := 0, locals := 73 })
def mMO_pixel : gX := (⟨"DamageViewModel", "pixel", "(II)I"⟩, prog_9_method_43_code, 3, some FieldType.int, { frames := 0, cells := 0, slots := 0, locals := 0 })
def mLW_law : gX := (x, code, 4, ret, room_1)
theorem kcDV_w : ∀ w ∈ u_ws "DamageView" TbDV 7, w ∈ gTbl := by
  intro w hw
  obtain ⟨k, hk, rfl⟩ := List.mem_map.mp hw
  have hk := List.mem_range.mp hk
  match k, hk with
  | 0, _ => exact gTbl_in (i := 256) (by decide +kernel) (by decide +kernel)
  | 1, _ => exact gTbl_in (i := 258) (by decide +kernel) (by decide +kernel)
  | 2, _ => exact gTbl_in (i := 260) (by decide +kernel) (by decide +kernel)
  | 3, _ => exact gTbl_in (i := 262) (by decide +kernel) (by decide +kernel)
  | 4, _ => exact gTbl_in (i := 264) (by decide +kernel) (by decide +kernel)
  | 5, _ => exact gTbl_in (i := 266) (by decide +kernel) (by decide +kernel)
  | 6, _ => exact gTbl_in (i := 268) (by decide +kernel) (by decide +kernel)
theorem kcDV : gCls 0 "DamageView" TbDV 7 tyDV := ⟨rfl, kcDV_w, by decide +kernel, by decide +kernel⟩
theorem kcSC_w : ∀ w ∈ u_ws "DamageView$Screen" TbSC 2, w ∈ gTbl := by
  intro w hw
  obtain ⟨k, hk, rfl⟩ := List.mem_map.mp hw
  have hk := List.mem_range.mp hk
  match k, hk with
  | 0, _ => exact gTbl_in (i := 63) (by decide +kernel) (by decide +kernel)
  | 1, _ => exact gTbl_in (i := 65) (by decide +kernel) (by decide +kernel)
theorem kcSC : gCls 1 "DamageView$Screen" TbSC 2 tySC := ⟨rfl, kcSC_w, by decide +kernel, by decide +kernel⟩
theorem kcLA_w : ∀ w ∈ u_ws "DamageView$Layout" TbLA 6, w ∈ gTbl := by
  intro w hw
  obtain ⟨k, hk, rfl⟩ := List.mem_map.mp hw
  have hk := List.mem_range.mp hk
  match k, hk with
  | 0, _ => exact gTbl_in (i := 110) (by decide +kernel) (by decide +kernel)
  | 1, _ => exact gTbl_in (i := 112) (by decide +kernel) (by decide +kernel)
  | 2, _ => exact gTbl_in (i := 114) (by decide +kernel) (by decide +kernel)
  | 3, _ => exact gTbl_in (i := 116) (by decide +kernel) (by decide +kernel)
  | 4, _ => exact gTbl_in (i := 118) (by decide +kernel) (by decide +kernel)
  | 5, _ => exact gTbl_in (i := 120) (by decide +kernel) (by decide +kernel)
theorem kcLA : gCls 2 "DamageView$Layout" TbLA 6 tyLA := ⟨rfl, kcLA_w, by decide +kernel, by decide +kernel⟩
theorem kcBD_w : ∀ w ∈ u_ws "DamageView$Bounds" TbBD 3, w ∈ gTbl := by
  intro w hw
  obtain ⟨k, hk, rfl⟩ := List.mem_map.mp hw
  have hk := List.mem_range.mp hk
  match k, hk with
  | 0, _ => exact gTbl_in (i := 95) (by decide +kernel) (by decide +kernel)
  | 1, _ => exact gTbl_in (i := 97) (by decide +kernel) (by decide +kernel)
  | 2, _ => exact gTbl_in (i := 99) (by decide +kernel) (by decide +kernel)
theorem kcBD : gCls 3 "DamageView$Bounds" TbBD 3 tyBD := ⟨rfl, kcBD_w, by decide +kernel, by decide +kernel⟩
theorem kcBX_w : ∀ w ∈ u_ws "DamageView$Box" TbBX 9, w ∈ gTbl := by
  intro w hw
  obtain ⟨k, hk, rfl⟩ := List.mem_map.mp hw
  have hk := List.mem_range.mp hk
  match k, hk with
  | 0, _ => exact gTbl_in (i := 167) (by decide +kernel) (by decide +kernel)
  | 1, _ => exact gTbl_in (i := 169) (by decide +kernel) (by decide +kernel)
  | 2, _ => exact gTbl_in (i := 171) (by decide +kernel) (by decide +kernel)
  | 3, _ => exact gTbl_in (i := 173) (by decide +kernel) (by decide +kernel)
  | 4, _ => exact gTbl_in (i := 175) (by decide +kernel) (by decide +kernel)
  | 5, _ => exact gTbl_in (i := 177) (by decide +kernel) (by decide +kernel)
  | 6, _ => exact gTbl_in (i := 179) (by decide +kernel) (by decide +kernel)
  | 7, _ => exact gTbl_in (i := 181) (by decide +kernel) (by decide +kernel)
  | 8, _ => exact gTbl_in (i := 183) (by decide +kernel) (by decide +kernel)
theorem kcBX : gCls 4 "DamageView$Box" TbBX 9 tyBX := ⟨rfl, kcBX_w, by decide +kernel, by decide +kernel⟩
theorem kcAR_w : ∀ w ∈ u_ws "DamageView$Area" TbAR 4, w ∈ gTbl := by
  intro w hw
  obtain ⟨k, hk, rfl⟩ := List.mem_map.mp hw
  have hk := List.mem_range.mp hk
  match k, hk with
  | 0, _ => exact gTbl_in (i := 142) (by decide +kernel) (by decide +kernel)
  | 1, _ => exact gTbl_in (i := 144) (by decide +kernel) (by decide +kernel)
  | 2, _ => exact gTbl_in (i := 146) (by decide +kernel) (by decide +kernel)
  | 3, _ => exact gTbl_in (i := 148) (by decide +kernel) (by decide +kernel)
theorem kcAR : gCls 5 "DamageView$Area" TbAR 4 tyAR := ⟨rfl, kcAR_w, by decide +kernel, by decide +kernel⟩
theorem kcCN_w : ∀ w ∈ u_ws "DamageView$Constraint" TbCN 5, w ∈ gTbl := by
  intro w hw
  obtain ⟨k, hk, rfl⟩ := List.mem_map.mp hw
  have hk := List.mem_range.mp hk
  match k, hk with
  | 0, _ => exact gTbl_in (i := 313) (by decide +kernel) (by decide +kernel)
  | 1, _ => exact gTbl_in (i := 315) (by decide +kernel) (by decide +kernel)
  | 2, _ => exact gTbl_in (i := 317) (by decide +kernel) (by decide +kernel)
  | 3, _ => exact gTbl_in (i := 319) (by decide +kernel) (by decide +kernel)
  | 4, _ => exact gTbl_in (i := 321) (by decide +kernel) (by decide +kernel)
theorem kcCN : gCls 6 "DamageView$Constraint" TbCN 5 tyCN := ⟨rfl, kcCN_w, by decide +kernel, by decide +kernel⟩
theorem kcMO_w : ∀ w ∈ u_ws "DamageViewModel" TbMO 29, w ∈ gTbl := by
  intro w hw
  obtain ⟨k, hk, rfl⟩ := List.mem_map.mp hw
  have hk := List.mem_range.mp hk
  match k, hk with
  | 0, _ => exact gTbl_in (i := 592) (by decide +kernel) (by decide +kernel)
  | 1, _ => exact gTbl_in (i := 594) (by decide +kernel) (by decide +kernel)
  | 2, _ => exact gTbl_in (i := 596) (by decide +kernel) (by decide +kernel)
  | 3, _ => exact gTbl_in (i := 598) (by decide +kernel) (by decide +kernel)
  | 4, _ => exact gTbl_in (i := 600) (by decide +kernel) (by decide +kernel)
  | 5, _ => exact gTbl_in (i := 602) (by decide +kernel) (by decide +kernel)
  | 6, _ => exact gTbl_in (i := 604) (by decide +kernel) (by decide +kernel)
  | 7, _ => exact gTbl_in (i := 606) (by decide +kernel) (by decide +kernel)
  | 8, _ => exact gTbl_in (i := 608) (by decide +kernel) (by decide +kernel)
  | 9, _ => exact gTbl_in (i := 610) (by decide +kernel) (by decide +kernel)
  | 10, _ => exact gTbl_in (i := 612) (by decide +kernel) (by decide +kernel)
  | 11, _ => exact gTbl_in (i := 614) (by decide +kernel) (by decide +kernel)
  | 12, _ => exact gTbl_in (i := 616) (by decide +kernel) (by decide +kernel)
  | 13, _ => exact gTbl_in (i := 618) (by decide +kernel) (by decide +kernel)
  | 14, _ => exact gTbl_in (i := 620) (by decide +kernel) (by decide +kernel)
  | 15, _ => exact gTbl_in (i := 622) (by decide +kernel) (by decide +kernel)
  | 16, _ => exact gTbl_in (i := 624) (by decide +kernel) (by decide +kernel)
  | 17, _ => exact gTbl_in (i := 626) (by decide +kernel) (by decide +kernel)
  | 18, _ => exact gTbl_in (i := 628) (by decide +kernel) (by decide +kernel)
  | 19, _ => exact gTbl_in (i := 630) (by decide +kernel) (by decide +kernel)
  | 20, _ => exact gTbl_in (i := 632) (by decide +kernel) (by decide +kernel)
  | 21, _ => exact gTbl_in (i := 634) (by decide +kernel) (by decide +kernel)
  | 22, _ => exact gTbl_in (i := 636) (by decide +kernel) (by decide +kernel)
  | 23, _ => exact gTbl_in (i := 638) (by decide +kernel) (by decide +kernel)
  | 24, _ => exact gTbl_in (i := 640) (by decide +kernel) (by decide +kernel)
  | 25, _ => exact gTbl_in (i := 642) (by decide +kernel) (by decide +kernel)
  | 26, _ => exact gTbl_in (i := 644) (by decide +kernel) (by decide +kernel)
  | 27, _ => exact gTbl_in (i := 646) (by decide +kernel) (by decide +kernel)
  | 28, _ => exact gTbl_in (i := 648) (by decide +kernel) (by decide +kernel)
  | k + 29, h => exact absurd h (by omega)
theorem kcMO : gCls 7 "DamageViewModel" TbMO 29 tyMO := ⟨rfl, kcMO_w, by decide +kernel, by decide +kernel⟩
theorem fAR_9 : gFld "DamageView$Area" 9 5 0 false := ⟨_, _, _, _, kcAR, by decide, by decide +kernel, gTbl_in (i := 138) (by decide +kernel) (by decide +kernel)⟩
theorem fAR_15 : gFld "DamageView$Area" 15 5 1 false := ⟨_, _, _, _, kcAR, by decide, by decide +kernel, gTbl_in (i := 139) (by decide +kernel) (by decide +kernel)⟩
theorem fAR_18 : gFld "DamageView$Area" 18 5 2 false := ⟨_, _, _, _, kcAR, by decide, by decide +kernel, gTbl_in (i := 140) (by decide +kernel) (by decide +kernel)⟩
theorem fAR_21 : gFld "DamageView$Area" 21 5 3 false := ⟨_, _, _, _, kcAR, by decide, by decide +kernel, gTbl_in (i := 141) (by decide +kernel) (by decide +kernel)⟩
theorem wAR_9 : gFldW "DamageView$Area" 9 5 0 false false (.int) := ⟨_, _, _, _, kcAR, by decide, by decide +kernel, gTbl_in (i := 138) (by decide +kernel) (by decide +kernel), rfl, rfl, fun h => by cases h⟩
theorem wAR_15 : gFldW "DamageView$Area" 15 5 1 false false (.int) := ⟨_, _, _, _, kcAR, by decide, by decide +kernel, gTbl_in (i := 139) (by decide +kernel) (by decide +kernel), rfl, rfl, fun h => by cases h⟩
theorem wAR_18 : gFldW "DamageView$Area" 18 5 2 false false (.int) := ⟨_, _, _, _, kcAR, by decide, by decide +kernel, gTbl_in (i := 140) (by decide +kernel) (by decide +kernel), rfl, rfl, fun h => by cases h⟩
theorem wAR_21 : gFldW "DamageView$Area" 21 5 3 false false (.int) := ⟨_, _, _, _, kcAR, by decide, by decide +kernel, gTbl_in (i := 141) (by decide +kernel) (by decide +kernel), rfl, rfl, fun h => by cases h⟩
theorem mnBD_9 : Cond.classLink "DamageView$Bounds" 9 "[[I" ∈ gTbl := gTbl_in (i := 89) (by decide +kernel) (by decide +kernel)
theorem wBD_11 : gFldW "DamageView$Bounds" 11 3 0 true true (.array (.array .int)) := ⟨_, _, _, _, kcBD, by decide, by decide +kernel, gTbl_in (i := 91) (by decide +kernel) (by decide +kernel), rfl, rfl, fun _ => rfl⟩
theorem wBD_22 : gFldW "DamageView$Bounds" 22 3 1 false false (.int) := ⟨_, _, _, _, kcBD, by decide, by decide +kernel, gTbl_in (i := 92) (by decide +kernel) (by decide +kernel), rfl, rfl, fun h => by cases h⟩
theorem wBD_26 : gFldW "DamageView$Bounds" 26 3 2 false false (.boolean) := ⟨_, _, _, _, kcBD, by decide, by decide +kernel, gTbl_in (i := 93) (by decide +kernel) (by decide +kernel), rfl, rfl, fun h => by cases h⟩
theorem fBD_22 : gFld "DamageView$Bounds" 22 3 1 false := ⟨_, _, _, _, kcBD, by decide, by decide +kernel, gTbl_in (i := 92) (by decide +kernel) (by decide +kernel)⟩
theorem fBD_11 : gFld "DamageView$Bounds" 11 3 0 true := ⟨_, _, _, _, kcBD, by decide, by decide +kernel, gTbl_in (i := 91) (by decide +kernel) (by decide +kernel)⟩
theorem kBD_30 : Cond.constant "DamageView$Bounds" 30 268435456 ∈ gTbl := gTbl_in (i := 341) (by decide +kernel) (by decide +kernel)
theorem nwBX_9 : gNw "DamageView$Box" 9 5 4 := ⟨_, _, _, kcAR, by decide +kernel, gTbl_in (i := 132) (by decide +kernel) (by decide +kernel), gTbl_in (i := 133) (by decide +kernel) (by decide +kernel), gTbl_in (i := 42) (by decide +kernel) (by decide +kernel)⟩
theorem wBX_12 : gFldW "DamageView$Box" 12 4 3 true true (.object "DamageView$Area") := ⟨_, _, _, _, kcBX, by decide, by decide +kernel, gTbl_in (i := 157) (by decide +kernel) (by decide +kernel), rfl, rfl, fun _ => rfl⟩
theorem wBX_18 : gFldW "DamageView$Box" 18 4 4 true true (.object "DamageView$Area") := ⟨_, _, _, _, kcBX, by decide, by decide +kernel, gTbl_in (i := 159) (by decide +kernel) (by decide +kernel), rfl, rfl, fun _ => rfl⟩
theorem wBX_21 : gFldW "DamageView$Box" 21 4 0 true false (.int) := ⟨_, _, _, _, kcBX, by decide, by decide +kernel, gTbl_in (i := 151) (by decide +kernel) (by decide +kernel), rfl, rfl, fun _ => rfl⟩
theorem wBX_25 : gFldW "DamageView$Box" 25 4 1 true false (.int) := ⟨_, _, _, _, kcBX, by decide, by decide +kernel, gTbl_in (i := 153) (by decide +kernel) (by decide +kernel), rfl, rfl, fun _ => rfl⟩
theorem wBX_28 : gFldW "DamageView$Box" 28 4 2 true true (.object "DamageView$Box") := ⟨_, _, _, _, kcBX, by decide, by decide +kernel, gTbl_in (i := 155) (by decide +kernel) (by decide +kernel), rfl, rfl, fun _ => rfl⟩
theorem wBX_32 : gFldW "DamageView$Box" 32 4 5 false false (.int) := ⟨_, _, _, _, kcBX, by decide, by decide +kernel, gTbl_in (i := 161) (by decide +kernel) (by decide +kernel), rfl, rfl, fun h => by cases h⟩
theorem fBX_25 : gFld "DamageView$Box" 25 4 1 false := ⟨_, _, _, _, kcBX, by decide, by decide +kernel, gTbl_in (i := 153) (by decide +kernel) (by decide +kernel)⟩
theorem fBX_12 : gFld "DamageView$Box" 12 4 3 true := ⟨_, _, _, _, kcBX, by decide, by decide +kernel, gTbl_in (i := 157) (by decide +kernel) (by decide +kernel)⟩
theorem fBX_18 : gFld "DamageView$Box" 18 4 4 true := ⟨_, _, _, _, kcBX, by decide, by decide +kernel, gTbl_in (i := 159) (by decide +kernel) (by decide +kernel)⟩
theorem fBX_43 : gFld "DamageView$Box" 43 4 7 false := ⟨_, _, _, _, kcBX, by decide, by decide +kernel, gTbl_in (i := 164) (by decide +kernel) (by decide +kernel)⟩
theorem fBX_21 : gFld "DamageView$Box" 21 4 0 false := ⟨_, _, _, _, kcBX, by decide, by decide +kernel, gTbl_in (i := 151) (by decide +kernel) (by decide +kernel)⟩
theorem fBX_28 : gFld "DamageView$Box" 28 4 2 true := ⟨_, _, _, _, kcBX, by decide, by decide +kernel, gTbl_in (i := 155) (by decide +kernel) (by decide +kernel)⟩
theorem wCN_9 : gFldW "DamageView$Constraint" 9 6 1 true false (.int) := ⟨_, _, _, _, kcCN, by decide, by decide +kernel, gTbl_in (i := 309) (by decide +kernel) (by decide +kernel), rfl, rfl, fun _ => rfl⟩
theorem wCN_15 : gFldW "DamageView$Constraint" 15 6 2 true false (.int) := ⟨_, _, _, _, kcCN, by decide, by decide +kernel, gTbl_in (i := 310) (by decide +kernel) (by decide +kernel), rfl, rfl, fun _ => rfl⟩
theorem wCN_18 : gFldW "DamageView$Constraint" 18 6 3 true false (.int) := ⟨_, _, _, _, kcCN, by decide, by decide +kernel, gTbl_in (i := 311) (by decide +kernel) (by decide +kernel), rfl, rfl, fun _ => rfl⟩
theorem wCN_21 : gFldW "DamageView$Constraint" 21 6 4 true false (.int) := ⟨_, _, _, _, kcCN, by decide, by decide +kernel, gTbl_in (i := 312) (by decide +kernel) (by decide +kernel), rfl, rfl, fun _ => rfl⟩
theorem wCN_24 : gFldW "DamageView$Constraint" 24 6 0 true false (.int) := ⟨_, _, _, _, kcCN, by decide, by decide +kernel, gTbl_in (i := 307) (by decide +kernel) (by decide +kernel), rfl, rfl, fun _ => rfl⟩
theorem fCN_18 : gFld "DamageView$Constraint" 18 6 3 false := ⟨_, _, _, _, kcCN, by decide, by decide +kernel, gTbl_in (i := 311) (by decide +kernel) (by decide +kernel)⟩
theorem fCN_9 : gFld "DamageView$Constraint" 9 6 1 false := ⟨_, _, _, _, kcCN, by decide, by decide +kernel, gTbl_in (i := 309) (by decide +kernel) (by decide +kernel)⟩
theorem fCN_15 : gFld "DamageView$Constraint" 15 6 2 false := ⟨_, _, _, _, kcCN, by decide, by decide +kernel, gTbl_in (i := 310) (by decide +kernel) (by decide +kernel)⟩
theorem fCN_21 : gFld "DamageView$Constraint" 21 6 4 false := ⟨_, _, _, _, kcCN, by decide, by decide +kernel, gTbl_in (i := 312) (by decide +kernel) (by decide +kernel)⟩
theorem wLA_9 : gFldW "DamageView$Layout" 9 2 0 true true (.array .int) := ⟨_, _, _, _, kcLA, by decide, by decide +kernel, gTbl_in (i := 102) (by decide +kernel) (by decide +kernel), rfl, rfl, fun _ => rfl⟩
theorem anLA_15 : Cond.classLink "DamageView$Layout" 15 "DamageView$Constraint" ∈ gTbl := gTbl_in (i := 81) (by decide +kernel) (by decide +kernel)
theorem wLA_17 : gFldW "DamageView$Layout" 17 2 2 true true (.array (.object "DamageView$Constraint")) := ⟨_, _, _, _, kcLA, by decide, by decide +kernel, gTbl_in (i := 106) (by decide +kernel) (by decide +kernel), rfl, rfl, fun _ => rfl⟩
theorem nwLA_21 : gNw "DamageView$Layout" 21 3 3 := ⟨_, _, _, kcBD, by decide +kernel, gTbl_in (i := 83) (by decide +kernel) (by decide +kernel), gTbl_in (i := 84) (by decide +kernel) (by decide +kernel), gTbl_in (i := 40) (by decide +kernel) (by decide +kernel)⟩
theorem wLA_24 : gFldW "DamageView$Layout" 24 2 3 true true (.object "DamageView$Bounds") := ⟨_, _, _, _, kcLA, by decide, by decide +kernel, gTbl_in (i := 107) (by decide +kernel) (by decide +kernel), rfl, rfl, fun _ => rfl⟩
theorem wLA_28 : gFldW "DamageView$Layout" 28 2 4 false false (.int) := ⟨_, _, _, _, kcLA, by decide, by decide +kernel, gTbl_in (i := 108) (by decide +kernel) (by decide +kernel), rfl, rfl, fun h => by cases h⟩
theorem wLA_32 : gFldW "DamageView$Layout" 32 2 5 false false (.int) := ⟨_, _, _, _, kcLA, by decide, by decide +kernel, gTbl_in (i := 109) (by decide +kernel) (by decide +kernel), rfl, rfl, fun h => by cases h⟩
theorem fLA_9 : gFld "DamageView$Layout" 9 2 0 true := ⟨_, _, _, _, kcLA, by decide, by decide +kernel, gTbl_in (i := 102) (by decide +kernel) (by decide +kernel)⟩
theorem fLA_35 : gFld "DamageView$Layout" 35 2 1 false := ⟨_, _, _, _, kcLA, by decide, by decide +kernel, gTbl_in (i := 104) (by decide +kernel) (by decide +kernel)⟩
theorem fLA_17 : gFld "DamageView$Layout" 17 2 2 true := ⟨_, _, _, _, kcLA, by decide, by decide +kernel, gTbl_in (i := 106) (by decide +kernel) (by decide +kernel)⟩
theorem fLA_28 : gFld "DamageView$Layout" 28 2 4 false := ⟨_, _, _, _, kcLA, by decide, by decide +kernel, gTbl_in (i := 108) (by decide +kernel) (by decide +kernel)⟩
theorem fLA_32 : gFld "DamageView$Layout" 32 2 5 false := ⟨_, _, _, _, kcLA, by decide, by decide +kernel, gTbl_in (i := 109) (by decide +kernel) (by decide +kernel)⟩
theorem fLA_24 : gFld "DamageView$Layout" 24 2 3 true := ⟨_, _, _, _, kcLA, by decide, by decide +kernel, gTbl_in (i := 107) (by decide +kernel) (by decide +kernel)⟩
theorem fLA_52 : gFld "DamageView$Layout" 52 3 2 false := ⟨_, _, _, _, kcBD, by decide, by decide +kernel, gTbl_in (i := 94) (by decide +kernel) (by decide +kernel)⟩
theorem fLA_74 : gFld "DamageView$Layout" 74 6 0 false := ⟨_, _, _, _, kcCN, by decide, by decide +kernel, gTbl_in (i := 308) (by decide +kernel) (by decide +kernel)⟩
theorem wSC_9 : gFldW "DamageView$Screen" 9 1 0 true true (.array .int) := ⟨_, _, _, _, kcSC, by decide, by decide +kernel, gTbl_in (i := 61) (by decide +kernel) (by decide +kernel), rfl, rfl, fun _ => rfl⟩
theorem wSC_15 : gFldW "DamageView$Screen" 15 1 1 true true (.array .boolean) := ⟨_, _, _, _, kcSC, by decide, by decide +kernel, gTbl_in (i := 62) (by decide +kernel) (by decide +kernel), rfl, rfl, fun _ => rfl⟩
theorem fSC_15 : gFld "DamageView$Screen" 15 1 1 true := ⟨_, _, _, _, kcSC, by decide, by decide +kernel, gTbl_in (i := 62) (by decide +kernel) (by decide +kernel)⟩
theorem fSC_9 : gFld "DamageView$Screen" 9 1 0 true := ⟨_, _, _, _, kcSC, by decide, by decide +kernel, gTbl_in (i := 61) (by decide +kernel) (by decide +kernel)⟩
theorem nwDV_9 : gNw "DamageView" 9 1 2 := ⟨_, _, _, kcSC, by decide +kernel, gTbl_in (i := 55) (by decide +kernel) (by decide +kernel), gTbl_in (i := 56) (by decide +kernel) (by decide +kernel), gTbl_in (i := 38) (by decide +kernel) (by decide +kernel)⟩
theorem wDV_12 : gFldW "DamageView" 12 0 1 true true (.object "DamageView$Screen") := ⟨_, _, _, _, kcDV, by decide, by decide +kernel, gTbl_in (i := 250) (by decide +kernel) (by decide +kernel), rfl, rfl, fun _ => rfl⟩
theorem anDV_16 : Cond.classLink "DamageView" 16 "DamageView$Box" ∈ gTbl := gTbl_in (i := 70) (by decide +kernel) (by decide +kernel)
theorem wDV_18 : gFldW "DamageView" 18 0 2 true true (.array (.object "DamageView$Box")) := ⟨_, _, _, _, kcDV, by decide, by decide +kernel, gTbl_in (i := 251) (by decide +kernel) (by decide +kernel), rfl, rfl, fun _ => rfl⟩
theorem wDV_22 : gFldW "DamageView" 22 0 3 true true (.array (.object "DamageView$Box")) := ⟨_, _, _, _, kcDV, by decide, by decide +kernel, gTbl_in (i := 252) (by decide +kernel) (by decide +kernel), rfl, rfl, fun _ => rfl⟩
theorem nwDV_25 : gNw "DamageView" 25 2 6 := ⟨_, _, _, kcLA, by decide +kernel, gTbl_in (i := 72) (by decide +kernel) (by decide +kernel), gTbl_in (i := 73) (by decide +kernel) (by decide +kernel), gTbl_in (i := 39) (by decide +kernel) (by decide +kernel)⟩
theorem wDV_34 : gFldW "DamageView" 34 0 0 true true (.object "DamageView$Layout") := ⟨_, _, _, _, kcDV, by decide, by decide +kernel, gTbl_in (i := 249) (by decide +kernel) (by decide +kernel), rfl, rfl, fun _ => rfl⟩
theorem fDV_45 : gFld "DamageView" 45 0 4 false := ⟨_, _, _, _, kcDV, by decide, by decide +kernel, gTbl_in (i := 253) (by decide +kernel) (by decide +kernel)⟩
theorem fDV_18 : gFld "DamageView" 18 0 2 true := ⟨_, _, _, _, kcDV, by decide, by decide +kernel, gTbl_in (i := 251) (by decide +kernel) (by decide +kernel)⟩
theorem fDV_34 : gFld "DamageView" 34 0 0 true := ⟨_, _, _, _, kcDV, by decide, by decide +kernel, gTbl_in (i := 249) (by decide +kernel) (by decide +kernel)⟩
theorem nwDV_64 : gNw "DamageView" 64 6 5 := ⟨_, _, _, kcCN, by decide +kernel, gTbl_in (i := 301) (by decide +kernel) (by decide +kernel), gTbl_in (i := 302) (by decide +kernel) (by decide +kernel), gTbl_in (i := 45) (by decide +kernel) (by decide +kernel)⟩
theorem fDV_90 : gFld "DamageView" 90 2 0 true := ⟨_, _, _, _, kcLA, by decide, by decide +kernel, gTbl_in (i := 103) (by decide +kernel) (by decide +kernel)⟩
theorem fDV_101 : gFld "DamageView" 101 4 7 false := ⟨_, _, _, _, kcBX, by decide, by decide +kernel, gTbl_in (i := 165) (by decide +kernel) (by decide +kernel)⟩
theorem wDV_101 : gFldW "DamageView" 101 4 7 false false (.boolean) := ⟨_, _, _, _, kcBX, by decide, by decide +kernel, gTbl_in (i := 165) (by decide +kernel) (by decide +kernel), rfl, rfl, fun h => by cases h⟩
theorem fDV_12 : gFld "DamageView" 12 0 1 true := ⟨_, _, _, _, kcDV, by decide, by decide +kernel, gTbl_in (i := 250) (by decide +kernel) (by decide +kernel)⟩
theorem fDV_113 : gFld "DamageView" 113 4 3 true := ⟨_, _, _, _, kcBX, by decide, by decide +kernel, gTbl_in (i := 158) (by decide +kernel) (by decide +kernel)⟩
theorem fDV_129 : gFld "DamageView" 129 0 6 true := ⟨_, _, _, _, kcDV, by decide, by decide +kernel, gTbl_in (i := 255) (by decide +kernel) (by decide +kernel)⟩
theorem wDV_137 : gFldW "DamageView" 137 0 5 false true (.object "DamageView$Box") := ⟨_, _, _, _, kcDV, by decide, by decide +kernel, gTbl_in (i := 254) (by decide +kernel) (by decide +kernel), rfl, rfl, fun h => by cases h⟩
theorem fDV_137 : gFld "DamageView" 137 0 5 true := ⟨_, _, _, _, kcDV, by decide, by decide +kernel, gTbl_in (i := 254) (by decide +kernel) (by decide +kernel)⟩
theorem wDV_129 : gFldW "DamageView" 129 0 6 false true (.object "DamageView$Box") := ⟨_, _, _, _, kcDV, by decide, by decide +kernel, gTbl_in (i := 255) (by decide +kernel) (by decide +kernel), rfl, rfl, fun h => by cases h⟩
theorem fDV_143 : gFld "DamageView" 143 4 0 false := ⟨_, _, _, _, kcBX, by decide, by decide +kernel, gTbl_in (i := 152) (by decide +kernel) (by decide +kernel)⟩
theorem fDV_152 : gFld "DamageView" 152 4 6 false := ⟨_, _, _, _, kcBX, by decide, by decide +kernel, gTbl_in (i := 163) (by decide +kernel) (by decide +kernel)⟩
theorem nwDV_16 : gNw "DamageView" 16 4 9 := ⟨_, _, _, kcBX, by decide +kernel, gTbl_in (i := 70) (by decide +kernel) (by decide +kernel), gTbl_in (i := 127) (by decide +kernel) (by decide +kernel), gTbl_in (i := 41) (by decide +kernel) (by decide +kernel)⟩
theorem fDV_22 : gFld "DamageView" 22 0 3 true := ⟨_, _, _, _, kcDV, by decide, by decide +kernel, gTbl_in (i := 252) (by decide +kernel) (by decide +kernel)⟩
theorem wDV_45 : gFldW "DamageView" 45 0 4 false false (.int) := ⟨_, _, _, _, kcDV, by decide, by decide +kernel, gTbl_in (i := 253) (by decide +kernel) (by decide +kernel), rfl, rfl, fun h => by cases h⟩
theorem wDV_174 : gFldW "DamageView" 174 2 1 false false (.int) := ⟨_, _, _, _, kcLA, by decide, by decide +kernel, gTbl_in (i := 105) (by decide +kernel) (by decide +kernel), rfl, rfl, fun h => by cases h⟩
theorem fDV_177 : gFld "DamageView" 177 4 2 true := ⟨_, _, _, _, kcBX, by decide, by decide +kernel, gTbl_in (i := 156) (by decide +kernel) (by decide +kernel)⟩
theorem fDV_189 : gFld "DamageView" 189 4 5 false := ⟨_, _, _, _, kcBX, by decide, by decide +kernel, gTbl_in (i := 162) (by decide +kernel) (by decide +kernel)⟩
theorem wDV_152 : gFldW "DamageView" 152 4 6 false false (.int) := ⟨_, _, _, _, kcBX, by decide, by decide +kernel, gTbl_in (i := 163) (by decide +kernel) (by decide +kernel), rfl, rfl, fun h => by cases h⟩
theorem fDV_192 : gFld "DamageView" 192 4 1 false := ⟨_, _, _, _, kcBX, by decide, by decide +kernel, gTbl_in (i := 154) (by decide +kernel) (by decide +kernel)⟩
theorem fDV_195 : gFld "DamageView" 195 4 8 false := ⟨_, _, _, _, kcBX, by decide, by decide +kernel, gTbl_in (i := 166) (by decide +kernel) (by decide +kernel)⟩
theorem wDV_195 : gFldW "DamageView" 195 4 8 false false (.boolean) := ⟨_, _, _, _, kcBX, by decide, by decide +kernel, gTbl_in (i := 166) (by decide +kernel) (by decide +kernel), rfl, rfl, fun h => by cases h⟩
theorem fDV_208 : gFld "DamageView" 208 4 4 true := ⟨_, _, _, _, kcBX, by decide, by decide +kernel, gTbl_in (i := 160) (by decide +kernel) (by decide +kernel)⟩
theorem wDV_189 : gFldW "DamageView" 189 4 5 false false (.int) := ⟨_, _, _, _, kcBX, by decide, by decide +kernel, gTbl_in (i := 162) (by decide +kernel) (by decide +kernel), rfl, rfl, fun h => by cases h⟩
theorem wMO_7 : gFldW "DamageViewModel" 7 7 0 false false (.int) := ⟨_, _, _, _, kcMO, by decide, by decide +kernel, gTbl_in (i := 563) (by decide +kernel) (by decide +kernel), rfl, rfl, fun h => by cases h⟩
theorem wMO_13 : gFldW "DamageViewModel" 13 7 1 true true (.array .int) := ⟨_, _, _, _, kcMO, by decide, by decide +kernel, gTbl_in (i := 564) (by decide +kernel) (by decide +kernel), rfl, rfl, fun _ => rfl⟩
theorem wMO_17 : gFldW "DamageViewModel" 17 7 2 true true (.array .int) := ⟨_, _, _, _, kcMO, by decide, by decide +kernel, gTbl_in (i := 565) (by decide +kernel) (by decide +kernel), rfl, rfl, fun _ => rfl⟩
theorem wMO_20 : gFldW "DamageViewModel" 20 7 3 true true (.array .boolean) := ⟨_, _, _, _, kcMO, by decide, by decide +kernel, gTbl_in (i := 566) (by decide +kernel) (by decide +kernel), rfl, rfl, fun _ => rfl⟩
theorem wMO_24 : gFldW "DamageViewModel" 24 7 4 true true (.array .boolean) := ⟨_, _, _, _, kcMO, by decide, by decide +kernel, gTbl_in (i := 567) (by decide +kernel) (by decide +kernel), rfl, rfl, fun _ => rfl⟩
theorem wMO_27 : gFldW "DamageViewModel" 27 7 5 true true (.array .int) := ⟨_, _, _, _, kcMO, by decide, by decide +kernel, gTbl_in (i := 568) (by decide +kernel) (by decide +kernel), rfl, rfl, fun _ => rfl⟩
theorem wMO_30 : gFldW "DamageViewModel" 30 7 6 true true (.array .int) := ⟨_, _, _, _, kcMO, by decide, by decide +kernel, gTbl_in (i := 569) (by decide +kernel) (by decide +kernel), rfl, rfl, fun _ => rfl⟩
theorem wMO_33 : gFldW "DamageViewModel" 33 7 10 true true (.array .int) := ⟨_, _, _, _, kcMO, by decide, by decide +kernel, gTbl_in (i := 573) (by decide +kernel) (by decide +kernel), rfl, rfl, fun _ => rfl⟩
theorem wMO_36 : gFldW "DamageViewModel" 36 7 11 true true (.array .int) := ⟨_, _, _, _, kcMO, by decide, by decide +kernel, gTbl_in (i := 574) (by decide +kernel) (by decide +kernel), rfl, rfl, fun _ => rfl⟩
theorem wMO_39 : gFldW "DamageViewModel" 39 7 12 true true (.array .boolean) := ⟨_, _, _, _, kcMO, by decide, by decide +kernel, gTbl_in (i := 575) (by decide +kernel) (by decide +kernel), rfl, rfl, fun _ => rfl⟩
theorem wMO_42 : gFldW "DamageViewModel" 42 7 13 true true (.array .int) := ⟨_, _, _, _, kcMO, by decide, by decide +kernel, gTbl_in (i := 576) (by decide +kernel) (by decide +kernel), rfl, rfl, fun _ => rfl⟩
theorem wMO_45 : gFldW "DamageViewModel" 45 7 14 true true (.array .int) := ⟨_, _, _, _, kcMO, by decide, by decide +kernel, gTbl_in (i := 577) (by decide +kernel) (by decide +kernel), rfl, rfl, fun _ => rfl⟩
theorem wMO_48 : gFldW "DamageViewModel" 48 7 15 true true (.array .int) := ⟨_, _, _, _, kcMO, by decide, by decide +kernel, gTbl_in (i := 578) (by decide +kernel) (by decide +kernel), rfl, rfl, fun _ => rfl⟩
theorem wMO_51 : gFldW "DamageViewModel" 51 7 16 true true (.array .int) := ⟨_, _, _, _, kcMO, by decide, by decide +kernel, gTbl_in (i := 579) (by decide +kernel) (by decide +kernel), rfl, rfl, fun _ => rfl⟩
theorem wMO_54 : gFldW "DamageViewModel" 54 7 17 true true (.array .int) := ⟨_, _, _, _, kcMO, by decide, by decide +kernel, gTbl_in (i := 580) (by decide +kernel) (by decide +kernel), rfl, rfl, fun _ => rfl⟩
theorem wMO_57 : gFldW "DamageViewModel" 57 7 19 true true (.array .int) := ⟨_, _, _, _, kcMO, by decide, by decide +kernel, gTbl_in (i := 582) (by decide +kernel) (by decide +kernel), rfl, rfl, fun _ => rfl⟩
theorem wMO_60 : gFldW "DamageViewModel" 60 7 20 true true (.array .int) := ⟨_, _, _, _, kcMO, by decide, by decide +kernel, gTbl_in (i := 583) (by decide +kernel) (by decide +kernel), rfl, rfl, fun _ => rfl⟩
theorem wMO_63 : gFldW "DamageViewModel" 63 7 21 true true (.array .int) := ⟨_, _, _, _, kcMO, by decide, by decide +kernel, gTbl_in (i := 584) (by decide +kernel) (by decide +kernel), rfl, rfl, fun _ => rfl⟩
theorem wMO_66 : gFldW "DamageViewModel" 66 7 22 true true (.array .int) := ⟨_, _, _, _, kcMO, by decide, by decide +kernel, gTbl_in (i := 585) (by decide +kernel) (by decide +kernel), rfl, rfl, fun _ => rfl⟩
theorem wMO_69 : gFldW "DamageViewModel" 69 7 23 false false (.int) := ⟨_, _, _, _, kcMO, by decide, by decide +kernel, gTbl_in (i := 586) (by decide +kernel) (by decide +kernel), rfl, rfl, fun h => by cases h⟩
theorem wMO_72 : gFldW "DamageViewModel" 72 7 24 false false (.int) := ⟨_, _, _, _, kcMO, by decide, by decide +kernel, gTbl_in (i := 587) (by decide +kernel) (by decide +kernel), rfl, rfl, fun h => by cases h⟩
theorem wMO_75 : gFldW "DamageViewModel" 75 7 25 true true (.array .boolean) := ⟨_, _, _, _, kcMO, by decide, by decide +kernel, gTbl_in (i := 588) (by decide +kernel) (by decide +kernel), rfl, rfl, fun _ => rfl⟩
theorem wMO_78 : gFldW "DamageViewModel" 78 7 26 true true (.array .int) := ⟨_, _, _, _, kcMO, by decide, by decide +kernel, gTbl_in (i := 589) (by decide +kernel) (by decide +kernel), rfl, rfl, fun _ => rfl⟩
theorem wMO_81 : gFldW "DamageViewModel" 81 7 27 true true (.array .boolean) := ⟨_, _, _, _, kcMO, by decide, by decide +kernel, gTbl_in (i := 590) (by decide +kernel) (by decide +kernel), rfl, rfl, fun _ => rfl⟩
theorem wMO_84 : gFldW "DamageViewModel" 84 7 28 true true (.array .int) := ⟨_, _, _, _, kcMO, by decide, by decide +kernel, gTbl_in (i := 591) (by decide +kernel) (by decide +kernel), rfl, rfl, fun _ => rfl⟩
theorem wMO_87 : gFldW "DamageViewModel" 87 7 8 false false (.int) := ⟨_, _, _, _, kcMO, by decide, by decide +kernel, gTbl_in (i := 571) (by decide +kernel) (by decide +kernel), rfl, rfl, fun h => by cases h⟩
theorem wMO_90 : gFldW "DamageViewModel" 90 7 9 false false (.int) := ⟨_, _, _, _, kcMO, by decide, by decide +kernel, gTbl_in (i := 572) (by decide +kernel) (by decide +kernel), rfl, rfl, fun h => by cases h⟩
theorem fMO_33 : gFld "DamageViewModel" 33 7 10 true := ⟨_, _, _, _, kcMO, by decide, by decide +kernel, gTbl_in (i := 573) (by decide +kernel) (by decide +kernel)⟩
theorem fMO_87 : gFld "DamageViewModel" 87 7 8 false := ⟨_, _, _, _, kcMO, by decide, by decide +kernel, gTbl_in (i := 571) (by decide +kernel) (by decide +kernel)⟩
theorem fMO_90 : gFld "DamageViewModel" 90 7 9 false := ⟨_, _, _, _, kcMO, by decide, by decide +kernel, gTbl_in (i := 572) (by decide +kernel) (by decide +kernel)⟩
theorem fMO_17 : gFld "DamageViewModel" 17 7 2 true := ⟨_, _, _, _, kcMO, by decide, by decide +kernel, gTbl_in (i := 565) (by decide +kernel) (by decide +kernel)⟩
theorem fMO_20 : gFld "DamageViewModel" 20 7 3 true := ⟨_, _, _, _, kcMO, by decide, by decide +kernel, gTbl_in (i := 566) (by decide +kernel) (by decide +kernel)⟩
theorem fMO_13 : gFld "DamageViewModel" 13 7 1 true := ⟨_, _, _, _, kcMO, by decide, by decide +kernel, gTbl_in (i := 564) (by decide +kernel) (by decide +kernel)⟩
theorem fMO_24 : gFld "DamageViewModel" 24 7 4 true := ⟨_, _, _, _, kcMO, by decide, by decide +kernel, gTbl_in (i := 567) (by decide +kernel) (by decide +kernel)⟩
theorem fMO_69 : gFld "DamageViewModel" 69 7 23 false := ⟨_, _, _, _, kcMO, by decide, by decide +kernel, gTbl_in (i := 586) (by decide +kernel) (by decide +kernel)⟩
theorem fMO_72 : gFld "DamageViewModel" 72 7 24 false := ⟨_, _, _, _, kcMO, by decide, by decide +kernel, gTbl_in (i := 587) (by decide +kernel) (by decide +kernel)⟩
theorem fMO_7 : gFld "DamageViewModel" 7 7 0 false := ⟨_, _, _, _, kcMO, by decide, by decide +kernel, gTbl_in (i := 563) (by decide +kernel) (by decide +kernel)⟩
theorem fMO_78 : gFld "DamageViewModel" 78 7 26 true := ⟨_, _, _, _, kcMO, by decide, by decide +kernel, gTbl_in (i := 589) (by decide +kernel) (by decide +kernel)⟩
theorem fMO_75 : gFld "DamageViewModel" 75 7 25 true := ⟨_, _, _, _, kcMO, by decide, by decide +kernel, gTbl_in (i := 588) (by decide +kernel) (by decide +kernel)⟩
theorem fMO_81 : gFld "DamageViewModel" 81 7 27 true := ⟨_, _, _, _, kcMO, by decide, by decide +kernel, gTbl_in (i := 590) (by decide +kernel) (by decide +kernel)⟩
theorem fMO_57 : gFld "DamageViewModel" 57 7 19 true := ⟨_, _, _, _, kcMO, by decide, by decide +kernel, gTbl_in (i := 582) (by decide +kernel) (by decide +kernel)⟩
theorem fMO_114 : gFld "DamageViewModel" 114 7 18 false := ⟨_, _, _, _, kcMO, by decide, by decide +kernel, gTbl_in (i := 581) (by decide +kernel) (by decide +kernel)⟩
theorem fMO_60 : gFld "DamageViewModel" 60 7 20 true := ⟨_, _, _, _, kcMO, by decide, by decide +kernel, gTbl_in (i := 583) (by decide +kernel) (by decide +kernel)⟩
theorem fMO_63 : gFld "DamageViewModel" 63 7 21 true := ⟨_, _, _, _, kcMO, by decide, by decide +kernel, gTbl_in (i := 584) (by decide +kernel) (by decide +kernel)⟩
theorem wMO_114 : gFldW "DamageViewModel" 114 7 18 false false (.int) := ⟨_, _, _, _, kcMO, by decide, by decide +kernel, gTbl_in (i := 581) (by decide +kernel) (by decide +kernel), rfl, rfl, fun h => by cases h⟩
theorem fMO_66 : gFld "DamageViewModel" 66 7 22 true := ⟨_, _, _, _, kcMO, by decide, by decide +kernel, gTbl_in (i := 585) (by decide +kernel) (by decide +kernel)⟩
theorem kMO_124 : Cond.constant "DamageViewModel" 124 268435456 ∈ gTbl := gTbl_in (i := 698) (by decide +kernel) (by decide +kernel)
theorem fMO_45 : gFld "DamageViewModel" 45 7 14 true := ⟨_, _, _, _, kcMO, by decide, by decide +kernel, gTbl_in (i := 577) (by decide +kernel) (by decide +kernel)⟩
theorem fMO_42 : gFld "DamageViewModel" 42 7 13 true := ⟨_, _, _, _, kcMO, by decide, by decide +kernel, gTbl_in (i := 576) (by decide +kernel) (by decide +kernel)⟩
theorem fMO_51 : gFld "DamageViewModel" 51 7 16 true := ⟨_, _, _, _, kcMO, by decide, by decide +kernel, gTbl_in (i := 579) (by decide +kernel) (by decide +kernel)⟩
theorem fMO_48 : gFld "DamageViewModel" 48 7 15 true := ⟨_, _, _, _, kcMO, by decide, by decide +kernel, gTbl_in (i := 578) (by decide +kernel) (by decide +kernel)⟩
theorem fMO_39 : gFld "DamageViewModel" 39 7 12 true := ⟨_, _, _, _, kcMO, by decide, by decide +kernel, gTbl_in (i := 575) (by decide +kernel) (by decide +kernel)⟩
theorem fMO_54 : gFld "DamageViewModel" 54 7 17 true := ⟨_, _, _, _, kcMO, by decide, by decide +kernel, gTbl_in (i := 580) (by decide +kernel) (by decide +kernel)⟩
theorem fMO_36 : gFld "DamageViewModel" 36 7 11 true := ⟨_, _, _, _, kcMO, by decide, by decide +kernel, gTbl_in (i := 574) (by decide +kernel) (by decide +kernel)⟩
theorem fMO_156 : gFld "DamageViewModel" 156 7 7 false := ⟨_, _, _, _, kcMO, by decide, by decide +kernel, gTbl_in (i := 570) (by decide +kernel) (by decide +kernel)⟩
theorem wMO_156 : gFldW "DamageViewModel" 156 7 7 false false (.int) := ⟨_, _, _, _, kcMO, by decide, by decide +kernel, gTbl_in (i := 570) (by decide +kernel) (by decide +kernel), rfl, rfl, fun h => by cases h⟩
theorem fMO_30 : gFld "DamageViewModel" 30 7 6 true := ⟨_, _, _, _, kcMO, by decide, by decide +kernel, gTbl_in (i := 569) (by decide +kernel) (by decide +kernel)⟩
theorem fMO_27 : gFld "DamageViewModel" 27 7 5 true := ⟨_, _, _, _, kcMO, by decide, by decide +kernel, gTbl_in (i := 568) (by decide +kernel) (by decide +kernel)⟩
theorem fMO_84 : gFld "DamageViewModel" 84 7 28 true := ⟨_, _, _, _, kcMO, by decide, by decide +kernel, gTbl_in (i := 591) (by decide +kernel) (by decide +kernel)⟩
theorem nwLW_7 : gNw "DamageViewLaw" 7 0 7 := ⟨_, _, _, kcDV, by decide +kernel, gTbl_in (i := 47) (by decide +kernel) (by decide +kernel), gTbl_in (i := 48) (by decide +kernel) (by decide +kernel), gTbl_in (i := 37) (by decide +kernel) (by decide +kernel)⟩
theorem nwLW_18 : gNw "DamageViewLaw" 18 7 29 := ⟨_, _, _, kcMO, by decide +kernel, gTbl_in (i := 533) (by decide +kernel) (by decide +kernel), gTbl_in (i := 534) (by decide +kernel) (by decide +kernel), gTbl_in (i := 44) (by decide +kernel) (by decide +kernel)⟩
theorem aI : Cond.arrayClass FieldType.int ∈ gTbl := gTbl_in (i := 68) (by decide +kernel) (by decide +kernel)
theorem aZ : Cond.arrayClass FieldType.boolean ∈ gTbl := gTbl_in (i := 69) (by decide +kernel) (by decide +kernel)
theorem qDV_init : Cond.code mDV_init.1 mDV_init.2.1 mDV_init.2.2.1 mDV_init.2.2.2.1 ∈ gTbl ∧ Cond.initialized mDV_init.1.cls ∈ gTbl := ⟨gTbl_in (i := 51) (by decide +kernel) (by decide +kernel), gTbl_in (i := 37) (by decide +kernel) (by decide +kernel)⟩
theorem qSC_init : Cond.code mSC_init.1 mSC_init.2.1 mSC_init.2.2.1 mSC_init.2.2.2.1 ∈ gTbl ∧ Cond.initialized mSC_init.1.cls ∈ gTbl := ⟨gTbl_in (i := 59) (by decide +kernel) (by decide +kernel), gTbl_in (i := 38) (by decide +kernel) (by decide +kernel)⟩
theorem qDV_nearest : Cond.code mDV_nearest.1 mDV_nearest.2.1 mDV_nearest.2.2.1 mDV_nearest.2.2.2.1 ∈ gTbl ∧ Cond.initialized mDV_nearest.1.cls ∈ gTbl := ⟨gTbl_in (i := 76) (by decide +kernel) (by decide +kernel), gTbl_in (i := 37) (by decide +kernel) (by decide +kernel)⟩
theorem qLA_init : Cond.code mLA_init.1 mLA_init.2.1 mLA_init.2.2.1 mLA_init.2.2.2.1 ∈ gTbl ∧ Cond.initialized mLA_init.1.cls ∈ gTbl := ⟨gTbl_in (i := 79) (by decide +kernel) (by decide +kernel), gTbl_in (i := 39) (by decide +kernel) (by decide +kernel)⟩
theorem qBD_init : Cond.code mBD_init.1 mBD_init.2.1 mBD_init.2.2.1 mBD_init.2.2.2.1 ∈ gTbl ∧ Cond.initialized mBD_init.1.cls ∈ gTbl := ⟨gTbl_in (i := 87) (by decide +kernel) (by decide +kernel), gTbl_in (i := 40) (by decide +kernel) (by decide +kernel)⟩
theorem qDV_addBox : Cond.code mDV_addBox.1 mDV_addBox.2.1 mDV_addBox.2.2.1 mDV_addBox.2.2.2.1 ∈ gTbl ∧ Cond.initialized mDV_addBox.1.cls ∈ gTbl := ⟨gTbl_in (i := 126) (by decide +kernel) (by decide +kernel), gTbl_in (i := 37) (by decide +kernel) (by decide +kernel)⟩
theorem qBX_init : Cond.code mBX_init.1 mBX_init.2.1 mBX_init.2.2.1 mBX_init.2.2.2.1 ∈ gTbl ∧ Cond.initialized mBX_init.1.cls ∈ gTbl := ⟨gTbl_in (i := 130) (by decide +kernel) (by decide +kernel), gTbl_in (i := 41) (by decide +kernel) (by decide +kernel)⟩
theorem qAR_init : Cond.code mAR_init.1 mAR_init.2.1 mAR_init.2.2.1 mAR_init.2.2.2.1 ∈ gTbl ∧ Cond.initialized mAR_init.1.cls ∈ gTbl := ⟨gTbl_in (i := 136) (by decide +kernel) (by decide +kernel), gTbl_in (i := 42) (by decide +kernel) (by decide +kernel)⟩
theorem qDV_showChanges : Cond.code mDV_showChanges.1 mDV_showChanges.2.1 mDV_showChanges.2.2.1 mDV_showChanges.2.2.2.1 ∈ gTbl ∧ Cond.initialized mDV_showChanges.1.cls ∈ gTbl := ⟨gTbl_in (i := 189) (by decide +kernel) (by decide +kernel), gTbl_in (i := 37) (by decide +kernel) (by decide +kernel)⟩
theorem qBX_findArea : Cond.code mBX_findArea.1 mBX_findArea.2.1 mBX_findArea.2.2.1 mBX_findArea.2.2.2.1 ∈ gTbl ∧ Cond.initialized mBX_findArea.1.cls ∈ gTbl := ⟨gTbl_in (i := 193) (by decide +kernel) (by decide +kernel), gTbl_in (i := 41) (by decide +kernel) (by decide +kernel)⟩
theorem qAR_copyFrom : Cond.code mAR_copyFrom.1 mAR_copyFrom.2.1 mAR_copyFrom.2.2.1 mAR_copyFrom.2.2.2.1 ∈ gTbl ∧ Cond.initialized mAR_copyFrom.1.cls ∈ gTbl := ⟨gTbl_in (i := 197) (by decide +kernel) (by decide +kernel), gTbl_in (i := 42) (by decide +kernel) (by decide +kernel)⟩
theorem qAR_makeEmpty : Cond.code mAR_makeEmpty.1 mAR_makeEmpty.2.1 mAR_makeEmpty.2.2.1 mAR_makeEmpty.2.2.2.1 ∈ gTbl ∧ Cond.initialized mAR_makeEmpty.1.cls ∈ gTbl := ⟨gTbl_in (i := 201) (by decide +kernel) (by decide +kernel), gTbl_in (i := 42) (by decide +kernel) (by decide +kernel)⟩
theorem qAR_takeEdges : Cond.code mAR_takeEdges.1 mAR_takeEdges.2.1 mAR_takeEdges.2.2.1 mAR_takeEdges.2.2.2.1 ∈ gTbl ∧ Cond.initialized mAR_takeEdges.1.cls ∈ gTbl := ⟨gTbl_in (i := 205) (by decide +kernel) (by decide +kernel), gTbl_in (i := 42) (by decide +kernel) (by decide +kernel)⟩
theorem qAR_cutTo : Cond.code mAR_cutTo.1 mAR_cutTo.2.1 mAR_cutTo.2.2.1 mAR_cutTo.2.2.2.1 ∈ gTbl ∧ Cond.initialized mAR_cutTo.1.cls ∈ gTbl := ⟨gTbl_in (i := 209) (by decide +kernel) (by decide +kernel), gTbl_in (i := 42) (by decide +kernel) (by decide +kernel)⟩
theorem qAR_isEmpty : Cond.code mAR_isEmpty.1 mAR_isEmpty.2.1 mAR_isEmpty.2.2.1 mAR_isEmpty.2.2.2.1 ∈ gTbl ∧ Cond.initialized mAR_isEmpty.1.cls ∈ gTbl := ⟨gTbl_in (i := 219) (by decide +kernel) (by decide +kernel), gTbl_in (i := 42) (by decide +kernel) (by decide +kernel)⟩
theorem qBX_canHaveAttention : Cond.code mBX_canHaveAttention.1 mBX_canHaveAttention.2.1 mBX_canHaveAttention.2.2.1 mBX_canHaveAttention.2.2.2.1 ∈ gTbl ∧ Cond.initialized mBX_canHaveAttention.1.cls ∈ gTbl := ⟨gTbl_in (i := 224) (by decide +kernel) (by decide +kernel), gTbl_in (i := 41) (by decide +kernel) (by decide +kernel)⟩
theorem qDV_showBox : Cond.code mDV_showBox.1 mDV_showBox.2.1 mDV_showBox.2.2.1 mDV_showBox.2.2.2.1 ∈ gTbl ∧ Cond.initialized mDV_showBox.1.cls ∈ gTbl := ⟨gTbl_in (i := 229) (by decide +kernel) (by decide +kernel), gTbl_in (i := 37) (by decide +kernel) (by decide +kernel)⟩
theorem qDV_colourOf : Cond.code mDV_colourOf.1 mDV_colourOf.2.1 mDV_colourOf.2.2.1 mDV_colourOf.2.2.2.1 ∈ gTbl ∧ Cond.initialized mDV_colourOf.1.cls ∈ gTbl := ⟨gTbl_in (i := 233) (by decide +kernel) (by decide +kernel), gTbl_in (i := 37) (by decide +kernel) (by decide +kernel)⟩
theorem qAR_isSameAs : Cond.code mAR_isSameAs.1 mAR_isSameAs.2.1 mAR_isSameAs.2.2.1 mAR_isSameAs.2.2.2.1 ∈ gTbl ∧ Cond.initialized mAR_isSameAs.1.cls ∈ gTbl := ⟨gTbl_in (i := 237) (by decide +kernel) (by decide +kernel), gTbl_in (i := 42) (by decide +kernel) (by decide +kernel)⟩
theorem qSC_damageArea : Cond.code mSC_damageArea.1 mSC_damageArea.2.1 mSC_damageArea.2.2.1 mSC_damageArea.2.2.2.1 ∈ gTbl ∧ Cond.initialized mSC_damageArea.1.cls ∈ gTbl := ⟨gTbl_in (i := 241) (by decide +kernel) (by decide +kernel), gTbl_in (i := 38) (by decide +kernel) (by decide +kernel)⟩
theorem qAR_has : Cond.code mAR_has.1 mAR_has.2.1 mAR_has.2.2.1 mAR_has.2.2.2.1 ∈ gTbl ∧ Cond.initialized mAR_has.1.cls ∈ gTbl := ⟨gTbl_in (i := 245) (by decide +kernel) (by decide +kernel), gTbl_in (i := 42) (by decide +kernel) (by decide +kernel)⟩
theorem qSC_pointOf : Cond.code mSC_pointOf.1 mSC_pointOf.2.1 mSC_pointOf.2.2.1 mSC_pointOf.2.2.2.1 ∈ gTbl ∧ Cond.initialized mSC_pointOf.1.cls ∈ gTbl := ⟨gTbl_in (i := 248) (by decide +kernel) (by decide +kernel), gTbl_in (i := 38) (by decide +kernel) (by decide +kernel)⟩
theorem qDV_box : Cond.code mDV_box.1 mDV_box.2.1 mDV_box.2.2.1 mDV_box.2.2.2.1 ∈ gTbl ∧ Cond.initialized mDV_box.1.cls ∈ gTbl := ⟨gTbl_in (i := 274) (by decide +kernel) (by decide +kernel), gTbl_in (i := 37) (by decide +kernel) (by decide +kernel)⟩
theorem qDV_isBox : Cond.code mDV_isBox.1 mDV_isBox.2.1 mDV_isBox.2.2.1 mDV_isBox.2.2.2.1 ∈ gTbl ∧ Cond.initialized mDV_isBox.1.cls ∈ gTbl := ⟨gTbl_in (i := 278) (by decide +kernel) (by decide +kernel), gTbl_in (i := 37) (by decide +kernel) (by decide +kernel)⟩
theorem qDV_constrain : Cond.code mDV_constrain.1 mDV_constrain.2.1 mDV_constrain.2.2.1 mDV_constrain.2.2.2.1 ∈ gTbl ∧ Cond.initialized mDV_constrain.1.cls ∈ gTbl := ⟨gTbl_in (i := 282) (by decide +kernel) (by decide +kernel), gTbl_in (i := 37) (by decide +kernel) (by decide +kernel)⟩
theorem qLA_canJoin : Cond.code mLA_canJoin.1 mLA_canJoin.2.1 mLA_canJoin.2.2.1 mLA_canJoin.2.2.2.1 ∈ gTbl ∧ Cond.initialized mLA_canJoin.1.cls ∈ gTbl := ⟨gTbl_in (i := 286) (by decide +kernel) (by decide +kernel), gTbl_in (i := 39) (by decide +kernel) (by decide +kernel)⟩
theorem qLA_isEdge : Cond.code mLA_isEdge.1 mLA_isEdge.2.1 mLA_isEdge.2.2.1 mLA_isEdge.2.2.2.1 ∈ gTbl ∧ Cond.initialized mLA_isEdge.1.cls ∈ gTbl := ⟨gTbl_in (i := 290) (by decide +kernel) (by decide +kernel), gTbl_in (i := 39) (by decide +kernel) (by decide +kernel)⟩
theorem qLA_isTopOrBottom : Cond.code mLA_isTopOrBottom.1 mLA_isTopOrBottom.2.1 mLA_isTopOrBottom.2.2.1 mLA_isTopOrBottom.2.2.2.1 ∈ gTbl ∧ Cond.initialized mLA_isTopOrBottom.1.cls ∈ gTbl := ⟨gTbl_in (i := 293) (by decide +kernel) (by decide +kernel), gTbl_in (i := 39) (by decide +kernel) (by decide +kernel)⟩
theorem qDV_isNear : Cond.code mDV_isNear.1 mDV_isNear.2.1 mDV_isNear.2.2.1 mDV_isNear.2.2.2.1 ∈ gTbl ∧ Cond.initialized mDV_isNear.1.cls ∈ gTbl := ⟨gTbl_in (i := 296) (by decide +kernel) (by decide +kernel), gTbl_in (i := 37) (by decide +kernel) (by decide +kernel)⟩
theorem qLA_freeNumber : Cond.code mLA_freeNumber.1 mLA_freeNumber.2.1 mLA_freeNumber.2.2.1 mLA_freeNumber.2.2.2.1 ∈ gTbl ∧ Cond.initialized mLA_freeNumber.1.cls ∈ gTbl := ⟨gTbl_in (i := 300) (by decide +kernel) (by decide +kernel), gTbl_in (i := 39) (by decide +kernel) (by decide +kernel)⟩
theorem qCN_init : Cond.code mCN_init.1 mCN_init.2.1 mCN_init.2.2.1 mCN_init.2.2.2.1 ∈ gTbl ∧ Cond.initialized mCN_init.1.cls ∈ gTbl := ⟨gTbl_in (i := 305) (by decide +kernel) (by decide +kernel), gTbl_in (i := 45) (by decide +kernel) (by decide +kernel)⟩
theorem qLA_add : Cond.code mLA_add.1 mLA_add.2.1 mLA_add.2.2.1 mLA_add.2.2.2.1 ∈ gTbl ∧ Cond.initialized mLA_add.1.cls ∈ gTbl := ⟨gTbl_in (i := 327) (by decide +kernel) (by decide +kernel), gTbl_in (i := 39) (by decide +kernel) (by decide +kernel)⟩
theorem qLA_solve : Cond.code mLA_solve.1 mLA_solve.2.1 mLA_solve.2.2.1 mLA_solve.2.2.2.1 ∈ gTbl ∧ Cond.initialized mLA_solve.1.cls ∈ gTbl := ⟨gTbl_in (i := 331) (by decide +kernel) (by decide +kernel), gTbl_in (i := 39) (by decide +kernel) (by decide +kernel)⟩
theorem qLA_demandAll : Cond.code mLA_demandAll.1 mLA_demandAll.2.1 mLA_demandAll.2.2.1 mLA_demandAll.2.2.2.1 ∈ gTbl ∧ Cond.initialized mLA_demandAll.1.cls ∈ gTbl := ⟨gTbl_in (i := 335) (by decide +kernel) (by decide +kernel), gTbl_in (i := 39) (by decide +kernel) (by decide +kernel)⟩
theorem qBD_open : Cond.code mBD_open.1 mBD_open.2.1 mBD_open.2.2.1 mBD_open.2.2.2.1 ∈ gTbl ∧ Cond.initialized mBD_open.1.cls ∈ gTbl := ⟨gTbl_in (i := 339) (by decide +kernel) (by decide +kernel), gTbl_in (i := 40) (by decide +kernel) (by decide +kernel)⟩
theorem qJF_fill : Cond.code mJF_fill.1 mJF_fill.2.1 mJF_fill.2.2.1 mJF_fill.2.2.2.1 ∈ gTbl ∧ Cond.initialized mJF_fill.1.cls ∈ gTbl := ⟨gTbl_in (i := 344) (by decide +kernel) (by decide +kernel), gTbl_in (i := 46) (by decide +kernel) (by decide +kernel)⟩
theorem qBD_fix : Cond.code mBD_fix.1 mBD_fix.2.1 mBD_fix.2.2.1 mBD_fix.2.2.2.1 ∈ gTbl ∧ Cond.initialized mBD_fix.1.cls ∈ gTbl := ⟨gTbl_in (i := 348) (by decide +kernel) (by decide +kernel), gTbl_in (i := 40) (by decide +kernel) (by decide +kernel)⟩
theorem qBD_keepAtMost : Cond.code mBD_keepAtMost.1 mBD_keepAtMost.2.1 mBD_keepAtMost.2.2.1 mBD_keepAtMost.2.2.2.1 ∈ gTbl ∧ Cond.initialized mBD_keepAtMost.1.cls ∈ gTbl := ⟨gTbl_in (i := 352) (by decide +kernel) (by decide +kernel), gTbl_in (i := 40) (by decide +kernel) (by decide +kernel)⟩
theorem qBD_keepAtLeast : Cond.code mBD_keepAtLeast.1 mBD_keepAtLeast.2.1 mBD_keepAtLeast.2.2.1 mBD_keepAtLeast.2.2.2.1 ∈ gTbl ∧ Cond.initialized mBD_keepAtLeast.1.cls ∈ gTbl := ⟨gTbl_in (i := 356) (by decide +kernel) (by decide +kernel), gTbl_in (i := 40) (by decide +kernel) (by decide +kernel)⟩
theorem qCN_demandIn : Cond.code mCN_demandIn.1 mCN_demandIn.2.1 mCN_demandIn.2.2.1 mCN_demandIn.2.2.2.1 ∈ gTbl ∧ Cond.initialized mCN_demandIn.1.cls ∈ gTbl := ⟨gTbl_in (i := 360) (by decide +kernel) (by decide +kernel), gTbl_in (i := 45) (by decide +kernel) (by decide +kernel)⟩
theorem qLA_chooseBest : Cond.code mLA_chooseBest.1 mLA_chooseBest.2.1 mLA_chooseBest.2.2.1 mLA_chooseBest.2.2.2.1 ∈ gTbl ∧ Cond.initialized mLA_chooseBest.1.cls ∈ gTbl := ⟨gTbl_in (i := 366) (by decide +kernel) (by decide +kernel), gTbl_in (i := 39) (by decide +kernel) (by decide +kernel)⟩
theorem qCN_leastErrorIn : Cond.code mCN_leastErrorIn.1 mCN_leastErrorIn.2.1 mCN_leastErrorIn.2.2.1 mCN_leastErrorIn.2.2.2.1 ∈ gTbl ∧ Cond.initialized mCN_leastErrorIn.1.cls ∈ gTbl := ⟨gTbl_in (i := 370) (by decide +kernel) (by decide +kernel), gTbl_in (i := 45) (by decide +kernel) (by decide +kernel)⟩
theorem qBD_fixNear : Cond.code mBD_fixNear.1 mBD_fixNear.2.1 mBD_fixNear.2.2.1 mBD_fixNear.2.2.2.1 ∈ gTbl ∧ Cond.initialized mBD_fixNear.1.cls ∈ gTbl := ⟨gTbl_in (i := 374) (by decide +kernel) (by decide +kernel), gTbl_in (i := 40) (by decide +kernel) (by decide +kernel)⟩
theorem qBD_lowest : Cond.code mBD_lowest.1 mBD_lowest.2.1 mBD_lowest.2.2.1 mBD_lowest.2.2.2.1 ∈ gTbl ∧ Cond.initialized mBD_lowest.1.cls ∈ gTbl := ⟨gTbl_in (i := 378) (by decide +kernel) (by decide +kernel), gTbl_in (i := 40) (by decide +kernel) (by decide +kernel)⟩
theorem qBD_highest : Cond.code mBD_highest.1 mBD_highest.2.1 mBD_highest.2.2.1 mBD_highest.2.2.2.1 ∈ gTbl ∧ Cond.initialized mBD_highest.1.cls ∈ gTbl := ⟨gTbl_in (i := 382) (by decide +kernel) (by decide +kernel), gTbl_in (i := 40) (by decide +kernel) (by decide +kernel)⟩
theorem qDV_remove : Cond.code mDV_remove.1 mDV_remove.2.1 mDV_remove.2.2.1 mDV_remove.2.2.2.1 ∈ gTbl ∧ Cond.initialized mDV_remove.1.cls ∈ gTbl := ⟨gTbl_in (i := 390) (by decide +kernel) (by decide +kernel), gTbl_in (i := 37) (by decide +kernel) (by decide +kernel)⟩
theorem qLA_constraintAt : Cond.code mLA_constraintAt.1 mLA_constraintAt.2.1 mLA_constraintAt.2.2.1 mLA_constraintAt.2.2.2.1 ∈ gTbl ∧ Cond.initialized mLA_constraintAt.1.cls ∈ gTbl := ⟨gTbl_in (i := 394) (by decide +kernel) (by decide +kernel), gTbl_in (i := 39) (by decide +kernel) (by decide +kernel)⟩
theorem qLA_takeAway : Cond.code mLA_takeAway.1 mLA_takeAway.2.1 mLA_takeAway.2.2.1 mLA_takeAway.2.2.2.1 ∈ gTbl ∧ Cond.initialized mLA_takeAway.1.cls ∈ gTbl := ⟨gTbl_in (i := 398) (by decide +kernel) (by decide +kernel), gTbl_in (i := 39) (by decide +kernel) (by decide +kernel)⟩
theorem qDV_suggest : Cond.code mDV_suggest.1 mDV_suggest.2.1 mDV_suggest.2.2.1 mDV_suggest.2.2.2.1 ∈ gTbl ∧ Cond.initialized mDV_suggest.1.cls ∈ gTbl := ⟨gTbl_in (i := 402) (by decide +kernel) (by decide +kernel), gTbl_in (i := 37) (by decide +kernel) (by decide +kernel)⟩
theorem qLA_solveNear : Cond.code mLA_solveNear.1 mLA_solveNear.2.1 mLA_solveNear.2.2.1 mLA_solveNear.2.2.2.1 ∈ gTbl ∧ Cond.initialized mLA_solveNear.1.cls ∈ gTbl := ⟨gTbl_in (i := 407) (by decide +kernel) (by decide +kernel), gTbl_in (i := 39) (by decide +kernel) (by decide +kernel)⟩
theorem qDV_resize : Cond.code mDV_resize.1 mDV_resize.2.1 mDV_resize.2.2.1 mDV_resize.2.2.2.1 ∈ gTbl ∧ Cond.initialized mDV_resize.1.cls ∈ gTbl := ⟨gTbl_in (i := 411) (by decide +kernel) (by decide +kernel), gTbl_in (i := 37) (by decide +kernel) (by decide +kernel)⟩
theorem qLA_setSize : Cond.code mLA_setSize.1 mLA_setSize.2.1 mLA_setSize.2.2.1 mLA_setSize.2.2.2.1 ∈ gTbl ∧ Cond.initialized mLA_setSize.1.cls ∈ gTbl := ⟨gTbl_in (i := 415) (by decide +kernel) (by decide +kernel), gTbl_in (i := 39) (by decide +kernel) (by decide +kernel)⟩
theorem qDV_place : Cond.code mDV_place.1 mDV_place.2.1 mDV_place.2.2.1 mDV_place.2.2.2.1 ∈ gTbl ∧ Cond.initialized mDV_place.1.cls ∈ gTbl := ⟨gTbl_in (i := 419) (by decide +kernel) (by decide +kernel), gTbl_in (i := 37) (by decide +kernel) (by decide +kernel)⟩
theorem qDV_error : Cond.code mDV_error.1 mDV_error.2.1 mDV_error.2.2.1 mDV_error.2.2.2.1 ∈ gTbl ∧ Cond.initialized mDV_error.1.cls ∈ gTbl := ⟨gTbl_in (i := 423) (by decide +kernel) (by decide +kernel), gTbl_in (i := 37) (by decide +kernel) (by decide +kernel)⟩
theorem qCN_errorIn : Cond.code mCN_errorIn.1 mCN_errorIn.2.1 mCN_errorIn.2.2.1 mCN_errorIn.2.2.2.1 ∈ gTbl ∧ Cond.initialized mCN_errorIn.1.cls ∈ gTbl := ⟨gTbl_in (i := 427) (by decide +kernel) (by decide +kernel), gTbl_in (i := 45) (by decide +kernel) (by decide +kernel)⟩
theorem qDV_hide : Cond.code mDV_hide.1 mDV_hide.2.1 mDV_hide.2.2.1 mDV_hide.2.2.2.1 ∈ gTbl ∧ Cond.initialized mDV_hide.1.cls ∈ gTbl := ⟨gTbl_in (i := 435) (by decide +kernel) (by decide +kernel), gTbl_in (i := 37) (by decide +kernel) (by decide +kernel)⟩
theorem qDV_isInnerBox : Cond.code mDV_isInnerBox.1 mDV_isInnerBox.2.1 mDV_isInnerBox.2.2.1 mDV_isInnerBox.2.2.2.1 ∈ gTbl ∧ Cond.initialized mDV_isInnerBox.1.cls ∈ gTbl := ⟨gTbl_in (i := 439) (by decide +kernel) (by decide +kernel), gTbl_in (i := 37) (by decide +kernel) (by decide +kernel)⟩
theorem qDV_raise : Cond.code mDV_raise.1 mDV_raise.2.1 mDV_raise.2.2.1 mDV_raise.2.2.2.1 ∈ gTbl ∧ Cond.initialized mDV_raise.1.cls ∈ gTbl := ⟨gTbl_in (i := 443) (by decide +kernel) (by decide +kernel), gTbl_in (i := 37) (by decide +kernel) (by decide +kernel)⟩
theorem qDV_isLastOfItsParent : Cond.code mDV_isLastOfItsParent.1 mDV_isLastOfItsParent.2.1 mDV_isLastOfItsParent.2.2.1 mDV_isLastOfItsParent.2.2.2.1 ∈ gTbl ∧ Cond.initialized mDV_isLastOfItsParent.1.cls ∈ gTbl := ⟨gTbl_in (i := 447) (by decide +kernel) (by decide +kernel), gTbl_in (i := 37) (by decide +kernel) (by decide +kernel)⟩
theorem qDV_bringToFront : Cond.code mDV_bringToFront.1 mDV_bringToFront.2.1 mDV_bringToFront.2.2.1 mDV_bringToFront.2.2.2.1 ∈ gTbl ∧ Cond.initialized mDV_bringToFront.1.cls ∈ gTbl := ⟨gTbl_in (i := 451) (by decide +kernel) (by decide +kernel), gTbl_in (i := 37) (by decide +kernel) (by decide +kernel)⟩
theorem qDV_hit : Cond.code mDV_hit.1 mDV_hit.2.1 mDV_hit.2.2.1 mDV_hit.2.2.2.1 ∈ gTbl ∧ Cond.initialized mDV_hit.1.cls ∈ gTbl := ⟨gTbl_in (i := 455) (by decide +kernel) (by decide +kernel), gTbl_in (i := 37) (by decide +kernel) (by decide +kernel)⟩
theorem qDV_frontBox : Cond.code mDV_frontBox.1 mDV_frontBox.2.1 mDV_frontBox.2.2.1 mDV_frontBox.2.2.2.1 ∈ gTbl ∧ Cond.initialized mDV_frontBox.1.cls ∈ gTbl := ⟨gTbl_in (i := 459) (by decide +kernel) (by decide +kernel), gTbl_in (i := 37) (by decide +kernel) (by decide +kernel)⟩
theorem qDV_frontChild : Cond.code mDV_frontChild.1 mDV_frontChild.2.1 mDV_frontChild.2.2.1 mDV_frontChild.2.2.2.1 ∈ gTbl ∧ Cond.initialized mDV_frontChild.1.cls ∈ gTbl := ⟨gTbl_in (i := 463) (by decide +kernel) (by decide +kernel), gTbl_in (i := 37) (by decide +kernel) (by decide +kernel)⟩
theorem qDV_numberOf : Cond.code mDV_numberOf.1 mDV_numberOf.2.1 mDV_numberOf.2.2.1 mDV_numberOf.2.2.2.1 ∈ gTbl ∧ Cond.initialized mDV_numberOf.1.cls ∈ gTbl := ⟨gTbl_in (i := 467) (by decide +kernel) (by decide +kernel), gTbl_in (i := 37) (by decide +kernel) (by decide +kernel)⟩
theorem qDV_press : Cond.code mDV_press.1 mDV_press.2.1 mDV_press.2.2.1 mDV_press.2.2.2.1 ∈ gTbl ∧ Cond.initialized mDV_press.1.cls ∈ gTbl := ⟨gTbl_in (i := 471) (by decide +kernel) (by decide +kernel), gTbl_in (i := 37) (by decide +kernel) (by decide +kernel)⟩
theorem qDV_release : Cond.code mDV_release.1 mDV_release.2.1 mDV_release.2.2.1 mDV_release.2.2.2.1 ∈ gTbl ∧ Cond.initialized mDV_release.1.cls ∈ gTbl := ⟨gTbl_in (i := 475) (by decide +kernel) (by decide +kernel), gTbl_in (i := 37) (by decide +kernel) (by decide +kernel)⟩
theorem qDV_activate : Cond.code mDV_activate.1 mDV_activate.2.1 mDV_activate.2.2.1 mDV_activate.2.2.2.1 ∈ gTbl ∧ Cond.initialized mDV_activate.1.cls ∈ gTbl := ⟨gTbl_in (i := 478) (by decide +kernel) (by decide +kernel), gTbl_in (i := 37) (by decide +kernel) (by decide +kernel)⟩
theorem qDV_step : Cond.code mDV_step.1 mDV_step.2.1 mDV_step.2.2.1 mDV_step.2.2.2.1 ∈ gTbl ∧ Cond.initialized mDV_step.1.cls ∈ gTbl := ⟨gTbl_in (i := 482) (by decide +kernel) (by decide +kernel), gTbl_in (i := 37) (by decide +kernel) (by decide +kernel)⟩
theorem qJM_floorMod : Cond.code mJM_floorMod.1 mJM_floorMod.2.1 mJM_floorMod.2.2.1 mJM_floorMod.2.2.2.1 ∈ gTbl ∧ Cond.initialized mJM_floorMod.1.cls ∈ gTbl := ⟨gTbl_in (i := 485) (by decide +kernel) (by decide +kernel), gTbl_in (i := 43) (by decide +kernel) (by decide +kernel)⟩
theorem qDV_key : Cond.code mDV_key.1 mDV_key.2.1 mDV_key.2.2.1 mDV_key.2.2.2.1 ∈ gTbl ∧ Cond.initialized mDV_key.1.cls ∈ gTbl := ⟨gTbl_in (i := 489) (by decide +kernel) (by decide +kernel), gTbl_in (i := 37) (by decide +kernel) (by decide +kernel)⟩
theorem qDV_attention : Cond.code mDV_attention.1 mDV_attention.2.1 mDV_attention.2.2.1 mDV_attention.2.2.2.1 ∈ gTbl ∧ Cond.initialized mDV_attention.1.cls ∈ gTbl := ⟨gTbl_in (i := 493) (by decide +kernel) (by decide +kernel), gTbl_in (i := 37) (by decide +kernel) (by decide +kernel)⟩
theorem qDV_count : Cond.code mDV_count.1 mDV_count.2.1 mDV_count.2.2.1 mDV_count.2.2.2.1 ∈ gTbl ∧ Cond.initialized mDV_count.1.cls ∈ gTbl := ⟨gTbl_in (i := 497) (by decide +kernel) (by decide +kernel), gTbl_in (i := 37) (by decide +kernel) (by decide +kernel)⟩
theorem qDV_damage : Cond.code mDV_damage.1 mDV_damage.2.1 mDV_damage.2.2.1 mDV_damage.2.2.2.1 ∈ gTbl ∧ Cond.initialized mDV_damage.1.cls ∈ gTbl := ⟨gTbl_in (i := 501) (by decide +kernel) (by decide +kernel), gTbl_in (i := 37) (by decide +kernel) (by decide +kernel)⟩
theorem qSC_damagedPoints : Cond.code mSC_damagedPoints.1 mSC_damagedPoints.2.1 mSC_damagedPoints.2.2.1 mSC_damagedPoints.2.2.2.1 ∈ gTbl ∧ Cond.initialized mSC_damagedPoints.1.cls ∈ gTbl := ⟨gTbl_in (i := 505) (by decide +kernel) (by decide +kernel), gTbl_in (i := 38) (by decide +kernel) (by decide +kernel)⟩
theorem qDV_paint : Cond.code mDV_paint.1 mDV_paint.2.1 mDV_paint.2.2.1 mDV_paint.2.2.2.1 ∈ gTbl ∧ Cond.initialized mDV_paint.1.cls ∈ gTbl := ⟨gTbl_in (i := 509) (by decide +kernel) (by decide +kernel), gTbl_in (i := 37) (by decide +kernel) (by decide +kernel)⟩
theorem qSC_isDamaged : Cond.code mSC_isDamaged.1 mSC_isDamaged.2.1 mSC_isDamaged.2.2.1 mSC_isDamaged.2.2.2.1 ∈ gTbl ∧ Cond.initialized mSC_isDamaged.1.cls ∈ gTbl := ⟨gTbl_in (i := 513) (by decide +kernel) (by decide +kernel), gTbl_in (i := 38) (by decide +kernel) (by decide +kernel)⟩
theorem qDV_pictureAt : Cond.code mDV_pictureAt.1 mDV_pictureAt.2.1 mDV_pictureAt.2.2.1 mDV_pictureAt.2.2.2.1 ∈ gTbl ∧ Cond.initialized mDV_pictureAt.1.cls ∈ gTbl := ⟨gTbl_in (i := 517) (by decide +kernel) (by decide +kernel), gTbl_in (i := 37) (by decide +kernel) (by decide +kernel)⟩
theorem qSC_repair : Cond.code mSC_repair.1 mSC_repair.2.1 mSC_repair.2.2.1 mSC_repair.2.2.2.1 ∈ gTbl ∧ Cond.initialized mSC_repair.1.cls ∈ gTbl := ⟨gTbl_in (i := 521) (by decide +kernel) (by decide +kernel), gTbl_in (i := 38) (by decide +kernel) (by decide +kernel)⟩
theorem qDV_pixel : Cond.code mDV_pixel.1 mDV_pixel.2.1 mDV_pixel.2.2.1 mDV_pixel.2.2.2.1 ∈ gTbl ∧ Cond.initialized mDV_pixel.1.cls ∈ gTbl := ⟨gTbl_in (i := 525) (by decide +kernel) (by decide +kernel), gTbl_in (i := 37) (by decide +kernel) (by decide +kernel)⟩
theorem qSC_frameAt : Cond.code mSC_frameAt.1 mSC_frameAt.2.1 mSC_frameAt.2.2.1 mSC_frameAt.2.2.2.1 ∈ gTbl ∧ Cond.initialized mSC_frameAt.1.cls ∈ gTbl := ⟨gTbl_in (i := 529) (by decide +kernel) (by decide +kernel), gTbl_in (i := 38) (by decide +kernel) (by decide +kernel)⟩
theorem qLW_cell : Cond.code mLW_cell.1 mLW_cell.2.1 mLW_cell.2.2.1 mLW_cell.2.2.2.1 ∈ gTbl ∧ Cond.initialized mLW_cell.1.cls ∈ gTbl := ⟨gTbl_in (i := 532) (by decide +kernel) (by decide +kernel), gTbl_in (i := 36) (by decide +kernel) (by decide +kernel)⟩
theorem qMO_init : Cond.code mMO_init.1 mMO_init.2.1 mMO_init.2.2.1 mMO_init.2.2.2.1 ∈ gTbl ∧ Cond.initialized mMO_init.1.cls ∈ gTbl := ⟨gTbl_in (i := 537) (by decide +kernel) (by decide +kernel), gTbl_in (i := 44) (by decide +kernel) (by decide +kernel)⟩
theorem qMO_look : Cond.code mMO_look.1 mMO_look.2.1 mMO_look.2.2.1 mMO_look.2.2.2.1 ∈ gTbl ∧ Cond.initialized mMO_look.1.cls ∈ gTbl := ⟨gTbl_in (i := 542) (by decide +kernel) (by decide +kernel), gTbl_in (i := 44) (by decide +kernel) (by decide +kernel)⟩
theorem qMO_can : Cond.code mMO_can.1 mMO_can.2.1 mMO_can.2.2.1 mMO_can.2.2.2.1 ∈ gTbl ∧ Cond.initialized mMO_can.1.cls ∈ gTbl := ⟨gTbl_in (i := 546) (by decide +kernel) (by decide +kernel), gTbl_in (i := 44) (by decide +kernel) (by decide +kernel)⟩
theorem qMO_someArea : Cond.code mMO_someArea.1 mMO_someArea.2.1 mMO_someArea.2.2.1 mMO_someArea.2.2.2.1 ∈ gTbl ∧ Cond.initialized mMO_someArea.1.cls ∈ gTbl := ⟨gTbl_in (i := 550) (by decide +kernel) (by decide +kernel), gTbl_in (i := 44) (by decide +kernel) (by decide +kernel)⟩
theorem qMO_inArea : Cond.code mMO_inArea.1 mMO_inArea.2.1 mMO_inArea.2.2.1 mMO_inArea.2.2.2.1 ∈ gTbl ∧ Cond.initialized mMO_inArea.1.cls ∈ gTbl := ⟨gTbl_in (i := 554) (by decide +kernel) (by decide +kernel), gTbl_in (i := 44) (by decide +kernel) (by decide +kernel)⟩
theorem qMO_covers : Cond.code mMO_covers.1 mMO_covers.2.1 mMO_covers.2.2.1 mMO_covers.2.2.2.1 ∈ gTbl ∧ Cond.initialized mMO_covers.1.cls ∈ gTbl := ⟨gTbl_in (i := 558) (by decide +kernel) (by decide +kernel), gTbl_in (i := 44) (by decide +kernel) (by decide +kernel)⟩
theorem qMO_colour : Cond.code mMO_colour.1 mMO_colour.2.1 mMO_colour.2.2.1 mMO_colour.2.2.2.1 ∈ gTbl ∧ Cond.initialized mMO_colour.1.cls ∈ gTbl := ⟨gTbl_in (i := 562) (by decide +kernel) (by decide +kernel), gTbl_in (i := 44) (by decide +kernel) (by decide +kernel)⟩
theorem qMO_box : Cond.code mMO_box.1 mMO_box.2.1 mMO_box.2.2.1 mMO_box.2.2.2.1 ∈ gTbl ∧ Cond.initialized mMO_box.1.cls ∈ gTbl := ⟨gTbl_in (i := 654) (by decide +kernel) (by decide +kernel), gTbl_in (i := 44) (by decide +kernel) (by decide +kernel)⟩
theorem qMO_isBox : Cond.code mMO_isBox.1 mMO_isBox.2.1 mMO_isBox.2.2.1 mMO_isBox.2.2.2.1 ∈ gTbl ∧ Cond.initialized mMO_isBox.1.cls ∈ gTbl := ⟨gTbl_in (i := 658) (by decide +kernel) (by decide +kernel), gTbl_in (i := 44) (by decide +kernel) (by decide +kernel)⟩
theorem qMO_constrain : Cond.code mMO_constrain.1 mMO_constrain.2.1 mMO_constrain.2.2.1 mMO_constrain.2.2.2.1 ∈ gTbl ∧ Cond.initialized mMO_constrain.1.cls ∈ gTbl := ⟨gTbl_in (i := 662) (by decide +kernel) (by decide +kernel), gTbl_in (i := 44) (by decide +kernel) (by decide +kernel)⟩
theorem qMO_isEdge : Cond.code mMO_isEdge.1 mMO_isEdge.2.1 mMO_isEdge.2.2.1 mMO_isEdge.2.2.2.1 ∈ gTbl ∧ Cond.initialized mMO_isEdge.1.cls ∈ gTbl := ⟨gTbl_in (i := 666) (by decide +kernel) (by decide +kernel), gTbl_in (i := 44) (by decide +kernel) (by decide +kernel)⟩
theorem qMO_origin : Cond.code mMO_origin.1 mMO_origin.2.1 mMO_origin.2.2.1 mMO_origin.2.2.2.1 ∈ gTbl ∧ Cond.initialized mMO_origin.1.cls ∈ gTbl := ⟨gTbl_in (i := 669) (by decide +kernel) (by decide +kernel), gTbl_in (i := 44) (by decide +kernel) (by decide +kernel)⟩
theorem qMO_solve : Cond.code mMO_solve.1 mMO_solve.2.1 mMO_solve.2.2.1 mMO_solve.2.2.2.1 ∈ gTbl ∧ Cond.initialized mMO_solve.1.cls ∈ gTbl := ⟨gTbl_in (i := 673) (by decide +kernel) (by decide +kernel), gTbl_in (i := 44) (by decide +kernel) (by decide +kernel)⟩
theorem qMO_required : Cond.code mMO_required.1 mMO_required.2.1 mMO_required.2.2.1 mMO_required.2.2.2.1 ∈ gTbl ∧ Cond.initialized mMO_required.1.cls ∈ gTbl := ⟨gTbl_in (i := 677) (by decide +kernel) (by decide +kernel), gTbl_in (i := 44) (by decide +kernel) (by decide +kernel)⟩
theorem qMO_exactly : Cond.code mMO_exactly.1 mMO_exactly.2.1 mMO_exactly.2.2.1 mMO_exactly.2.2.2.1 ∈ gTbl ∧ Cond.initialized mMO_exactly.1.cls ∈ gTbl := ⟨gTbl_in (i := 681) (by decide +kernel) (by decide +kernel), gTbl_in (i := 44) (by decide +kernel) (by decide +kernel)⟩
theorem qMO_atLeast : Cond.code mMO_atLeast.1 mMO_atLeast.2.1 mMO_atLeast.2.2.1 mMO_atLeast.2.2.2.1 ∈ gTbl ∧ Cond.initialized mMO_atLeast.1.cls ∈ gTbl := ⟨gTbl_in (i := 685) (by decide +kernel) (by decide +kernel), gTbl_in (i := 44) (by decide +kernel) (by decide +kernel)⟩
theorem qMO_row : Cond.code mMO_row.1 mMO_row.2.1 mMO_row.2.2.1 mMO_row.2.2.2.1 ∈ gTbl ∧ Cond.initialized mMO_row.1.cls ∈ gTbl := ⟨gTbl_in (i := 689) (by decide +kernel) (by decide +kernel), gTbl_in (i := 44) (by decide +kernel) (by decide +kernel)⟩
theorem qMO_conflict : Cond.code mMO_conflict.1 mMO_conflict.2.1 mMO_conflict.2.2.1 mMO_conflict.2.2.2.1 ∈ gTbl ∧ Cond.initialized mMO_conflict.1.cls ∈ gTbl := ⟨gTbl_in (i := 693) (by decide +kernel) (by decide +kernel), gTbl_in (i := 44) (by decide +kernel) (by decide +kernel)⟩
theorem qMO_lower : Cond.code mMO_lower.1 mMO_lower.2.1 mMO_lower.2.2.1 mMO_lower.2.2.2.1 ∈ gTbl ∧ Cond.initialized mMO_lower.1.cls ∈ gTbl := ⟨gTbl_in (i := 697) (by decide +kernel) (by decide +kernel), gTbl_in (i := 44) (by decide +kernel) (by decide +kernel)⟩
theorem qMO_settle : Cond.code mMO_settle.1 mMO_settle.2.1 mMO_settle.2.2.1 mMO_settle.2.2.2.1 ∈ gTbl ∧ Cond.initialized mMO_settle.1.cls ∈ gTbl := ⟨gTbl_in (i := 702) (by decide +kernel) (by decide +kernel), gTbl_in (i := 44) (by decide +kernel) (by decide +kernel)⟩
theorem qMO_most : Cond.code mMO_most.1 mMO_most.2.1 mMO_most.2.2.1 mMO_most.2.2.2.1 ∈ gTbl ∧ Cond.initialized mMO_most.1.cls ∈ gTbl := ⟨gTbl_in (i := 706) (by decide +kernel) (by decide +kernel), gTbl_in (i := 44) (by decide +kernel) (by decide +kernel)⟩
theorem qMO_soft : Cond.code mMO_soft.1 mMO_soft.2.1 mMO_soft.2.2.1 mMO_soft.2.2.2.1 ∈ gTbl ∧ Cond.initialized mMO_soft.1.cls ∈ gTbl := ⟨gTbl_in (i := 710) (by decide +kernel) (by decide +kernel), gTbl_in (i := 44) (by decide +kernel) (by decide +kernel)⟩
theorem qMO_remove : Cond.code mMO_remove.1 mMO_remove.2.1 mMO_remove.2.2.1 mMO_remove.2.2.2.1 ∈ gTbl ∧ Cond.initialized mMO_remove.1.cls ∈ gTbl := ⟨gTbl_in (i := 714) (by decide +kernel) (by decide +kernel), gTbl_in (i := 44) (by decide +kernel) (by decide +kernel)⟩
theorem qMO_isConstraint : Cond.code mMO_isConstraint.1 mMO_isConstraint.2.1 mMO_isConstraint.2.2.1 mMO_isConstraint.2.2.2.1 ∈ gTbl ∧ Cond.initialized mMO_isConstraint.1.cls ∈ gTbl := ⟨gTbl_in (i := 718) (by decide +kernel) (by decide +kernel), gTbl_in (i := 44) (by decide +kernel) (by decide +kernel)⟩
theorem qMO_suggest : Cond.code mMO_suggest.1 mMO_suggest.2.1 mMO_suggest.2.2.1 mMO_suggest.2.2.2.1 ∈ gTbl ∧ Cond.initialized mMO_suggest.1.cls ∈ gTbl := ⟨gTbl_in (i := 722) (by decide +kernel) (by decide +kernel), gTbl_in (i := 44) (by decide +kernel) (by decide +kernel)⟩
theorem qMO_resize : Cond.code mMO_resize.1 mMO_resize.2.1 mMO_resize.2.2.1 mMO_resize.2.2.2.1 ∈ gTbl ∧ Cond.initialized mMO_resize.1.cls ∈ gTbl := ⟨gTbl_in (i := 726) (by decide +kernel) (by decide +kernel), gTbl_in (i := 44) (by decide +kernel) (by decide +kernel)⟩
theorem qMO_place : Cond.code mMO_place.1 mMO_place.2.1 mMO_place.2.2.1 mMO_place.2.2.2.1 ∈ gTbl ∧ Cond.initialized mMO_place.1.cls ∈ gTbl := ⟨gTbl_in (i := 730) (by decide +kernel) (by decide +kernel), gTbl_in (i := 44) (by decide +kernel) (by decide +kernel)⟩
theorem qMO_error : Cond.code mMO_error.1 mMO_error.2.1 mMO_error.2.2.1 mMO_error.2.2.2.1 ∈ gTbl ∧ Cond.initialized mMO_error.1.cls ∈ gTbl := ⟨gTbl_in (i := 734) (by decide +kernel) (by decide +kernel), gTbl_in (i := 44) (by decide +kernel) (by decide +kernel)⟩
theorem qMO_hide : Cond.code mMO_hide.1 mMO_hide.2.1 mMO_hide.2.2.1 mMO_hide.2.2.2.1 ∈ gTbl ∧ Cond.initialized mMO_hide.1.cls ∈ gTbl := ⟨gTbl_in (i := 738) (by decide +kernel) (by decide +kernel), gTbl_in (i := 44) (by decide +kernel) (by decide +kernel)⟩
theorem qMO_raise : Cond.code mMO_raise.1 mMO_raise.2.1 mMO_raise.2.2.1 mMO_raise.2.2.2.1 ∈ gTbl ∧ Cond.initialized mMO_raise.1.cls ∈ gTbl := ⟨gTbl_in (i := 742) (by decide +kernel) (by decide +kernel), gTbl_in (i := 44) (by decide +kernel) (by decide +kernel)⟩
theorem qMO_isLast : Cond.code mMO_isLast.1 mMO_isLast.2.1 mMO_isLast.2.2.1 mMO_isLast.2.2.2.1 ∈ gTbl ∧ Cond.initialized mMO_isLast.1.cls ∈ gTbl := ⟨gTbl_in (i := 746) (by decide +kernel) (by decide +kernel), gTbl_in (i := 44) (by decide +kernel) (by decide +kernel)⟩
theorem qMO_hit : Cond.code mMO_hit.1 mMO_hit.2.1 mMO_hit.2.2.1 mMO_hit.2.2.2.1 ∈ gTbl ∧ Cond.initialized mMO_hit.1.cls ∈ gTbl := ⟨gTbl_in (i := 750) (by decide +kernel) (by decide +kernel), gTbl_in (i := 44) (by decide +kernel) (by decide +kernel)⟩
theorem qMO_inFront : Cond.code mMO_inFront.1 mMO_inFront.2.1 mMO_inFront.2.2.1 mMO_inFront.2.2.2.1 ∈ gTbl ∧ Cond.initialized mMO_inFront.1.cls ∈ gTbl := ⟨gTbl_in (i := 754) (by decide +kernel) (by decide +kernel), gTbl_in (i := 44) (by decide +kernel) (by decide +kernel)⟩
theorem qMO_press : Cond.code mMO_press.1 mMO_press.2.1 mMO_press.2.2.1 mMO_press.2.2.2.1 ∈ gTbl ∧ Cond.initialized mMO_press.1.cls ∈ gTbl := ⟨gTbl_in (i := 758) (by decide +kernel) (by decide +kernel), gTbl_in (i := 44) (by decide +kernel) (by decide +kernel)⟩
theorem qMO_release : Cond.code mMO_release.1 mMO_release.2.1 mMO_release.2.2.1 mMO_release.2.2.2.1 ∈ gTbl ∧ Cond.initialized mMO_release.1.cls ∈ gTbl := ⟨gTbl_in (i := 763) (by decide +kernel) (by decide +kernel), gTbl_in (i := 44) (by decide +kernel) (by decide +kernel)⟩
theorem qMO_activate : Cond.code mMO_activate.1 mMO_activate.2.1 mMO_activate.2.2.1 mMO_activate.2.2.2.1 ∈ gTbl ∧ Cond.initialized mMO_activate.1.cls ∈ gTbl := ⟨gTbl_in (i := 767) (by decide +kernel) (by decide +kernel), gTbl_in (i := 44) (by decide +kernel) (by decide +kernel)⟩
theorem qMO_step : Cond.code mMO_step.1 mMO_step.2.1 mMO_step.2.2.1 mMO_step.2.2.2.1 ∈ gTbl ∧ Cond.initialized mMO_step.1.cls ∈ gTbl := ⟨gTbl_in (i := 771) (by decide +kernel) (by decide +kernel), gTbl_in (i := 44) (by decide +kernel) (by decide +kernel)⟩
theorem qMO_key : Cond.code mMO_key.1 mMO_key.2.1 mMO_key.2.2.1 mMO_key.2.2.2.1 ∈ gTbl ∧ Cond.initialized mMO_key.1.cls ∈ gTbl := ⟨gTbl_in (i := 775) (by decide +kernel) (by decide +kernel), gTbl_in (i := 44) (by decide +kernel) (by decide +kernel)⟩
theorem qMO_attention : Cond.code mMO_attention.1 mMO_attention.2.1 mMO_attention.2.2.1 mMO_attention.2.2.2.1 ∈ gTbl ∧ Cond.initialized mMO_attention.1.cls ∈ gTbl := ⟨gTbl_in (i := 779) (by decide +kernel) (by decide +kernel), gTbl_in (i := 44) (by decide +kernel) (by decide +kernel)⟩
theorem qMO_count : Cond.code mMO_count.1 mMO_count.2.1 mMO_count.2.2.1 mMO_count.2.2.2.1 ∈ gTbl ∧ Cond.initialized mMO_count.1.cls ∈ gTbl := ⟨gTbl_in (i := 783) (by decide +kernel) (by decide +kernel), gTbl_in (i := 44) (by decide +kernel) (by decide +kernel)⟩
theorem qMO_damage : Cond.code mMO_damage.1 mMO_damage.2.1 mMO_damage.2.2.1 mMO_damage.2.2.2.1 ∈ gTbl ∧ Cond.initialized mMO_damage.1.cls ∈ gTbl := ⟨gTbl_in (i := 787) (by decide +kernel) (by decide +kernel), gTbl_in (i := 44) (by decide +kernel) (by decide +kernel)⟩
theorem qMO_paint : Cond.code mMO_paint.1 mMO_paint.2.1 mMO_paint.2.2.1 mMO_paint.2.2.2.1 ∈ gTbl ∧ Cond.initialized mMO_paint.1.cls ∈ gTbl := ⟨gTbl_in (i := 791) (by decide +kernel) (by decide +kernel), gTbl_in (i := 44) (by decide +kernel) (by decide +kernel)⟩
theorem qMO_pixel : Cond.code mMO_pixel.1 mMO_pixel.2.1 mMO_pixel.2.2.1 mMO_pixel.2.2.2.1 ∈ gTbl ∧ Cond.initialized mMO_pixel.1.cls ∈ gTbl := ⟨gTbl_in (i := 795) (by decide +kernel) (by decide +kernel), gTbl_in (i := 44) (by decide +kernel) (by decide +kernel)⟩
theorem oAR_3 : Cond.methodLink "DamageView$Area" 3 objectInit ∈ gTbl ∧ Cond.instanceMethod objectInit ∈ gTbl ∧ Cond.code objectInit ⟨#[0xb1]⟩ 1 none ∈ gTbl := ⟨gTbl_in (i := 137) (by decide +kernel) (by decide +kernel), gTbl_in (i := 53) (by decide +kernel) (by decide +kernel), gTbl_in (i := 54) (by decide +kernel) (by decide +kernel)⟩
theorem jAR_24 : Cond.methodLink "DamageView$Area" 24 Lib.Math.max.name ∈ gTbl ∧ Cond.static Lib.Math.max.name ∈ gTbl ∧ Cond.initialized "java/lang/Math" ∈ gTbl ∧ Cond.code Lib.Math.max.name Lib.Math.max.code 2 (some .int) ∈ gTbl := ⟨gTbl_in (i := 210) (by decide +kernel) (by decide +kernel), gTbl_in (i := 211) (by decide +kernel) (by decide +kernel), gTbl_in (i := 43) (by decide +kernel) (by decide +kernel), gTbl_in (i := 212) (by decide +kernel) (by decide +kernel)⟩
theorem jAR_30 : Cond.methodLink "DamageView$Area" 30 Lib.Math.min.name ∈ gTbl ∧ Cond.static Lib.Math.min.name ∈ gTbl ∧ Cond.initialized "java/lang/Math" ∈ gTbl ∧ Cond.code Lib.Math.min.name Lib.Math.min.code 2 (some .int) ∈ gTbl := ⟨gTbl_in (i := 213) (by decide +kernel) (by decide +kernel), gTbl_in (i := 214) (by decide +kernel) (by decide +kernel), gTbl_in (i := 43) (by decide +kernel) (by decide +kernel), gTbl_in (i := 215) (by decide +kernel) (by decide +kernel)⟩
theorem lAR_33 : Cond.methodLink "DamageView$Area" 33 mAR_isEmpty.1 ∈ gTbl ∧ Cond.instanceMethod mAR_isEmpty.1 ∈ gTbl ∧ Cond.selects mAR_isEmpty.1.cls mAR_isEmpty.1 mAR_isEmpty.1 ∈ gTbl ∧ vwCl[5]? = some (mAR_isEmpty.1.cls, TbAR, 4) := ⟨gTbl_in (i := 216) (by decide +kernel) (by decide +kernel), gTbl_in (i := 217) (by decide +kernel) (by decide +kernel), gTbl_in (i := 218) (by decide +kernel) (by decide +kernel), rfl⟩
theorem lAR_37 : Cond.methodLink "DamageView$Area" 37 mAR_makeEmpty.1 ∈ gTbl ∧ Cond.instanceMethod mAR_makeEmpty.1 ∈ gTbl ∧ Cond.selects mAR_makeEmpty.1.cls mAR_makeEmpty.1 mAR_makeEmpty.1 ∈ gTbl ∧ vwCl[5]? = some (mAR_makeEmpty.1.cls, TbAR, 4) := ⟨gTbl_in (i := 220) (by decide +kernel) (by decide +kernel), gTbl_in (i := 199) (by decide +kernel) (by decide +kernel), gTbl_in (i := 200) (by decide +kernel) (by decide +kernel), rfl⟩
theorem oBD_3 : Cond.methodLink "DamageView$Bounds" 3 objectInit ∈ gTbl ∧ Cond.instanceMethod objectInit ∈ gTbl ∧ Cond.code objectInit ⟨#[0xb1]⟩ 1 none ∈ gTbl := ⟨gTbl_in (i := 88) (by decide +kernel) (by decide +kernel), gTbl_in (i := 53) (by decide +kernel) (by decide +kernel), gTbl_in (i := 54) (by decide +kernel) (by decide +kernel)⟩
theorem jBD_16 : Cond.methodLink "DamageView$Bounds" 16 Lib.Math.min.name ∈ gTbl ∧ Cond.static Lib.Math.min.name ∈ gTbl ∧ Cond.initialized "java/lang/Math" ∈ gTbl ∧ Cond.code Lib.Math.min.name Lib.Math.min.code 2 (some .int) ∈ gTbl := ⟨gTbl_in (i := 340) (by decide +kernel) (by decide +kernel), gTbl_in (i := 214) (by decide +kernel) (by decide +kernel), gTbl_in (i := 43) (by decide +kernel) (by decide +kernel), gTbl_in (i := 215) (by decide +kernel) (by decide +kernel)⟩
theorem lBD_31 : Cond.methodLink "DamageView$Bounds" 31 mJF_fill.1 ∈ gTbl ∧ Cond.static mJF_fill.1 ∈ gTbl := ⟨gTbl_in (i := 342) (by decide +kernel) (by decide +kernel), gTbl_in (i := 343) (by decide +kernel) (by decide +kernel)⟩
theorem lBD_37 : Cond.methodLink "DamageView$Bounds" 37 mBD_keepAtMost.1 ∈ gTbl ∧ Cond.instanceMethod mBD_keepAtMost.1 ∈ gTbl ∧ Cond.selects mBD_keepAtMost.1.cls mBD_keepAtMost.1 mBD_keepAtMost.1 ∈ gTbl ∧ vwCl[3]? = some (mBD_keepAtMost.1.cls, TbBD, 3) := ⟨gTbl_in (i := 349) (by decide +kernel) (by decide +kernel), gTbl_in (i := 350) (by decide +kernel) (by decide +kernel), gTbl_in (i := 351) (by decide +kernel) (by decide +kernel), rfl⟩
theorem lBD_41 : Cond.methodLink "DamageView$Bounds" 41 mBD_lowest.1 ∈ gTbl ∧ Cond.instanceMethod mBD_lowest.1 ∈ gTbl ∧ Cond.selects mBD_lowest.1.cls mBD_lowest.1 mBD_lowest.1 ∈ gTbl ∧ vwCl[3]? = some (mBD_lowest.1.cls, TbBD, 3) := ⟨gTbl_in (i := 375) (by decide +kernel) (by decide +kernel), gTbl_in (i := 376) (by decide +kernel) (by decide +kernel), gTbl_in (i := 377) (by decide +kernel) (by decide +kernel), rfl⟩
theorem lBD_44 : Cond.methodLink "DamageView$Bounds" 44 mBD_highest.1 ∈ gTbl ∧ Cond.instanceMethod mBD_highest.1 ∈ gTbl ∧ Cond.selects mBD_highest.1.cls mBD_highest.1 mBD_highest.1 ∈ gTbl ∧ vwCl[3]? = some (mBD_highest.1.cls, TbBD, 3) := ⟨gTbl_in (i := 379) (by decide +kernel) (by decide +kernel), gTbl_in (i := 380) (by decide +kernel) (by decide +kernel), gTbl_in (i := 381) (by decide +kernel) (by decide +kernel), rfl⟩
theorem lBD_47 : Cond.methodLinkNest "DamageView$Bounds" 47 mDV_nearest.1 "DamageView" ∈ gNest ∧ Cond.static mDV_nearest.1 ∈ gTbl := ⟨List.mem_of_getElem? (i := 3) rfl, gTbl_in (i := 75) (by decide +kernel) (by decide +kernel)⟩
theorem oBX_3 : Cond.methodLink "DamageView$Box" 3 objectInit ∈ gTbl ∧ Cond.instanceMethod objectInit ∈ gTbl ∧ Cond.code objectInit ⟨#[0xb1]⟩ 1 none ∈ gTbl := ⟨gTbl_in (i := 131) (by decide +kernel) (by decide +kernel), gTbl_in (i := 53) (by decide +kernel) (by decide +kernel), gTbl_in (i := 54) (by decide +kernel) (by decide +kernel)⟩
theorem lBX_11 : Cond.methodLinkNest "DamageView$Box" 11 mAR_init.1 "DamageView" ∈ gNest ∧ Cond.instanceMethod mAR_init.1 ∈ gTbl := ⟨List.mem_of_getElem? (i := 2) rfl, gTbl_in (i := 135) (by decide +kernel) (by decide +kernel)⟩
theorem lBX_35 : Cond.methodLink "DamageView$Box" 35 mAR_isEmpty.1 ∈ gTbl ∧ Cond.instanceMethod mAR_isEmpty.1 ∈ gTbl ∧ Cond.selects mAR_isEmpty.1.cls mAR_isEmpty.1 mAR_isEmpty.1 ∈ gTbl ∧ vwCl[5]? = some (mAR_isEmpty.1.cls, TbAR, 4) := ⟨gTbl_in (i := 225) (by decide +kernel) (by decide +kernel), gTbl_in (i := 217) (by decide +kernel) (by decide +kernel), gTbl_in (i := 218) (by decide +kernel) (by decide +kernel), rfl⟩
theorem lBX_39 : Cond.methodLink "DamageView$Box" 39 mAR_copyFrom.1 ∈ gTbl ∧ Cond.instanceMethod mAR_copyFrom.1 ∈ gTbl ∧ Cond.selects mAR_copyFrom.1.cls mAR_copyFrom.1 mAR_copyFrom.1 ∈ gTbl ∧ vwCl[5]? = some (mAR_copyFrom.1.cls, TbAR, 4) := ⟨gTbl_in (i := 194) (by decide +kernel) (by decide +kernel), gTbl_in (i := 195) (by decide +kernel) (by decide +kernel), gTbl_in (i := 196) (by decide +kernel) (by decide +kernel), rfl⟩
theorem lBX_47 : Cond.methodLink "DamageView$Box" 47 mAR_makeEmpty.1 ∈ gTbl ∧ Cond.instanceMethod mAR_makeEmpty.1 ∈ gTbl ∧ Cond.selects mAR_makeEmpty.1.cls mAR_makeEmpty.1 mAR_makeEmpty.1 ∈ gTbl ∧ vwCl[5]? = some (mAR_makeEmpty.1.cls, TbAR, 4) := ⟨gTbl_in (i := 198) (by decide +kernel) (by decide +kernel), gTbl_in (i := 199) (by decide +kernel) (by decide +kernel), gTbl_in (i := 200) (by decide +kernel) (by decide +kernel), rfl⟩
theorem lBX_50 : Cond.methodLink "DamageView$Box" 50 mAR_takeEdges.1 ∈ gTbl ∧ Cond.instanceMethod mAR_takeEdges.1 ∈ gTbl ∧ Cond.selects mAR_takeEdges.1.cls mAR_takeEdges.1 mAR_takeEdges.1 ∈ gTbl ∧ vwCl[5]? = some (mAR_takeEdges.1.cls, TbAR, 4) := ⟨gTbl_in (i := 202) (by decide +kernel) (by decide +kernel), gTbl_in (i := 203) (by decide +kernel) (by decide +kernel), gTbl_in (i := 204) (by decide +kernel) (by decide +kernel), rfl⟩
theorem lBX_54 : Cond.methodLink "DamageView$Box" 54 mAR_cutTo.1 ∈ gTbl ∧ Cond.instanceMethod mAR_cutTo.1 ∈ gTbl ∧ Cond.selects mAR_cutTo.1.cls mAR_cutTo.1 mAR_cutTo.1 ∈ gTbl ∧ vwCl[5]? = some (mAR_cutTo.1.cls, TbAR, 4) := ⟨gTbl_in (i := 206) (by decide +kernel) (by decide +kernel), gTbl_in (i := 207) (by decide +kernel) (by decide +kernel), gTbl_in (i := 208) (by decide +kernel) (by decide +kernel), rfl⟩
theorem oCN_3 : Cond.methodLink "DamageView$Constraint" 3 objectInit ∈ gTbl ∧ Cond.instanceMethod objectInit ∈ gTbl ∧ Cond.code objectInit ⟨#[0xb1]⟩ 1 none ∈ gTbl := ⟨gTbl_in (i := 306) (by decide +kernel) (by decide +kernel), gTbl_in (i := 53) (by decide +kernel) (by decide +kernel), gTbl_in (i := 54) (by decide +kernel) (by decide +kernel)⟩
theorem jCN_27 : Cond.methodLink "DamageView$Constraint" 27 Lib.Math.abs.name ∈ gTbl ∧ Cond.static Lib.Math.abs.name ∈ gTbl ∧ Cond.initialized "java/lang/Math" ∈ gTbl ∧ Cond.code Lib.Math.abs.name Lib.Math.abs.code 1 (some .int) ∈ gTbl := ⟨gTbl_in (i := 428) (by decide +kernel) (by decide +kernel), gTbl_in (i := 429) (by decide +kernel) (by decide +kernel), gTbl_in (i := 43) (by decide +kernel) (by decide +kernel), gTbl_in (i := 430) (by decide +kernel) (by decide +kernel)⟩
theorem jCN_33 : Cond.methodLink "DamageView$Constraint" 33 Lib.Math.max.name ∈ gTbl ∧ Cond.static Lib.Math.max.name ∈ gTbl ∧ Cond.initialized "java/lang/Math" ∈ gTbl ∧ Cond.code Lib.Math.max.name Lib.Math.max.code 2 (some .int) ∈ gTbl := ⟨gTbl_in (i := 431) (by decide +kernel) (by decide +kernel), gTbl_in (i := 211) (by decide +kernel) (by decide +kernel), gTbl_in (i := 43) (by decide +kernel) (by decide +kernel), gTbl_in (i := 212) (by decide +kernel) (by decide +kernel)⟩
theorem lCN_37 : Cond.methodLink "DamageView$Constraint" 37 mBD_fix.1 ∈ gTbl ∧ Cond.instanceMethod mBD_fix.1 ∈ gTbl ∧ Cond.selects mBD_fix.1.cls mBD_fix.1 mBD_fix.1 ∈ gTbl ∧ vwCl[3]? = some (mBD_fix.1.cls, TbBD, 3) := ⟨gTbl_in (i := 361) (by decide +kernel) (by decide +kernel), gTbl_in (i := 346) (by decide +kernel) (by decide +kernel), gTbl_in (i := 347) (by decide +kernel) (by decide +kernel), rfl⟩
theorem lCN_43 : Cond.methodLink "DamageView$Constraint" 43 mBD_keepAtLeast.1 ∈ gTbl ∧ Cond.instanceMethod mBD_keepAtLeast.1 ∈ gTbl ∧ Cond.selects mBD_keepAtLeast.1.cls mBD_keepAtLeast.1 mBD_keepAtLeast.1 ∈ gTbl ∧ vwCl[3]? = some (mBD_keepAtLeast.1.cls, TbBD, 3) := ⟨gTbl_in (i := 362) (by decide +kernel) (by decide +kernel), gTbl_in (i := 354) (by decide +kernel) (by decide +kernel), gTbl_in (i := 355) (by decide +kernel) (by decide +kernel), rfl⟩
theorem lCN_46 : Cond.methodLink "DamageView$Constraint" 46 mBD_fixNear.1 ∈ gTbl ∧ Cond.instanceMethod mBD_fixNear.1 ∈ gTbl ∧ Cond.selects mBD_fixNear.1.cls mBD_fixNear.1 mBD_fixNear.1 ∈ gTbl ∧ vwCl[3]? = some (mBD_fixNear.1.cls, TbBD, 3) := ⟨gTbl_in (i := 371) (by decide +kernel) (by decide +kernel), gTbl_in (i := 372) (by decide +kernel) (by decide +kernel), gTbl_in (i := 373) (by decide +kernel) (by decide +kernel), rfl⟩
theorem lCN_50 : Cond.methodLink "DamageView$Constraint" 50 mBD_highest.1 ∈ gTbl ∧ Cond.instanceMethod mBD_highest.1 ∈ gTbl ∧ Cond.selects mBD_highest.1.cls mBD_highest.1 mBD_highest.1 ∈ gTbl ∧ vwCl[3]? = some (mBD_highest.1.cls, TbBD, 3) := ⟨gTbl_in (i := 384) (by decide +kernel) (by decide +kernel), gTbl_in (i := 380) (by decide +kernel) (by decide +kernel), gTbl_in (i := 381) (by decide +kernel) (by decide +kernel), rfl⟩
theorem jCN_53 : Cond.methodLink "DamageView$Constraint" 53 Lib.Math.min.name ∈ gTbl ∧ Cond.static Lib.Math.min.name ∈ gTbl ∧ Cond.initialized "java/lang/Math" ∈ gTbl ∧ Cond.code Lib.Math.min.name Lib.Math.min.code 2 (some .int) ∈ gTbl := ⟨gTbl_in (i := 385) (by decide +kernel) (by decide +kernel), gTbl_in (i := 214) (by decide +kernel) (by decide +kernel), gTbl_in (i := 43) (by decide +kernel) (by decide +kernel), gTbl_in (i := 215) (by decide +kernel) (by decide +kernel)⟩
theorem oLA_3 : Cond.methodLink "DamageView$Layout" 3 objectInit ∈ gTbl ∧ Cond.instanceMethod objectInit ∈ gTbl ∧ Cond.code objectInit ⟨#[0xb1]⟩ 1 none ∈ gTbl := ⟨gTbl_in (i := 80) (by decide +kernel) (by decide +kernel), gTbl_in (i := 53) (by decide +kernel) (by decide +kernel), gTbl_in (i := 54) (by decide +kernel) (by decide +kernel)⟩
theorem lLA_23 : Cond.methodLinkNest "DamageView$Layout" 23 mBD_init.1 "DamageView" ∈ gNest ∧ Cond.instanceMethod mBD_init.1 ∈ gTbl := ⟨List.mem_of_getElem? (i := 1) rfl, gTbl_in (i := 86) (by decide +kernel) (by decide +kernel)⟩
theorem lLA_38 : Cond.methodLink "DamageView$Layout" 38 mLA_isEdge.1 ∈ gTbl ∧ Cond.instanceMethod mLA_isEdge.1 ∈ gTbl ∧ Cond.selects mLA_isEdge.1.cls mLA_isEdge.1 mLA_isEdge.1 ∈ gTbl ∧ vwCl[2]? = some (mLA_isEdge.1.cls, TbLA, 6) := ⟨gTbl_in (i := 287) (by decide +kernel) (by decide +kernel), gTbl_in (i := 288) (by decide +kernel) (by decide +kernel), gTbl_in (i := 289) (by decide +kernel) (by decide +kernel), rfl⟩
theorem lLA_42 : Cond.methodLink "DamageView$Layout" 42 mLA_isTopOrBottom.1 ∈ gTbl ∧ Cond.static mLA_isTopOrBottom.1 ∈ gTbl := ⟨gTbl_in (i := 291) (by decide +kernel) (by decide +kernel), gTbl_in (i := 292) (by decide +kernel) (by decide +kernel)⟩
theorem lLA_45 : Cond.methodLink "DamageView$Layout" 45 mLA_solve.1 ∈ gTbl ∧ Cond.instanceMethod mLA_solve.1 ∈ gTbl ∧ Cond.selects mLA_solve.1.cls mLA_solve.1 mLA_solve.1 ∈ gTbl ∧ vwCl[2]? = some (mLA_solve.1.cls, TbLA, 6) := ⟨gTbl_in (i := 328) (by decide +kernel) (by decide +kernel), gTbl_in (i := 330) (by decide +kernel) (by decide +kernel), gTbl_in (i := 5) (by decide +kernel) (by decide +kernel), rfl⟩
theorem lLA_49 : Cond.methodLink "DamageView$Layout" 49 mLA_demandAll.1 ∈ gTbl ∧ Cond.instanceMethod mLA_demandAll.1 ∈ gTbl ∧ Cond.selects mLA_demandAll.1.cls mLA_demandAll.1 mLA_demandAll.1 ∈ gTbl ∧ vwCl[2]? = some (mLA_demandAll.1.cls, TbLA, 6) := ⟨gTbl_in (i := 332) (by decide +kernel) (by decide +kernel), gTbl_in (i := 334) (by decide +kernel) (by decide +kernel), gTbl_in (i := 6) (by decide +kernel) (by decide +kernel), rfl⟩
theorem lLA_56 : Cond.methodLink "DamageView$Layout" 56 mLA_chooseBest.1 ∈ gTbl ∧ Cond.instanceMethod mLA_chooseBest.1 ∈ gTbl ∧ Cond.selects mLA_chooseBest.1.cls mLA_chooseBest.1 mLA_chooseBest.1 ∈ gTbl ∧ vwCl[2]? = some (mLA_chooseBest.1.cls, TbLA, 6) := ⟨gTbl_in (i := 363) (by decide +kernel) (by decide +kernel), gTbl_in (i := 365) (by decide +kernel) (by decide +kernel), gTbl_in (i := 7) (by decide +kernel) (by decide +kernel), rfl⟩
theorem lLA_59 : Cond.methodLink "DamageView$Layout" 59 mBD_fixNear.1 ∈ gTbl ∧ Cond.instanceMethod mBD_fixNear.1 ∈ gTbl ∧ Cond.selects mBD_fixNear.1.cls mBD_fixNear.1 mBD_fixNear.1 ∈ gTbl ∧ vwCl[3]? = some (mBD_fixNear.1.cls, TbBD, 3) := ⟨gTbl_in (i := 386) (by decide +kernel) (by decide +kernel), gTbl_in (i := 372) (by decide +kernel) (by decide +kernel), gTbl_in (i := 373) (by decide +kernel) (by decide +kernel), rfl⟩
theorem lLA_63 : Cond.methodLink "DamageView$Layout" 63 mBD_open.1 ∈ gTbl ∧ Cond.instanceMethod mBD_open.1 ∈ gTbl ∧ Cond.selects mBD_open.1.cls mBD_open.1 mBD_open.1 ∈ gTbl ∧ vwCl[3]? = some (mBD_open.1.cls, TbBD, 3) := ⟨gTbl_in (i := 336) (by decide +kernel) (by decide +kernel), gTbl_in (i := 337) (by decide +kernel) (by decide +kernel), gTbl_in (i := 338) (by decide +kernel) (by decide +kernel), rfl⟩
theorem lLA_67 : Cond.methodLink "DamageView$Layout" 67 mBD_fix.1 ∈ gTbl ∧ Cond.instanceMethod mBD_fix.1 ∈ gTbl ∧ Cond.selects mBD_fix.1.cls mBD_fix.1 mBD_fix.1 ∈ gTbl ∧ vwCl[3]? = some (mBD_fix.1.cls, TbBD, 3) := ⟨gTbl_in (i := 345) (by decide +kernel) (by decide +kernel), gTbl_in (i := 346) (by decide +kernel) (by decide +kernel), gTbl_in (i := 347) (by decide +kernel) (by decide +kernel), rfl⟩
theorem lLA_71 : Cond.methodLink "DamageView$Layout" 71 mBD_keepAtLeast.1 ∈ gTbl ∧ Cond.instanceMethod mBD_keepAtLeast.1 ∈ gTbl ∧ Cond.selects mBD_keepAtLeast.1.cls mBD_keepAtLeast.1 mBD_keepAtLeast.1 ∈ gTbl ∧ vwCl[3]? = some (mBD_keepAtLeast.1.cls, TbBD, 3) := ⟨gTbl_in (i := 353) (by decide +kernel) (by decide +kernel), gTbl_in (i := 354) (by decide +kernel) (by decide +kernel), gTbl_in (i := 355) (by decide +kernel) (by decide +kernel), rfl⟩
theorem lLA_77 : Cond.methodLink "DamageView$Layout" 77 mCN_demandIn.1 ∈ gTbl ∧ Cond.instanceMethod mCN_demandIn.1 ∈ gTbl ∧ Cond.selects mCN_demandIn.1.cls mCN_demandIn.1 mCN_demandIn.1 ∈ gTbl ∧ vwCl[6]? = some (mCN_demandIn.1.cls, TbCN, 5) := ⟨gTbl_in (i := 357) (by decide +kernel) (by decide +kernel), gTbl_in (i := 358) (by decide +kernel) (by decide +kernel), gTbl_in (i := 359) (by decide +kernel) (by decide +kernel), rfl⟩
theorem lLA_81 : Cond.methodLink "DamageView$Layout" 81 mCN_leastErrorIn.1 ∈ gTbl ∧ Cond.instanceMethod mCN_leastErrorIn.1 ∈ gTbl ∧ Cond.selects mCN_leastErrorIn.1.cls mCN_leastErrorIn.1 mCN_leastErrorIn.1 ∈ gTbl ∧ vwCl[6]? = some (mCN_leastErrorIn.1.cls, TbCN, 5) := ⟨gTbl_in (i := 367) (by decide +kernel) (by decide +kernel), gTbl_in (i := 368) (by decide +kernel) (by decide +kernel), gTbl_in (i := 369) (by decide +kernel) (by decide +kernel), rfl⟩
theorem oSC_3 : Cond.methodLink "DamageView$Screen" 3 objectInit ∈ gTbl ∧ Cond.instanceMethod objectInit ∈ gTbl ∧ Cond.code objectInit ⟨#[0xb1]⟩ 1 none ∈ gTbl := ⟨gTbl_in (i := 60) (by decide +kernel) (by decide +kernel), gTbl_in (i := 53) (by decide +kernel) (by decide +kernel), gTbl_in (i := 54) (by decide +kernel) (by decide +kernel)⟩
theorem lSC_19 : Cond.methodLink "DamageView$Screen" 19 mAR_has.1 ∈ gTbl ∧ Cond.instanceMethod mAR_has.1 ∈ gTbl ∧ Cond.selects mAR_has.1.cls mAR_has.1 mAR_has.1 ∈ gTbl ∧ vwCl[5]? = some (mAR_has.1.cls, TbAR, 4) := ⟨gTbl_in (i := 242) (by decide +kernel) (by decide +kernel), gTbl_in (i := 243) (by decide +kernel) (by decide +kernel), gTbl_in (i := 244) (by decide +kernel) (by decide +kernel), rfl⟩
theorem lSC_25 : Cond.methodLink "DamageView$Screen" 25 mSC_pointOf.1 ∈ gTbl ∧ Cond.static mSC_pointOf.1 ∈ gTbl := ⟨gTbl_in (i := 246) (by decide +kernel) (by decide +kernel), gTbl_in (i := 247) (by decide +kernel) (by decide +kernel)⟩
theorem oDV_3 : Cond.methodLink "DamageView" 3 objectInit ∈ gTbl ∧ Cond.instanceMethod objectInit ∈ gTbl ∧ Cond.code objectInit ⟨#[0xb1]⟩ 1 none ∈ gTbl := ⟨gTbl_in (i := 52) (by decide +kernel) (by decide +kernel), gTbl_in (i := 53) (by decide +kernel) (by decide +kernel), gTbl_in (i := 54) (by decide +kernel) (by decide +kernel)⟩
theorem lDV_11 : Cond.methodLinkNest "DamageView" 11 mSC_init.1 "DamageView" ∈ gNest ∧ Cond.instanceMethod mSC_init.1 ∈ gTbl := ⟨List.mem_of_getElem? (i := 0) rfl, gTbl_in (i := 58) (by decide +kernel) (by decide +kernel)⟩
theorem lDV_27 : Cond.methodLink "DamageView" 27 mDV_nearest.1 ∈ gTbl ∧ Cond.static mDV_nearest.1 ∈ gTbl := ⟨gTbl_in (i := 74) (by decide +kernel) (by decide +kernel), gTbl_in (i := 75) (by decide +kernel) (by decide +kernel)⟩
theorem lDV_31 : Cond.methodLink "DamageView" 31 mLA_init.1 ∈ gTbl ∧ Cond.instanceMethod mLA_init.1 ∈ gTbl := ⟨gTbl_in (i := 77) (by decide +kernel) (by decide +kernel), gTbl_in (i := 78) (by decide +kernel) (by decide +kernel)⟩
theorem lDV_38 : Cond.methodLink "DamageView" 38 mDV_addBox.1 ∈ gTbl ∧ Cond.instanceMethod mDV_addBox.1 ∈ gTbl ∧ Cond.selects mDV_addBox.1.cls mDV_addBox.1 mDV_addBox.1 ∈ gTbl ∧ vwCl[0]? = some (mDV_addBox.1.cls, TbDV, 7) := ⟨gTbl_in (i := 123) (by decide +kernel) (by decide +kernel), gTbl_in (i := 125) (by decide +kernel) (by decide +kernel), gTbl_in (i := 0) (by decide +kernel) (by decide +kernel), rfl⟩
theorem lDV_42 : Cond.methodLink "DamageView" 42 mDV_showChanges.1 ∈ gTbl ∧ Cond.instanceMethod mDV_showChanges.1 ∈ gTbl ∧ Cond.selects mDV_showChanges.1.cls mDV_showChanges.1 mDV_showChanges.1 ∈ gTbl ∧ vwCl[0]? = some (mDV_showChanges.1.cls, TbDV, 7) := ⟨gTbl_in (i := 186) (by decide +kernel) (by decide +kernel), gTbl_in (i := 188) (by decide +kernel) (by decide +kernel), gTbl_in (i := 1) (by decide +kernel) (by decide +kernel), rfl⟩
theorem lDV_49 : Cond.methodLink "DamageView" 49 mDV_isBox.1 ∈ gTbl ∧ Cond.instanceMethod mDV_isBox.1 ∈ gTbl ∧ Cond.selects mDV_isBox.1.cls mDV_isBox.1 mDV_isBox.1 ∈ gTbl ∧ vwCl[0]? = some (mDV_isBox.1.cls, TbDV, 7) := ⟨gTbl_in (i := 275) (by decide +kernel) (by decide +kernel), gTbl_in (i := 277) (by decide +kernel) (by decide +kernel), gTbl_in (i := 4) (by decide +kernel) (by decide +kernel), rfl⟩
theorem lDV_53 : Cond.methodLink "DamageView" 53 mLA_canJoin.1 ∈ gTbl ∧ Cond.instanceMethod mLA_canJoin.1 ∈ gTbl ∧ Cond.selects mLA_canJoin.1.cls mLA_canJoin.1 mLA_canJoin.1 ∈ gTbl ∧ vwCl[2]? = some (mLA_canJoin.1.cls, TbLA, 6) := ⟨gTbl_in (i := 283) (by decide +kernel) (by decide +kernel), gTbl_in (i := 284) (by decide +kernel) (by decide +kernel), gTbl_in (i := 285) (by decide +kernel) (by decide +kernel), rfl⟩
theorem lDV_57 : Cond.methodLink "DamageView" 57 mDV_isNear.1 ∈ gTbl ∧ Cond.static mDV_isNear.1 ∈ gTbl := ⟨gTbl_in (i := 294) (by decide +kernel) (by decide +kernel), gTbl_in (i := 295) (by decide +kernel) (by decide +kernel)⟩
theorem lDV_60 : Cond.methodLink "DamageView" 60 mLA_freeNumber.1 ∈ gTbl ∧ Cond.instanceMethod mLA_freeNumber.1 ∈ gTbl ∧ Cond.selects mLA_freeNumber.1.cls mLA_freeNumber.1 mLA_freeNumber.1 ∈ gTbl ∧ vwCl[2]? = some (mLA_freeNumber.1.cls, TbLA, 6) := ⟨gTbl_in (i := 297) (by decide +kernel) (by decide +kernel), gTbl_in (i := 298) (by decide +kernel) (by decide +kernel), gTbl_in (i := 299) (by decide +kernel) (by decide +kernel), rfl⟩
theorem lDV_66 : Cond.methodLink "DamageView" 66 mCN_init.1 ∈ gTbl ∧ Cond.instanceMethod mCN_init.1 ∈ gTbl := ⟨gTbl_in (i := 303) (by decide +kernel) (by decide +kernel), gTbl_in (i := 304) (by decide +kernel) (by decide +kernel)⟩
theorem lDV_69 : Cond.methodLink "DamageView" 69 mLA_add.1 ∈ gTbl ∧ Cond.instanceMethod mLA_add.1 ∈ gTbl ∧ Cond.selects mLA_add.1.cls mLA_add.1 mLA_add.1 ∈ gTbl ∧ vwCl[2]? = some (mLA_add.1.cls, TbLA, 6) := ⟨gTbl_in (i := 324) (by decide +kernel) (by decide +kernel), gTbl_in (i := 325) (by decide +kernel) (by decide +kernel), gTbl_in (i := 326) (by decide +kernel) (by decide +kernel), rfl⟩
theorem lDV_73 : Cond.methodLink "DamageView" 73 mLA_constraintAt.1 ∈ gTbl ∧ Cond.instanceMethod mLA_constraintAt.1 ∈ gTbl ∧ Cond.selects mLA_constraintAt.1.cls mLA_constraintAt.1 mLA_constraintAt.1 ∈ gTbl ∧ vwCl[2]? = some (mLA_constraintAt.1.cls, TbLA, 6) := ⟨gTbl_in (i := 391) (by decide +kernel) (by decide +kernel), gTbl_in (i := 392) (by decide +kernel) (by decide +kernel), gTbl_in (i := 393) (by decide +kernel) (by decide +kernel), rfl⟩
theorem lDV_77 : Cond.methodLink "DamageView" 77 mLA_takeAway.1 ∈ gTbl ∧ Cond.instanceMethod mLA_takeAway.1 ∈ gTbl ∧ Cond.selects mLA_takeAway.1.cls mLA_takeAway.1 mLA_takeAway.1 ∈ gTbl ∧ vwCl[2]? = some (mLA_takeAway.1.cls, TbLA, 6) := ⟨gTbl_in (i := 395) (by decide +kernel) (by decide +kernel), gTbl_in (i := 396) (by decide +kernel) (by decide +kernel), gTbl_in (i := 397) (by decide +kernel) (by decide +kernel), rfl⟩
theorem lDV_81 : Cond.methodLink "DamageView" 81 mLA_isEdge.1 ∈ gTbl ∧ Cond.instanceMethod mLA_isEdge.1 ∈ gTbl ∧ Cond.selects mLA_isEdge.1.cls mLA_isEdge.1 mLA_isEdge.1 ∈ gTbl ∧ vwCl[2]? = some (mLA_isEdge.1.cls, TbLA, 6) := ⟨gTbl_in (i := 403) (by decide +kernel) (by decide +kernel), gTbl_in (i := 288) (by decide +kernel) (by decide +kernel), gTbl_in (i := 289) (by decide +kernel) (by decide +kernel), rfl⟩
theorem lDV_84 : Cond.methodLink "DamageView" 84 mLA_solveNear.1 ∈ gTbl ∧ Cond.instanceMethod mLA_solveNear.1 ∈ gTbl ∧ Cond.selects mLA_solveNear.1.cls mLA_solveNear.1 mLA_solveNear.1 ∈ gTbl ∧ vwCl[2]? = some (mLA_solveNear.1.cls, TbLA, 6) := ⟨gTbl_in (i := 404) (by decide +kernel) (by decide +kernel), gTbl_in (i := 405) (by decide +kernel) (by decide +kernel), gTbl_in (i := 406) (by decide +kernel) (by decide +kernel), rfl⟩
theorem lDV_87 : Cond.methodLink "DamageView" 87 mLA_setSize.1 ∈ gTbl ∧ Cond.instanceMethod mLA_setSize.1 ∈ gTbl ∧ Cond.selects mLA_setSize.1.cls mLA_setSize.1 mLA_setSize.1 ∈ gTbl ∧ vwCl[2]? = some (mLA_setSize.1.cls, TbLA, 6) := ⟨gTbl_in (i := 412) (by decide +kernel) (by decide +kernel), gTbl_in (i := 413) (by decide +kernel) (by decide +kernel), gTbl_in (i := 414) (by decide +kernel) (by decide +kernel), rfl⟩
theorem lDV_94 : Cond.methodLink "DamageView" 94 mCN_errorIn.1 ∈ gTbl ∧ Cond.instanceMethod mCN_errorIn.1 ∈ gTbl ∧ Cond.selects mCN_errorIn.1.cls mCN_errorIn.1 mCN_errorIn.1 ∈ gTbl ∧ vwCl[6]? = some (mCN_errorIn.1.cls, TbCN, 5) := ⟨gTbl_in (i := 424) (by decide +kernel) (by decide +kernel), gTbl_in (i := 425) (by decide +kernel) (by decide +kernel), gTbl_in (i := 426) (by decide +kernel) (by decide +kernel), rfl⟩
theorem lDV_98 : Cond.methodLink "DamageView" 98 mDV_isInnerBox.1 ∈ gTbl ∧ Cond.instanceMethod mDV_isInnerBox.1 ∈ gTbl ∧ Cond.selects mDV_isInnerBox.1.cls mDV_isInnerBox.1 mDV_isInnerBox.1 ∈ gTbl ∧ vwCl[0]? = some (mDV_isInnerBox.1.cls, TbDV, 7) := ⟨gTbl_in (i := 436) (by decide +kernel) (by decide +kernel), gTbl_in (i := 438) (by decide +kernel) (by decide +kernel), gTbl_in (i := 8) (by decide +kernel) (by decide +kernel), rfl⟩
theorem lDV_105 : Cond.methodLink "DamageView" 105 mDV_isLastOfItsParent.1 ∈ gTbl ∧ Cond.instanceMethod mDV_isLastOfItsParent.1 ∈ gTbl ∧ Cond.selects mDV_isLastOfItsParent.1.cls mDV_isLastOfItsParent.1 mDV_isLastOfItsParent.1 ∈ gTbl ∧ vwCl[0]? = some (mDV_isLastOfItsParent.1.cls, TbDV, 7) := ⟨gTbl_in (i := 444) (by decide +kernel) (by decide +kernel), gTbl_in (i := 446) (by decide +kernel) (by decide +kernel), gTbl_in (i := 9) (by decide +kernel) (by decide +kernel), rfl⟩
theorem lDV_109 : Cond.methodLink "DamageView" 109 mDV_bringToFront.1 ∈ gTbl ∧ Cond.instanceMethod mDV_bringToFront.1 ∈ gTbl ∧ Cond.selects mDV_bringToFront.1.cls mDV_bringToFront.1 mDV_bringToFront.1 ∈ gTbl ∧ vwCl[0]? = some (mDV_bringToFront.1.cls, TbDV, 7) := ⟨gTbl_in (i := 448) (by decide +kernel) (by decide +kernel), gTbl_in (i := 450) (by decide +kernel) (by decide +kernel), gTbl_in (i := 10) (by decide +kernel) (by decide +kernel), rfl⟩
theorem lDV_117 : Cond.methodLink "DamageView" 117 mSC_damageArea.1 ∈ gTbl ∧ Cond.instanceMethod mSC_damageArea.1 ∈ gTbl ∧ Cond.selects mSC_damageArea.1.cls mSC_damageArea.1 mSC_damageArea.1 ∈ gTbl ∧ vwCl[1]? = some (mSC_damageArea.1.cls, TbSC, 2) := ⟨gTbl_in (i := 238) (by decide +kernel) (by decide +kernel), gTbl_in (i := 239) (by decide +kernel) (by decide +kernel), gTbl_in (i := 240) (by decide +kernel) (by decide +kernel), rfl⟩
theorem lDV_121 : Cond.methodLink "DamageView" 121 mDV_frontBox.1 ∈ gTbl ∧ Cond.instanceMethod mDV_frontBox.1 ∈ gTbl ∧ Cond.selects mDV_frontBox.1.cls mDV_frontBox.1 mDV_frontBox.1 ∈ gTbl ∧ vwCl[0]? = some (mDV_frontBox.1.cls, TbDV, 7) := ⟨gTbl_in (i := 456) (by decide +kernel) (by decide +kernel), gTbl_in (i := 458) (by decide +kernel) (by decide +kernel), gTbl_in (i := 11) (by decide +kernel) (by decide +kernel), rfl⟩
theorem lDV_125 : Cond.methodLink "DamageView" 125 mDV_numberOf.1 ∈ gTbl ∧ Cond.static mDV_numberOf.1 ∈ gTbl := ⟨gTbl_in (i := 465) (by decide +kernel) (by decide +kernel), gTbl_in (i := 466) (by decide +kernel) (by decide +kernel)⟩
theorem lDV_133 : Cond.methodLink "DamageView" 133 mBX_canHaveAttention.1 ∈ gTbl ∧ Cond.instanceMethod mBX_canHaveAttention.1 ∈ gTbl ∧ Cond.selects mBX_canHaveAttention.1.cls mBX_canHaveAttention.1 mBX_canHaveAttention.1 ∈ gTbl ∧ vwCl[4]? = some (mBX_canHaveAttention.1.cls, TbBX, 9) := ⟨gTbl_in (i := 221) (by decide +kernel) (by decide +kernel), gTbl_in (i := 222) (by decide +kernel) (by decide +kernel), gTbl_in (i := 223) (by decide +kernel) (by decide +kernel), rfl⟩
theorem lDV_140 : Cond.methodLink "DamageView" 140 mDV_activate.1 ∈ gTbl ∧ Cond.static mDV_activate.1 ∈ gTbl := ⟨gTbl_in (i := 476) (by decide +kernel) (by decide +kernel), gTbl_in (i := 477) (by decide +kernel) (by decide +kernel)⟩
theorem lDV_146 : Cond.methodLink "DamageView" 146 mJM_floorMod.1 ∈ gTbl ∧ Cond.static mJM_floorMod.1 ∈ gTbl := ⟨gTbl_in (i := 483) (by decide +kernel) (by decide +kernel), gTbl_in (i := 484) (by decide +kernel) (by decide +kernel)⟩
theorem lDV_155 : Cond.methodLink "DamageView" 155 mSC_damagedPoints.1 ∈ gTbl ∧ Cond.instanceMethod mSC_damagedPoints.1 ∈ gTbl ∧ Cond.selects mSC_damagedPoints.1.cls mSC_damagedPoints.1 mSC_damagedPoints.1 ∈ gTbl ∧ vwCl[1]? = some (mSC_damagedPoints.1.cls, TbSC, 2) := ⟨gTbl_in (i := 502) (by decide +kernel) (by decide +kernel), gTbl_in (i := 503) (by decide +kernel) (by decide +kernel), gTbl_in (i := 504) (by decide +kernel) (by decide +kernel), rfl⟩
theorem lDV_158 : Cond.methodLink "DamageView" 158 mSC_isDamaged.1 ∈ gTbl ∧ Cond.instanceMethod mSC_isDamaged.1 ∈ gTbl ∧ Cond.selects mSC_isDamaged.1.cls mSC_isDamaged.1 mSC_isDamaged.1 ∈ gTbl ∧ vwCl[1]? = some (mSC_isDamaged.1.cls, TbSC, 2) := ⟨gTbl_in (i := 510) (by decide +kernel) (by decide +kernel), gTbl_in (i := 511) (by decide +kernel) (by decide +kernel), gTbl_in (i := 512) (by decide +kernel) (by decide +kernel), rfl⟩
theorem lDV_161 : Cond.methodLink "DamageView" 161 mDV_pictureAt.1 ∈ gTbl ∧ Cond.instanceMethod mDV_pictureAt.1 ∈ gTbl ∧ Cond.selects mDV_pictureAt.1.cls mDV_pictureAt.1 mDV_pictureAt.1 ∈ gTbl ∧ vwCl[0]? = some (mDV_pictureAt.1.cls, TbDV, 7) := ⟨gTbl_in (i := 514) (by decide +kernel) (by decide +kernel), gTbl_in (i := 516) (by decide +kernel) (by decide +kernel), gTbl_in (i := 13) (by decide +kernel) (by decide +kernel), rfl⟩
theorem lDV_164 : Cond.methodLink "DamageView" 164 mSC_repair.1 ∈ gTbl ∧ Cond.instanceMethod mSC_repair.1 ∈ gTbl ∧ Cond.selects mSC_repair.1.cls mSC_repair.1 mSC_repair.1 ∈ gTbl ∧ vwCl[1]? = some (mSC_repair.1.cls, TbSC, 2) := ⟨gTbl_in (i := 518) (by decide +kernel) (by decide +kernel), gTbl_in (i := 519) (by decide +kernel) (by decide +kernel), gTbl_in (i := 520) (by decide +kernel) (by decide +kernel), rfl⟩
theorem lDV_168 : Cond.methodLink "DamageView" 168 mSC_frameAt.1 ∈ gTbl ∧ Cond.instanceMethod mSC_frameAt.1 ∈ gTbl ∧ Cond.selects mSC_frameAt.1.cls mSC_frameAt.1 mSC_frameAt.1 ∈ gTbl ∧ vwCl[1]? = some (mSC_frameAt.1.cls, TbSC, 2) := ⟨gTbl_in (i := 526) (by decide +kernel) (by decide +kernel), gTbl_in (i := 527) (by decide +kernel) (by decide +kernel), gTbl_in (i := 528) (by decide +kernel) (by decide +kernel), rfl⟩
theorem lDV_171 : Cond.methodLink "DamageView" 171 mBX_init.1 ∈ gTbl ∧ Cond.instanceMethod mBX_init.1 ∈ gTbl := ⟨gTbl_in (i := 128) (by decide +kernel) (by decide +kernel), gTbl_in (i := 129) (by decide +kernel) (by decide +kernel)⟩
theorem lDV_180 : Cond.methodLink "DamageView" 180 mDV_frontChild.1 ∈ gTbl ∧ Cond.instanceMethod mDV_frontChild.1 ∈ gTbl ∧ Cond.selects mDV_frontChild.1.cls mDV_frontChild.1 mDV_frontChild.1 ∈ gTbl ∧ vwCl[0]? = some (mDV_frontChild.1.cls, TbDV, 7) := ⟨gTbl_in (i := 460) (by decide +kernel) (by decide +kernel), gTbl_in (i := 462) (by decide +kernel) (by decide +kernel), gTbl_in (i := 12) (by decide +kernel) (by decide +kernel), rfl⟩
theorem lDV_184 : Cond.methodLink "DamageView" 184 mAR_has.1 ∈ gTbl ∧ Cond.instanceMethod mAR_has.1 ∈ gTbl ∧ Cond.selects mAR_has.1.cls mAR_has.1 mAR_has.1 ∈ gTbl ∧ vwCl[5]? = some (mAR_has.1.cls, TbAR, 4) := ⟨gTbl_in (i := 464) (by decide +kernel) (by decide +kernel), gTbl_in (i := 243) (by decide +kernel) (by decide +kernel), gTbl_in (i := 244) (by decide +kernel) (by decide +kernel), rfl⟩
theorem lDV_198 : Cond.methodLink "DamageView" 198 mBX_findArea.1 ∈ gTbl ∧ Cond.instanceMethod mBX_findArea.1 ∈ gTbl ∧ Cond.selects mBX_findArea.1.cls mBX_findArea.1 mBX_findArea.1 ∈ gTbl ∧ vwCl[4]? = some (mBX_findArea.1.cls, TbBX, 9) := ⟨gTbl_in (i := 190) (by decide +kernel) (by decide +kernel), gTbl_in (i := 191) (by decide +kernel) (by decide +kernel), gTbl_in (i := 192) (by decide +kernel) (by decide +kernel), rfl⟩
theorem lDV_202 : Cond.methodLink "DamageView" 202 mDV_showBox.1 ∈ gTbl ∧ Cond.instanceMethod mDV_showBox.1 ∈ gTbl ∧ Cond.selects mDV_showBox.1.cls mDV_showBox.1 mDV_showBox.1 ∈ gTbl ∧ vwCl[0]? = some (mDV_showBox.1.cls, TbDV, 7) := ⟨gTbl_in (i := 226) (by decide +kernel) (by decide +kernel), gTbl_in (i := 228) (by decide +kernel) (by decide +kernel), gTbl_in (i := 2) (by decide +kernel) (by decide +kernel), rfl⟩
theorem lDV_205 : Cond.methodLink "DamageView" 205 mDV_colourOf.1 ∈ gTbl ∧ Cond.instanceMethod mDV_colourOf.1 ∈ gTbl ∧ Cond.selects mDV_colourOf.1.cls mDV_colourOf.1 mDV_colourOf.1 ∈ gTbl ∧ vwCl[0]? = some (mDV_colourOf.1.cls, TbDV, 7) := ⟨gTbl_in (i := 230) (by decide +kernel) (by decide +kernel), gTbl_in (i := 232) (by decide +kernel) (by decide +kernel), gTbl_in (i := 3) (by decide +kernel) (by decide +kernel), rfl⟩
theorem lDV_211 : Cond.methodLink "DamageView" 211 mAR_isSameAs.1 ∈ gTbl ∧ Cond.instanceMethod mAR_isSameAs.1 ∈ gTbl ∧ Cond.selects mAR_isSameAs.1.cls mAR_isSameAs.1 mAR_isSameAs.1 ∈ gTbl ∧ vwCl[5]? = some (mAR_isSameAs.1.cls, TbAR, 4) := ⟨gTbl_in (i := 234) (by decide +kernel) (by decide +kernel), gTbl_in (i := 235) (by decide +kernel) (by decide +kernel), gTbl_in (i := 236) (by decide +kernel) (by decide +kernel), rfl⟩
theorem oMO_1 : Cond.methodLink "DamageViewModel" 1 objectInit ∈ gTbl ∧ Cond.instanceMethod objectInit ∈ gTbl ∧ Cond.code objectInit ⟨#[0xb1]⟩ 1 none ∈ gTbl := ⟨gTbl_in (i := 538) (by decide +kernel) (by decide +kernel), gTbl_in (i := 53) (by decide +kernel) (by decide +kernel), gTbl_in (i := 54) (by decide +kernel) (by decide +kernel)⟩
theorem lMO_93 : Cond.methodLink "DamageViewModel" 93 mMO_look.1 ∈ gTbl ∧ Cond.instanceMethod mMO_look.1 ∈ gTbl ∧ Cond.selects mMO_look.1.cls mMO_look.1 mMO_look.1 ∈ gTbl ∧ vwCl[7]? = some (mMO_look.1.cls, TbMO, 29) := ⟨gTbl_in (i := 539) (by decide +kernel) (by decide +kernel), gTbl_in (i := 541) (by decide +kernel) (by decide +kernel), gTbl_in (i := 14) (by decide +kernel) (by decide +kernel), rfl⟩
theorem lMO_96 : Cond.methodLink "DamageViewModel" 96 mMO_covers.1 ∈ gTbl ∧ Cond.instanceMethod mMO_covers.1 ∈ gTbl ∧ Cond.selects mMO_covers.1.cls mMO_covers.1 mMO_covers.1 ∈ gTbl ∧ vwCl[7]? = some (mMO_covers.1.cls, TbMO, 29) := ⟨gTbl_in (i := 555) (by decide +kernel) (by decide +kernel), gTbl_in (i := 557) (by decide +kernel) (by decide +kernel), gTbl_in (i := 18) (by decide +kernel) (by decide +kernel), rfl⟩
theorem lMO_100 : Cond.methodLink "DamageViewModel" 100 mMO_inArea.1 ∈ gTbl ∧ Cond.instanceMethod mMO_inArea.1 ∈ gTbl ∧ Cond.selects mMO_inArea.1.cls mMO_inArea.1 mMO_inArea.1 ∈ gTbl ∧ vwCl[7]? = some (mMO_inArea.1.cls, TbMO, 29) := ⟨gTbl_in (i := 551) (by decide +kernel) (by decide +kernel), gTbl_in (i := 553) (by decide +kernel) (by decide +kernel), gTbl_in (i := 17) (by decide +kernel) (by decide +kernel), rfl⟩
theorem lMO_103 : Cond.methodLink "DamageViewModel" 103 mMO_someArea.1 ∈ gTbl ∧ Cond.instanceMethod mMO_someArea.1 ∈ gTbl ∧ Cond.selects mMO_someArea.1.cls mMO_someArea.1 mMO_someArea.1 ∈ gTbl ∧ vwCl[7]? = some (mMO_someArea.1.cls, TbMO, 29) := ⟨gTbl_in (i := 547) (by decide +kernel) (by decide +kernel), gTbl_in (i := 549) (by decide +kernel) (by decide +kernel), gTbl_in (i := 16) (by decide +kernel) (by decide +kernel), rfl⟩
theorem lMO_107 : Cond.methodLink "DamageViewModel" 107 mMO_can.1 ∈ gTbl ∧ Cond.instanceMethod mMO_can.1 ∈ gTbl ∧ Cond.selects mMO_can.1.cls mMO_can.1 mMO_can.1 ∈ gTbl ∧ vwCl[7]? = some (mMO_can.1.cls, TbMO, 29) := ⟨gTbl_in (i := 543) (by decide +kernel) (by decide +kernel), gTbl_in (i := 545) (by decide +kernel) (by decide +kernel), gTbl_in (i := 15) (by decide +kernel) (by decide +kernel), rfl⟩
theorem lMO_110 : Cond.methodLink "DamageViewModel" 110 mMO_colour.1 ∈ gTbl ∧ Cond.instanceMethod mMO_colour.1 ∈ gTbl ∧ Cond.selects mMO_colour.1.cls mMO_colour.1 mMO_colour.1 ∈ gTbl ∧ vwCl[7]? = some (mMO_colour.1.cls, TbMO, 29) := ⟨gTbl_in (i := 559) (by decide +kernel) (by decide +kernel), gTbl_in (i := 561) (by decide +kernel) (by decide +kernel), gTbl_in (i := 19) (by decide +kernel) (by decide +kernel), rfl⟩
theorem lMO_117 : Cond.methodLink "DamageViewModel" 117 mMO_row.1 ∈ gTbl ∧ Cond.instanceMethod mMO_row.1 ∈ gTbl ∧ Cond.selects mMO_row.1.cls mMO_row.1 mMO_row.1 ∈ gTbl ∧ vwCl[7]? = some (mMO_row.1.cls, TbMO, 29) := ⟨gTbl_in (i := 686) (by decide +kernel) (by decide +kernel), gTbl_in (i := 688) (by decide +kernel) (by decide +kernel), gTbl_in (i := 26) (by decide +kernel) (by decide +kernel), rfl⟩
theorem lMO_121 : Cond.methodLink "DamageViewModel" 121 mMO_atLeast.1 ∈ gTbl ∧ Cond.instanceMethod mMO_atLeast.1 ∈ gTbl ∧ Cond.selects mMO_atLeast.1.cls mMO_atLeast.1 mMO_atLeast.1 ∈ gTbl ∧ vwCl[7]? = some (mMO_atLeast.1.cls, TbMO, 29) := ⟨gTbl_in (i := 682) (by decide +kernel) (by decide +kernel), gTbl_in (i := 684) (by decide +kernel) (by decide +kernel), gTbl_in (i := 25) (by decide +kernel) (by decide +kernel), rfl⟩
theorem lMO_125 : Cond.methodLink "DamageViewModel" 125 mMO_lower.1 ∈ gTbl ∧ Cond.instanceMethod mMO_lower.1 ∈ gTbl ∧ Cond.selects mMO_lower.1.cls mMO_lower.1 mMO_lower.1 ∈ gTbl ∧ vwCl[7]? = some (mMO_lower.1.cls, TbMO, 29) := ⟨gTbl_in (i := 694) (by decide +kernel) (by decide +kernel), gTbl_in (i := 696) (by decide +kernel) (by decide +kernel), gTbl_in (i := 28) (by decide +kernel) (by decide +kernel), rfl⟩
theorem lMO_129 : Cond.methodLink "DamageViewModel" 129 mMO_most.1 ∈ gTbl ∧ Cond.instanceMethod mMO_most.1 ∈ gTbl ∧ Cond.selects mMO_most.1.cls mMO_most.1 mMO_most.1 ∈ gTbl ∧ vwCl[7]? = some (mMO_most.1.cls, TbMO, 29) := ⟨gTbl_in (i := 703) (by decide +kernel) (by decide +kernel), gTbl_in (i := 705) (by decide +kernel) (by decide +kernel), gTbl_in (i := 30) (by decide +kernel) (by decide +kernel), rfl⟩
theorem lMO_133 : Cond.methodLink "DamageViewModel" 133 mMO_exactly.1 ∈ gTbl ∧ Cond.instanceMethod mMO_exactly.1 ∈ gTbl ∧ Cond.selects mMO_exactly.1.cls mMO_exactly.1 mMO_exactly.1 ∈ gTbl ∧ vwCl[7]? = some (mMO_exactly.1.cls, TbMO, 29) := ⟨gTbl_in (i := 678) (by decide +kernel) (by decide +kernel), gTbl_in (i := 680) (by decide +kernel) (by decide +kernel), gTbl_in (i := 24) (by decide +kernel) (by decide +kernel), rfl⟩
theorem lMO_136 : Cond.methodLink "DamageViewModel" 136 mMO_settle.1 ∈ gTbl ∧ Cond.instanceMethod mMO_settle.1 ∈ gTbl ∧ Cond.selects mMO_settle.1.cls mMO_settle.1 mMO_settle.1 ∈ gTbl ∧ vwCl[7]? = some (mMO_settle.1.cls, TbMO, 29) := ⟨gTbl_in (i := 699) (by decide +kernel) (by decide +kernel), gTbl_in (i := 701) (by decide +kernel) (by decide +kernel), gTbl_in (i := 29) (by decide +kernel) (by decide +kernel), rfl⟩
theorem lMO_140 : Cond.methodLink "DamageViewModel" 140 mMO_required.1 ∈ gTbl ∧ Cond.instanceMethod mMO_required.1 ∈ gTbl ∧ Cond.selects mMO_required.1.cls mMO_required.1 mMO_required.1 ∈ gTbl ∧ vwCl[7]? = some (mMO_required.1.cls, TbMO, 29) := ⟨gTbl_in (i := 674) (by decide +kernel) (by decide +kernel), gTbl_in (i := 676) (by decide +kernel) (by decide +kernel), gTbl_in (i := 23) (by decide +kernel) (by decide +kernel), rfl⟩
theorem lMO_143 : Cond.methodLink "DamageViewModel" 143 mMO_conflict.1 ∈ gTbl ∧ Cond.instanceMethod mMO_conflict.1 ∈ gTbl ∧ Cond.selects mMO_conflict.1.cls mMO_conflict.1 mMO_conflict.1 ∈ gTbl ∧ vwCl[7]? = some (mMO_conflict.1.cls, TbMO, 29) := ⟨gTbl_in (i := 690) (by decide +kernel) (by decide +kernel), gTbl_in (i := 692) (by decide +kernel) (by decide +kernel), gTbl_in (i := 27) (by decide +kernel) (by decide +kernel), rfl⟩
theorem lMO_146 : Cond.methodLink "DamageViewModel" 146 mMO_origin.1 ∈ gTbl ∧ Cond.static mMO_origin.1 ∈ gTbl := ⟨gTbl_in (i := 667) (by decide +kernel) (by decide +kernel), gTbl_in (i := 668) (by decide +kernel) (by decide +kernel)⟩
theorem lMO_149 : Cond.methodLink "DamageViewModel" 149 mMO_soft.1 ∈ gTbl ∧ Cond.instanceMethod mMO_soft.1 ∈ gTbl ∧ Cond.selects mMO_soft.1.cls mMO_soft.1 mMO_soft.1 ∈ gTbl ∧ vwCl[7]? = some (mMO_soft.1.cls, TbMO, 29) := ⟨gTbl_in (i := 707) (by decide +kernel) (by decide +kernel), gTbl_in (i := 709) (by decide +kernel) (by decide +kernel), gTbl_in (i := 31) (by decide +kernel) (by decide +kernel), rfl⟩
theorem lMO_153 : Cond.methodLink "DamageViewModel" 153 mMO_isBox.1 ∈ gTbl ∧ Cond.instanceMethod mMO_isBox.1 ∈ gTbl ∧ Cond.selects mMO_isBox.1.cls mMO_isBox.1 mMO_isBox.1 ∈ gTbl ∧ vwCl[7]? = some (mMO_isBox.1.cls, TbMO, 29) := ⟨gTbl_in (i := 655) (by decide +kernel) (by decide +kernel), gTbl_in (i := 657) (by decide +kernel) (by decide +kernel), gTbl_in (i := 20) (by decide +kernel) (by decide +kernel), rfl⟩
theorem lMO_159 : Cond.methodLink "DamageViewModel" 159 mMO_isEdge.1 ∈ gTbl ∧ Cond.instanceMethod mMO_isEdge.1 ∈ gTbl ∧ Cond.selects mMO_isEdge.1.cls mMO_isEdge.1 mMO_isEdge.1 ∈ gTbl ∧ vwCl[7]? = some (mMO_isEdge.1.cls, TbMO, 29) := ⟨gTbl_in (i := 663) (by decide +kernel) (by decide +kernel), gTbl_in (i := 665) (by decide +kernel) (by decide +kernel), gTbl_in (i := 21) (by decide +kernel) (by decide +kernel), rfl⟩
theorem lMO_162 : Cond.methodLink "DamageViewModel" 162 mMO_solve.1 ∈ gTbl ∧ Cond.instanceMethod mMO_solve.1 ∈ gTbl ∧ Cond.selects mMO_solve.1.cls mMO_solve.1 mMO_solve.1 ∈ gTbl ∧ vwCl[7]? = some (mMO_solve.1.cls, TbMO, 29) := ⟨gTbl_in (i := 670) (by decide +kernel) (by decide +kernel), gTbl_in (i := 672) (by decide +kernel) (by decide +kernel), gTbl_in (i := 22) (by decide +kernel) (by decide +kernel), rfl⟩
theorem lMO_166 : Cond.methodLink "DamageViewModel" 166 mMO_isConstraint.1 ∈ gTbl ∧ Cond.instanceMethod mMO_isConstraint.1 ∈ gTbl ∧ Cond.selects mMO_isConstraint.1.cls mMO_isConstraint.1 mMO_isConstraint.1 ∈ gTbl ∧ vwCl[7]? = some (mMO_isConstraint.1.cls, TbMO, 29) := ⟨gTbl_in (i := 715) (by decide +kernel) (by decide +kernel), gTbl_in (i := 717) (by decide +kernel) (by decide +kernel), gTbl_in (i := 32) (by decide +kernel) (by decide +kernel), rfl⟩
theorem lMO_169 : Cond.methodLink "DamageViewModel" 169 mMO_isLast.1 ∈ gTbl ∧ Cond.instanceMethod mMO_isLast.1 ∈ gTbl ∧ Cond.selects mMO_isLast.1.cls mMO_isLast.1 mMO_isLast.1 ∈ gTbl ∧ vwCl[7]? = some (mMO_isLast.1.cls, TbMO, 29) := ⟨gTbl_in (i := 743) (by decide +kernel) (by decide +kernel), gTbl_in (i := 745) (by decide +kernel) (by decide +kernel), gTbl_in (i := 33) (by decide +kernel) (by decide +kernel), rfl⟩
theorem lMO_172 : Cond.methodLink "DamageViewModel" 172 mMO_inFront.1 ∈ gTbl ∧ Cond.instanceMethod mMO_inFront.1 ∈ gTbl ∧ Cond.selects mMO_inFront.1.cls mMO_inFront.1 mMO_inFront.1 ∈ gTbl ∧ vwCl[7]? = some (mMO_inFront.1.cls, TbMO, 29) := ⟨gTbl_in (i := 751) (by decide +kernel) (by decide +kernel), gTbl_in (i := 753) (by decide +kernel) (by decide +kernel), gTbl_in (i := 34) (by decide +kernel) (by decide +kernel), rfl⟩
theorem lMO_175 : Cond.methodLink "DamageViewModel" 175 mMO_hit.1 ∈ gTbl ∧ Cond.instanceMethod mMO_hit.1 ∈ gTbl ∧ Cond.selects mMO_hit.1.cls mMO_hit.1 mMO_hit.1 ∈ gTbl ∧ vwCl[7]? = some (mMO_hit.1.cls, TbMO, 29) := ⟨gTbl_in (i := 759) (by decide +kernel) (by decide +kernel), gTbl_in (i := 748) (by decide +kernel) (by decide +kernel), gTbl_in (i := 749) (by decide +kernel) (by decide +kernel), rfl⟩
theorem lMO_178 : Cond.methodLink "DamageViewModel" 178 mMO_activate.1 ∈ gTbl ∧ Cond.instanceMethod mMO_activate.1 ∈ gTbl ∧ Cond.selects mMO_activate.1.cls mMO_activate.1 mMO_activate.1 ∈ gTbl ∧ vwCl[7]? = some (mMO_activate.1.cls, TbMO, 29) := ⟨gTbl_in (i := 764) (by decide +kernel) (by decide +kernel), gTbl_in (i := 766) (by decide +kernel) (by decide +kernel), gTbl_in (i := 35) (by decide +kernel) (by decide +kernel), rfl⟩
theorem lLW_9 : Cond.methodLink "DamageViewLaw" 9 mLW_cell.1 ∈ gTbl ∧ Cond.static mLW_cell.1 ∈ gTbl := ⟨gTbl_in (i := 530) (by decide +kernel) (by decide +kernel), gTbl_in (i := 531) (by decide +kernel) (by decide +kernel)⟩
theorem lLW_15 : Cond.methodLink "DamageViewLaw" 15 mDV_init.1 ∈ gTbl ∧ Cond.instanceMethod mDV_init.1 ∈ gTbl := ⟨gTbl_in (i := 49) (by decide +kernel) (by decide +kernel), gTbl_in (i := 50) (by decide +kernel) (by decide +kernel)⟩
theorem lLW_20 : Cond.methodLink "DamageViewLaw" 20 mMO_init.1 ∈ gTbl ∧ Cond.instanceMethod mMO_init.1 ∈ gTbl := ⟨gTbl_in (i := 535) (by decide +kernel) (by decide +kernel), gTbl_in (i := 536) (by decide +kernel) (by decide +kernel)⟩
theorem lLW_21 : Cond.methodLink "DamageViewLaw" 21 mDV_box.1 ∈ gTbl ∧ Cond.instanceMethod mDV_box.1 ∈ gTbl ∧ Cond.selects mDV_box.1.cls mDV_box.1 mDV_box.1 ∈ gTbl ∧ vwCl[0]? = some (mDV_box.1.cls, TbDV, 7) := ⟨gTbl_in (i := 271) (by decide +kernel) (by decide +kernel), gTbl_in (i := 272) (by decide +kernel) (by decide +kernel), gTbl_in (i := 273) (by decide +kernel) (by decide +kernel), rfl⟩
theorem lLW_25 : Cond.methodLink "DamageViewLaw" 25 mMO_box.1 ∈ gTbl ∧ Cond.instanceMethod mMO_box.1 ∈ gTbl ∧ Cond.selects mMO_box.1.cls mMO_box.1 mMO_box.1 ∈ gTbl ∧ vwCl[7]? = some (mMO_box.1.cls, TbMO, 29) := ⟨gTbl_in (i := 651) (by decide +kernel) (by decide +kernel), gTbl_in (i := 652) (by decide +kernel) (by decide +kernel), gTbl_in (i := 653) (by decide +kernel) (by decide +kernel), rfl⟩
theorem lLW_26 : Cond.methodLink "DamageViewLaw" 26 mDV_constrain.1 ∈ gTbl ∧ Cond.instanceMethod mDV_constrain.1 ∈ gTbl ∧ Cond.selects mDV_constrain.1.cls mDV_constrain.1 mDV_constrain.1 ∈ gTbl ∧ vwCl[0]? = some (mDV_constrain.1.cls, TbDV, 7) := ⟨gTbl_in (i := 279) (by decide +kernel) (by decide +kernel), gTbl_in (i := 280) (by decide +kernel) (by decide +kernel), gTbl_in (i := 281) (by decide +kernel) (by decide +kernel), rfl⟩
theorem lLW_30 : Cond.methodLink "DamageViewLaw" 30 mMO_constrain.1 ∈ gTbl ∧ Cond.instanceMethod mMO_constrain.1 ∈ gTbl ∧ Cond.selects mMO_constrain.1.cls mMO_constrain.1 mMO_constrain.1 ∈ gTbl ∧ vwCl[7]? = some (mMO_constrain.1.cls, TbMO, 29) := ⟨gTbl_in (i := 659) (by decide +kernel) (by decide +kernel), gTbl_in (i := 660) (by decide +kernel) (by decide +kernel), gTbl_in (i := 661) (by decide +kernel) (by decide +kernel), rfl⟩
theorem lLW_31 : Cond.methodLink "DamageViewLaw" 31 mDV_remove.1 ∈ gTbl ∧ Cond.instanceMethod mDV_remove.1 ∈ gTbl ∧ Cond.selects mDV_remove.1.cls mDV_remove.1 mDV_remove.1 ∈ gTbl ∧ vwCl[0]? = some (mDV_remove.1.cls, TbDV, 7) := ⟨gTbl_in (i := 387) (by decide +kernel) (by decide +kernel), gTbl_in (i := 388) (by decide +kernel) (by decide +kernel), gTbl_in (i := 389) (by decide +kernel) (by decide +kernel), rfl⟩
theorem lLW_35 : Cond.methodLink "DamageViewLaw" 35 mMO_remove.1 ∈ gTbl ∧ Cond.instanceMethod mMO_remove.1 ∈ gTbl ∧ Cond.selects mMO_remove.1.cls mMO_remove.1 mMO_remove.1 ∈ gTbl ∧ vwCl[7]? = some (mMO_remove.1.cls, TbMO, 29) := ⟨gTbl_in (i := 711) (by decide +kernel) (by decide +kernel), gTbl_in (i := 712) (by decide +kernel) (by decide +kernel), gTbl_in (i := 713) (by decide +kernel) (by decide +kernel), rfl⟩
theorem lLW_36 : Cond.methodLink "DamageViewLaw" 36 mDV_suggest.1 ∈ gTbl ∧ Cond.instanceMethod mDV_suggest.1 ∈ gTbl ∧ Cond.selects mDV_suggest.1.cls mDV_suggest.1 mDV_suggest.1 ∈ gTbl ∧ vwCl[0]? = some (mDV_suggest.1.cls, TbDV, 7) := ⟨gTbl_in (i := 399) (by decide +kernel) (by decide +kernel), gTbl_in (i := 400) (by decide +kernel) (by decide +kernel), gTbl_in (i := 401) (by decide +kernel) (by decide +kernel), rfl⟩
theorem lLW_40 : Cond.methodLink "DamageViewLaw" 40 mMO_suggest.1 ∈ gTbl ∧ Cond.instanceMethod mMO_suggest.1 ∈ gTbl ∧ Cond.selects mMO_suggest.1.cls mMO_suggest.1 mMO_suggest.1 ∈ gTbl ∧ vwCl[7]? = some (mMO_suggest.1.cls, TbMO, 29) := ⟨gTbl_in (i := 719) (by decide +kernel) (by decide +kernel), gTbl_in (i := 720) (by decide +kernel) (by decide +kernel), gTbl_in (i := 721) (by decide +kernel) (by decide +kernel), rfl⟩
theorem lLW_41 : Cond.methodLink "DamageViewLaw" 41 mDV_resize.1 ∈ gTbl ∧ Cond.instanceMethod mDV_resize.1 ∈ gTbl ∧ Cond.selects mDV_resize.1.cls mDV_resize.1 mDV_resize.1 ∈ gTbl ∧ vwCl[0]? = some (mDV_resize.1.cls, TbDV, 7) := ⟨gTbl_in (i := 408) (by decide +kernel) (by decide +kernel), gTbl_in (i := 409) (by decide +kernel) (by decide +kernel), gTbl_in (i := 410) (by decide +kernel) (by decide +kernel), rfl⟩
theorem lLW_44 : Cond.methodLink "DamageViewLaw" 44 mMO_resize.1 ∈ gTbl ∧ Cond.instanceMethod mMO_resize.1 ∈ gTbl ∧ Cond.selects mMO_resize.1.cls mMO_resize.1 mMO_resize.1 ∈ gTbl ∧ vwCl[7]? = some (mMO_resize.1.cls, TbMO, 29) := ⟨gTbl_in (i := 723) (by decide +kernel) (by decide +kernel), gTbl_in (i := 724) (by decide +kernel) (by decide +kernel), gTbl_in (i := 725) (by decide +kernel) (by decide +kernel), rfl⟩
theorem lLW_45 : Cond.methodLink "DamageViewLaw" 45 mDV_place.1 ∈ gTbl ∧ Cond.instanceMethod mDV_place.1 ∈ gTbl ∧ Cond.selects mDV_place.1.cls mDV_place.1 mDV_place.1 ∈ gTbl ∧ vwCl[0]? = some (mDV_place.1.cls, TbDV, 7) := ⟨gTbl_in (i := 416) (by decide +kernel) (by decide +kernel), gTbl_in (i := 417) (by decide +kernel) (by decide +kernel), gTbl_in (i := 418) (by decide +kernel) (by decide +kernel), rfl⟩
theorem lLW_49 : Cond.methodLink "DamageViewLaw" 49 mMO_place.1 ∈ gTbl ∧ Cond.instanceMethod mMO_place.1 ∈ gTbl ∧ Cond.selects mMO_place.1.cls mMO_place.1 mMO_place.1 ∈ gTbl ∧ vwCl[7]? = some (mMO_place.1.cls, TbMO, 29) := ⟨gTbl_in (i := 727) (by decide +kernel) (by decide +kernel), gTbl_in (i := 728) (by decide +kernel) (by decide +kernel), gTbl_in (i := 729) (by decide +kernel) (by decide +kernel), rfl⟩
theorem lLW_50 : Cond.methodLink "DamageViewLaw" 50 mDV_error.1 ∈ gTbl ∧ Cond.instanceMethod mDV_error.1 ∈ gTbl ∧ Cond.selects mDV_error.1.cls mDV_error.1 mDV_error.1 ∈ gTbl ∧ vwCl[0]? = some (mDV_error.1.cls, TbDV, 7) := ⟨gTbl_in (i := 420) (by decide +kernel) (by decide +kernel), gTbl_in (i := 421) (by decide +kernel) (by decide +kernel), gTbl_in (i := 422) (by decide +kernel) (by decide +kernel), rfl⟩
theorem lLW_53 : Cond.methodLink "DamageViewLaw" 53 mMO_error.1 ∈ gTbl ∧ Cond.instanceMethod mMO_error.1 ∈ gTbl ∧ Cond.selects mMO_error.1.cls mMO_error.1 mMO_error.1 ∈ gTbl ∧ vwCl[7]? = some (mMO_error.1.cls, TbMO, 29) := ⟨gTbl_in (i := 731) (by decide +kernel) (by decide +kernel), gTbl_in (i := 732) (by decide +kernel) (by decide +kernel), gTbl_in (i := 733) (by decide +kernel) (by decide +kernel), rfl⟩
theorem lLW_54 : Cond.methodLink "DamageViewLaw" 54 mDV_hide.1 ∈ gTbl ∧ Cond.instanceMethod mDV_hide.1 ∈ gTbl ∧ Cond.selects mDV_hide.1.cls mDV_hide.1 mDV_hide.1 ∈ gTbl ∧ vwCl[0]? = some (mDV_hide.1.cls, TbDV, 7) := ⟨gTbl_in (i := 432) (by decide +kernel) (by decide +kernel), gTbl_in (i := 433) (by decide +kernel) (by decide +kernel), gTbl_in (i := 434) (by decide +kernel) (by decide +kernel), rfl⟩
theorem lLW_58 : Cond.methodLink "DamageViewLaw" 58 mMO_hide.1 ∈ gTbl ∧ Cond.instanceMethod mMO_hide.1 ∈ gTbl ∧ Cond.selects mMO_hide.1.cls mMO_hide.1 mMO_hide.1 ∈ gTbl ∧ vwCl[7]? = some (mMO_hide.1.cls, TbMO, 29) := ⟨gTbl_in (i := 735) (by decide +kernel) (by decide +kernel), gTbl_in (i := 736) (by decide +kernel) (by decide +kernel), gTbl_in (i := 737) (by decide +kernel) (by decide +kernel), rfl⟩
theorem lLW_59 : Cond.methodLink "DamageViewLaw" 59 mDV_raise.1 ∈ gTbl ∧ Cond.instanceMethod mDV_raise.1 ∈ gTbl ∧ Cond.selects mDV_raise.1.cls mDV_raise.1 mDV_raise.1 ∈ gTbl ∧ vwCl[0]? = some (mDV_raise.1.cls, TbDV, 7) := ⟨gTbl_in (i := 440) (by decide +kernel) (by decide +kernel), gTbl_in (i := 441) (by decide +kernel) (by decide +kernel), gTbl_in (i := 442) (by decide +kernel) (by decide +kernel), rfl⟩
theorem lLW_62 : Cond.methodLink "DamageViewLaw" 62 mMO_raise.1 ∈ gTbl ∧ Cond.instanceMethod mMO_raise.1 ∈ gTbl ∧ Cond.selects mMO_raise.1.cls mMO_raise.1 mMO_raise.1 ∈ gTbl ∧ vwCl[7]? = some (mMO_raise.1.cls, TbMO, 29) := ⟨gTbl_in (i := 739) (by decide +kernel) (by decide +kernel), gTbl_in (i := 740) (by decide +kernel) (by decide +kernel), gTbl_in (i := 741) (by decide +kernel) (by decide +kernel), rfl⟩
theorem lLW_63 : Cond.methodLink "DamageViewLaw" 63 mDV_hit.1 ∈ gTbl ∧ Cond.instanceMethod mDV_hit.1 ∈ gTbl ∧ Cond.selects mDV_hit.1.cls mDV_hit.1 mDV_hit.1 ∈ gTbl ∧ vwCl[0]? = some (mDV_hit.1.cls, TbDV, 7) := ⟨gTbl_in (i := 452) (by decide +kernel) (by decide +kernel), gTbl_in (i := 453) (by decide +kernel) (by decide +kernel), gTbl_in (i := 454) (by decide +kernel) (by decide +kernel), rfl⟩
theorem lLW_66 : Cond.methodLink "DamageViewLaw" 66 mMO_hit.1 ∈ gTbl ∧ Cond.instanceMethod mMO_hit.1 ∈ gTbl ∧ Cond.selects mMO_hit.1.cls mMO_hit.1 mMO_hit.1 ∈ gTbl ∧ vwCl[7]? = some (mMO_hit.1.cls, TbMO, 29) := ⟨gTbl_in (i := 747) (by decide +kernel) (by decide +kernel), gTbl_in (i := 748) (by decide +kernel) (by decide +kernel), gTbl_in (i := 749) (by decide +kernel) (by decide +kernel), rfl⟩
theorem lLW_67 : Cond.methodLink "DamageViewLaw" 67 mDV_press.1 ∈ gTbl ∧ Cond.instanceMethod mDV_press.1 ∈ gTbl ∧ Cond.selects mDV_press.1.cls mDV_press.1 mDV_press.1 ∈ gTbl ∧ vwCl[0]? = some (mDV_press.1.cls, TbDV, 7) := ⟨gTbl_in (i := 468) (by decide +kernel) (by decide +kernel), gTbl_in (i := 469) (by decide +kernel) (by decide +kernel), gTbl_in (i := 470) (by decide +kernel) (by decide +kernel), rfl⟩
theorem lLW_70 : Cond.methodLink "DamageViewLaw" 70 mMO_press.1 ∈ gTbl ∧ Cond.instanceMethod mMO_press.1 ∈ gTbl ∧ Cond.selects mMO_press.1.cls mMO_press.1 mMO_press.1 ∈ gTbl ∧ vwCl[7]? = some (mMO_press.1.cls, TbMO, 29) := ⟨gTbl_in (i := 755) (by decide +kernel) (by decide +kernel), gTbl_in (i := 756) (by decide +kernel) (by decide +kernel), gTbl_in (i := 757) (by decide +kernel) (by decide +kernel), rfl⟩
theorem lLW_71 : Cond.methodLink "DamageViewLaw" 71 mDV_release.1 ∈ gTbl ∧ Cond.instanceMethod mDV_release.1 ∈ gTbl ∧ Cond.selects mDV_release.1.cls mDV_release.1 mDV_release.1 ∈ gTbl ∧ vwCl[0]? = some (mDV_release.1.cls, TbDV, 7) := ⟨gTbl_in (i := 472) (by decide +kernel) (by decide +kernel), gTbl_in (i := 473) (by decide +kernel) (by decide +kernel), gTbl_in (i := 474) (by decide +kernel) (by decide +kernel), rfl⟩
theorem lLW_74 : Cond.methodLink "DamageViewLaw" 74 mMO_release.1 ∈ gTbl ∧ Cond.instanceMethod mMO_release.1 ∈ gTbl ∧ Cond.selects mMO_release.1.cls mMO_release.1 mMO_release.1 ∈ gTbl ∧ vwCl[7]? = some (mMO_release.1.cls, TbMO, 29) := ⟨gTbl_in (i := 760) (by decide +kernel) (by decide +kernel), gTbl_in (i := 761) (by decide +kernel) (by decide +kernel), gTbl_in (i := 762) (by decide +kernel) (by decide +kernel), rfl⟩
theorem lLW_75 : Cond.methodLink "DamageViewLaw" 75 mDV_step.1 ∈ gTbl ∧ Cond.instanceMethod mDV_step.1 ∈ gTbl ∧ Cond.selects mDV_step.1.cls mDV_step.1 mDV_step.1 ∈ gTbl ∧ vwCl[0]? = some (mDV_step.1.cls, TbDV, 7) := ⟨gTbl_in (i := 479) (by decide +kernel) (by decide +kernel), gTbl_in (i := 480) (by decide +kernel) (by decide +kernel), gTbl_in (i := 481) (by decide +kernel) (by decide +kernel), rfl⟩
theorem lLW_79 : Cond.methodLink "DamageViewLaw" 79 mMO_step.1 ∈ gTbl ∧ Cond.instanceMethod mMO_step.1 ∈ gTbl ∧ Cond.selects mMO_step.1.cls mMO_step.1 mMO_step.1 ∈ gTbl ∧ vwCl[7]? = some (mMO_step.1.cls, TbMO, 29) := ⟨gTbl_in (i := 768) (by decide +kernel) (by decide +kernel), gTbl_in (i := 769) (by decide +kernel) (by decide +kernel), gTbl_in (i := 770) (by decide +kernel) (by decide +kernel), rfl⟩
theorem lLW_80 : Cond.methodLink "DamageViewLaw" 80 mDV_key.1 ∈ gTbl ∧ Cond.instanceMethod mDV_key.1 ∈ gTbl ∧ Cond.selects mDV_key.1.cls mDV_key.1 mDV_key.1 ∈ gTbl ∧ vwCl[0]? = some (mDV_key.1.cls, TbDV, 7) := ⟨gTbl_in (i := 486) (by decide +kernel) (by decide +kernel), gTbl_in (i := 487) (by decide +kernel) (by decide +kernel), gTbl_in (i := 488) (by decide +kernel) (by decide +kernel), rfl⟩
theorem lLW_84 : Cond.methodLink "DamageViewLaw" 84 mMO_key.1 ∈ gTbl ∧ Cond.instanceMethod mMO_key.1 ∈ gTbl ∧ Cond.selects mMO_key.1.cls mMO_key.1 mMO_key.1 ∈ gTbl ∧ vwCl[7]? = some (mMO_key.1.cls, TbMO, 29) := ⟨gTbl_in (i := 772) (by decide +kernel) (by decide +kernel), gTbl_in (i := 773) (by decide +kernel) (by decide +kernel), gTbl_in (i := 774) (by decide +kernel) (by decide +kernel), rfl⟩
theorem lLW_85 : Cond.methodLink "DamageViewLaw" 85 mDV_attention.1 ∈ gTbl ∧ Cond.instanceMethod mDV_attention.1 ∈ gTbl ∧ Cond.selects mDV_attention.1.cls mDV_attention.1 mDV_attention.1 ∈ gTbl ∧ vwCl[0]? = some (mDV_attention.1.cls, TbDV, 7) := ⟨gTbl_in (i := 490) (by decide +kernel) (by decide +kernel), gTbl_in (i := 491) (by decide +kernel) (by decide +kernel), gTbl_in (i := 492) (by decide +kernel) (by decide +kernel), rfl⟩
theorem lLW_88 : Cond.methodLink "DamageViewLaw" 88 mMO_attention.1 ∈ gTbl ∧ Cond.instanceMethod mMO_attention.1 ∈ gTbl ∧ Cond.selects mMO_attention.1.cls mMO_attention.1 mMO_attention.1 ∈ gTbl ∧ vwCl[7]? = some (mMO_attention.1.cls, TbMO, 29) := ⟨gTbl_in (i := 776) (by decide +kernel) (by decide +kernel), gTbl_in (i := 777) (by decide +kernel) (by decide +kernel), gTbl_in (i := 778) (by decide +kernel) (by decide +kernel), rfl⟩
theorem lLW_89 : Cond.methodLink "DamageViewLaw" 89 mDV_count.1 ∈ gTbl ∧ Cond.instanceMethod mDV_count.1 ∈ gTbl ∧ Cond.selects mDV_count.1.cls mDV_count.1 mDV_count.1 ∈ gTbl ∧ vwCl[0]? = some (mDV_count.1.cls, TbDV, 7) := ⟨gTbl_in (i := 494) (by decide +kernel) (by decide +kernel), gTbl_in (i := 495) (by decide +kernel) (by decide +kernel), gTbl_in (i := 496) (by decide +kernel) (by decide +kernel), rfl⟩
theorem lLW_92 : Cond.methodLink "DamageViewLaw" 92 mMO_count.1 ∈ gTbl ∧ Cond.instanceMethod mMO_count.1 ∈ gTbl ∧ Cond.selects mMO_count.1.cls mMO_count.1 mMO_count.1 ∈ gTbl ∧ vwCl[7]? = some (mMO_count.1.cls, TbMO, 29) := ⟨gTbl_in (i := 780) (by decide +kernel) (by decide +kernel), gTbl_in (i := 781) (by decide +kernel) (by decide +kernel), gTbl_in (i := 782) (by decide +kernel) (by decide +kernel), rfl⟩
theorem lLW_93 : Cond.methodLink "DamageViewLaw" 93 mDV_damage.1 ∈ gTbl ∧ Cond.instanceMethod mDV_damage.1 ∈ gTbl ∧ Cond.selects mDV_damage.1.cls mDV_damage.1 mDV_damage.1 ∈ gTbl ∧ vwCl[0]? = some (mDV_damage.1.cls, TbDV, 7) := ⟨gTbl_in (i := 498) (by decide +kernel) (by decide +kernel), gTbl_in (i := 499) (by decide +kernel) (by decide +kernel), gTbl_in (i := 500) (by decide +kernel) (by decide +kernel), rfl⟩
theorem lLW_96 : Cond.methodLink "DamageViewLaw" 96 mMO_damage.1 ∈ gTbl ∧ Cond.instanceMethod mMO_damage.1 ∈ gTbl ∧ Cond.selects mMO_damage.1.cls mMO_damage.1 mMO_damage.1 ∈ gTbl ∧ vwCl[7]? = some (mMO_damage.1.cls, TbMO, 29) := ⟨gTbl_in (i := 784) (by decide +kernel) (by decide +kernel), gTbl_in (i := 785) (by decide +kernel) (by decide +kernel), gTbl_in (i := 786) (by decide +kernel) (by decide +kernel), rfl⟩
theorem lLW_97 : Cond.methodLink "DamageViewLaw" 97 mDV_paint.1 ∈ gTbl ∧ Cond.instanceMethod mDV_paint.1 ∈ gTbl ∧ Cond.selects mDV_paint.1.cls mDV_paint.1 mDV_paint.1 ∈ gTbl ∧ vwCl[0]? = some (mDV_paint.1.cls, TbDV, 7) := ⟨gTbl_in (i := 506) (by decide +kernel) (by decide +kernel), gTbl_in (i := 507) (by decide +kernel) (by decide +kernel), gTbl_in (i := 508) (by decide +kernel) (by decide +kernel), rfl⟩
theorem lLW_100 : Cond.methodLink "DamageViewLaw" 100 mMO_paint.1 ∈ gTbl ∧ Cond.instanceMethod mMO_paint.1 ∈ gTbl ∧ Cond.selects mMO_paint.1.cls mMO_paint.1 mMO_paint.1 ∈ gTbl ∧ vwCl[7]? = some (mMO_paint.1.cls, TbMO, 29) := ⟨gTbl_in (i := 788) (by decide +kernel) (by decide +kernel), gTbl_in (i := 789) (by decide +kernel) (by decide +kernel), gTbl_in (i := 790) (by decide +kernel) (by decide +kernel), rfl⟩
theorem lLW_101 : Cond.methodLink "DamageViewLaw" 101 mDV_pixel.1 ∈ gTbl ∧ Cond.instanceMethod mDV_pixel.1 ∈ gTbl ∧ Cond.selects mDV_pixel.1.cls mDV_pixel.1 mDV_pixel.1 ∈ gTbl ∧ vwCl[0]? = some (mDV_pixel.1.cls, TbDV, 7) := ⟨gTbl_in (i := 522) (by decide +kernel) (by decide +kernel), gTbl_in (i := 523) (by decide +kernel) (by decide +kernel), gTbl_in (i := 524) (by decide +kernel) (by decide +kernel), rfl⟩
theorem lLW_104 : Cond.methodLink "DamageViewLaw" 104 mMO_pixel.1 ∈ gTbl ∧ Cond.instanceMethod mMO_pixel.1 ∈ gTbl ∧ Cond.selects mMO_pixel.1.cls mMO_pixel.1 mMO_pixel.1 ∈ gTbl ∧ vwCl[7]? = some (mMO_pixel.1.cls, TbMO, 29) := ⟨gTbl_in (i := 792) (by decide +kernel) (by decide +kernel), gTbl_in (i := 793) (by decide +kernel) (by decide +kernel), gTbl_in (i := 794) (by decide +kernel) (by decide +kernel), rfl⟩
theorem gAR_cutTo_AR_isEmpty : gCall mAR_cutTo mAR_isEmpty 0 := ⟨qAR_isEmpty.1, qAR_isEmpty.2, ⟨by decide, by decide, by decide +kernel⟩, by decide, by decide⟩
theorem gAR_cutTo_AR_makeEmpty : gCall mAR_cutTo mAR_makeEmpty 0 := ⟨qAR_makeEmpty.1, qAR_makeEmpty.2, ⟨by decide, by decide, by decide +kernel⟩, by decide, by decide⟩
theorem gBD_open_JF_fill : gCall mBD_open mJF_fill 2 := ⟨qJF_fill.1, qJF_fill.2, ⟨by decide, by decide, by decide +kernel⟩, by decide, by decide⟩
theorem gBD_fix_BD_keepAtMost : gCall mBD_fix mBD_keepAtMost 3 := ⟨qBD_keepAtMost.1, qBD_keepAtMost.2, ⟨by decide, by decide, by decide +kernel⟩, by decide, by decide⟩
theorem gBD_fixNear_BD_lowest : gCall mBD_fixNear mBD_lowest 2 := ⟨qBD_lowest.1, qBD_lowest.2, ⟨by decide, by decide, by decide +kernel⟩, by decide, by decide⟩
theorem gBD_fixNear_BD_highest : gCall mBD_fixNear mBD_highest 2 := ⟨qBD_highest.1, qBD_highest.2, ⟨by decide, by decide, by decide +kernel⟩, by decide, by decide⟩
theorem gBD_fixNear_DV_nearest : gCall mBD_fixNear mDV_nearest 3 := ⟨qDV_nearest.1, qDV_nearest.2, ⟨by decide, by decide, by decide +kernel⟩, by decide, by decide⟩
theorem gBD_fixNear_BD_keepAtMost : gCall mBD_fixNear mBD_keepAtMost 3 := ⟨qBD_keepAtMost.1, qBD_keepAtMost.2, ⟨by decide, by decide, by decide +kernel⟩, by decide, by decide⟩
theorem gBD_keepAtLeast_BD_keepAtMost : gCall mBD_keepAtLeast mBD_keepAtMost 3 := ⟨qBD_keepAtMost.1, qBD_keepAtMost.2, ⟨by decide, by decide, by decide +kernel⟩, by decide, by decide⟩
theorem gBX_init_AR_init : gCall mBX_init mAR_init 0 := ⟨qAR_init.1, qAR_init.2, ⟨by decide, by decide, by decide +kernel⟩, by decide, by decide⟩
theorem gBX_canHaveAttention_AR_isEmpty : gCall mBX_canHaveAttention mAR_isEmpty 0 := ⟨qAR_isEmpty.1, qAR_isEmpty.2, ⟨by decide, by decide, by decide +kernel⟩, by decide, by decide⟩
theorem gBX_findArea_AR_copyFrom : gCall mBX_findArea mAR_copyFrom 1 := ⟨qAR_copyFrom.1, qAR_copyFrom.2, ⟨by decide, by decide, by decide +kernel⟩, by decide, by decide⟩
theorem gBX_findArea_AR_makeEmpty : gCall mBX_findArea mAR_makeEmpty 0 := ⟨qAR_makeEmpty.1, qAR_makeEmpty.2, ⟨by decide, by decide, by decide +kernel⟩, by decide, by decide⟩
theorem gBX_findArea_AR_takeEdges : gCall mBX_findArea mAR_takeEdges 2 := ⟨qAR_takeEdges.1, qAR_takeEdges.2, ⟨by decide, by decide, by decide +kernel⟩, by decide, by decide⟩
theorem gBX_findArea_AR_cutTo : gCall mBX_findArea mAR_cutTo 1 := ⟨qAR_cutTo.1, qAR_cutTo.2, ⟨by decide, by decide, by decide +kernel⟩, by decide, by decide⟩
theorem gCN_demandIn_BD_fix : gCall mCN_demandIn mBD_fix 3 := ⟨qBD_fix.1, qBD_fix.2, ⟨by decide, by decide, by decide +kernel⟩, by decide, by decide⟩
theorem gCN_demandIn_BD_keepAtLeast : gCall mCN_demandIn mBD_keepAtLeast 3 := ⟨qBD_keepAtLeast.1, qBD_keepAtLeast.2, ⟨by decide, by decide, by decide +kernel⟩, by decide, by decide⟩
theorem gCN_leastErrorIn_BD_fixNear : gCall mCN_leastErrorIn mBD_fixNear 3 := ⟨qBD_fixNear.1, qBD_fixNear.2, ⟨by decide, by decide, by decide +kernel⟩, by decide, by decide⟩
theorem gCN_leastErrorIn_BD_highest : gCall mCN_leastErrorIn mBD_highest 2 := ⟨qBD_highest.1, qBD_highest.2, ⟨by decide, by decide, by decide +kernel⟩, by decide, by decide⟩
theorem gCN_leastErrorIn_BD_keepAtLeast : gCall mCN_leastErrorIn mBD_keepAtLeast 3 := ⟨qBD_keepAtLeast.1, qBD_keepAtLeast.2, ⟨by decide, by decide, by decide +kernel⟩, by decide, by decide⟩
theorem gLA_init_BD_init : gCall mLA_init mBD_init 0 := ⟨qBD_init.1, qBD_init.2, ⟨by decide, by decide, by decide +kernel⟩, by decide, by decide⟩
theorem gLA_canJoin_LA_isEdge : gCall mLA_canJoin mLA_isEdge 1 := ⟨qLA_isEdge.1, qLA_isEdge.2, ⟨by decide, by decide, by decide +kernel⟩, by decide, by decide⟩
theorem gLA_canJoin_LA_isTopOrBottom : gCall mLA_canJoin mLA_isTopOrBottom 1 := ⟨qLA_isTopOrBottom.1, qLA_isTopOrBottom.2, ⟨by decide, by decide, by decide +kernel⟩, by decide, by decide⟩
theorem gLA_add_LA_solve : gCall mLA_add mLA_solve 0 := ⟨qLA_solve.1, qLA_solve.2, ⟨by decide, by decide, by decide +kernel⟩, by decide, by decide⟩
theorem gLA_takeAway_LA_solve : gCall mLA_takeAway mLA_solve 0 := ⟨qLA_solve.1, qLA_solve.2, ⟨by decide, by decide, by decide +kernel⟩, by decide, by decide⟩
theorem gLA_setSize_LA_solve : gCall mLA_setSize mLA_solve 0 := ⟨qLA_solve.1, qLA_solve.2, ⟨by decide, by decide, by decide +kernel⟩, by decide, by decide⟩
theorem gLA_solve_LA_demandAll : gCall mLA_solve mLA_demandAll 0 := ⟨qLA_demandAll.1, qLA_demandAll.2, ⟨by decide, by decide, by decide +kernel⟩, by decide, by decide⟩
theorem gLA_solve_LA_chooseBest : gCall mLA_solve mLA_chooseBest 0 := ⟨qLA_chooseBest.1, qLA_chooseBest.2, ⟨by decide, by decide, by decide +kernel⟩, by decide, by decide⟩
theorem gLA_solveNear_LA_demandAll : gCall mLA_solveNear mLA_demandAll 0 := ⟨qLA_demandAll.1, qLA_demandAll.2, ⟨by decide, by decide, by decide +kernel⟩, by decide, by decide⟩
theorem gLA_solveNear_BD_fixNear : gCall mLA_solveNear mBD_fixNear 3 := ⟨qBD_fixNear.1, qBD_fixNear.2, ⟨by decide, by decide, by decide +kernel⟩, by decide, by decide⟩
theorem gLA_solveNear_LA_chooseBest : gCall mLA_solveNear mLA_chooseBest 0 := ⟨qLA_chooseBest.1, qLA_chooseBest.2, ⟨by decide, by decide, by decide +kernel⟩, by decide, by decide⟩
theorem gLA_demandAll_BD_open : gCall mLA_demandAll mBD_open 1 := ⟨qBD_open.1, qBD_open.2, ⟨by decide, by decide, by decide +kernel⟩, by decide, by decide⟩
theorem gLA_demandAll_BD_fix : gCall mLA_demandAll mBD_fix 3 := ⟨qBD_fix.1, qBD_fix.2, ⟨by decide, by decide, by decide +kernel⟩, by decide, by decide⟩
theorem gLA_demandAll_BD_keepAtLeast : gCall mLA_demandAll mBD_keepAtLeast 3 := ⟨qBD_keepAtLeast.1, qBD_keepAtLeast.2, ⟨by decide, by decide, by decide +kernel⟩, by decide, by decide⟩
theorem gLA_demandAll_CN_demandIn : gCall mLA_demandAll mCN_demandIn 1 := ⟨qCN_demandIn.1, qCN_demandIn.2, ⟨by decide, by decide, by decide +kernel⟩, by decide, by decide⟩
theorem gLA_chooseBest_CN_leastErrorIn : gCall mLA_chooseBest mCN_leastErrorIn 1 := ⟨qCN_leastErrorIn.1, qCN_leastErrorIn.2, ⟨by decide, by decide, by decide +kernel⟩, by decide, by decide⟩
theorem gLA_chooseBest_BD_fixNear : gCall mLA_chooseBest mBD_fixNear 3 := ⟨qBD_fixNear.1, qBD_fixNear.2, ⟨by decide, by decide, by decide +kernel⟩, by decide, by decide⟩
theorem gSC_damageArea_AR_has : gCall mSC_damageArea mAR_has 2 := ⟨qAR_has.1, qAR_has.2, ⟨by decide, by decide, by decide +kernel⟩, by decide, by decide⟩
theorem gSC_damageArea_SC_pointOf : gCall mSC_damageArea mSC_pointOf 2 := ⟨qSC_pointOf.1, qSC_pointOf.2, ⟨by decide, by decide, by decide +kernel⟩, by decide, by decide⟩
theorem gSC_isDamaged_SC_pointOf : gCall mSC_isDamaged mSC_pointOf 2 := ⟨qSC_pointOf.1, qSC_pointOf.2, ⟨by decide, by decide, by decide +kernel⟩, by decide, by decide⟩
theorem gSC_frameAt_SC_pointOf : gCall mSC_frameAt mSC_pointOf 2 := ⟨qSC_pointOf.1, qSC_pointOf.2, ⟨by decide, by decide, by decide +kernel⟩, by decide, by decide⟩
theorem gSC_repair_SC_pointOf : gCall mSC_repair mSC_pointOf 2 := ⟨qSC_pointOf.1, qSC_pointOf.2, ⟨by decide, by decide, by decide +kernel⟩, by decide, by decide⟩
theorem gDV_init_SC_init : gCall mDV_init mSC_init 0 := ⟨qSC_init.1, qSC_init.2, ⟨by decide, by decide, by decide +kernel⟩, by decide, by decide⟩
theorem gDV_init_DV_nearest : gCall mDV_init mDV_nearest 3 := ⟨qDV_nearest.1, qDV_nearest.2, ⟨by decide, by decide, by decide +kernel⟩, by decide, by decide⟩
theorem gDV_init_LA_init : gCall mDV_init mLA_init 2 := ⟨qLA_init.1, qLA_init.2, ⟨by decide, by decide, by decide +kernel⟩, by decide, by decide⟩
theorem gDV_init_DV_addBox : gCall mDV_init mDV_addBox 2 := ⟨qDV_addBox.1, qDV_addBox.2, ⟨by decide, by decide, by decide +kernel⟩, by decide, by decide⟩
theorem gDV_init_DV_showChanges : gCall mDV_init mDV_showChanges 0 := ⟨qDV_showChanges.1, qDV_showChanges.2, ⟨by decide, by decide, by decide +kernel⟩, by decide, by decide⟩
theorem gDV_box_DV_isBox : gCall mDV_box mDV_isBox 1 := ⟨qDV_isBox.1, qDV_isBox.2, ⟨by decide, by decide, by decide +kernel⟩, by decide, by decide⟩
theorem gDV_box_DV_addBox : gCall mDV_box mDV_addBox 2 := ⟨qDV_addBox.1, qDV_addBox.2, ⟨by decide, by decide, by decide +kernel⟩, by decide, by decide⟩
theorem gDV_constrain_LA_canJoin : gCall mDV_constrain mLA_canJoin 2 := ⟨qLA_canJoin.1, qLA_canJoin.2, ⟨by decide, by decide, by decide +kernel⟩, by decide, by decide⟩
theorem gDV_constrain_DV_isNear : gCall mDV_constrain mDV_isNear 1 := ⟨qDV_isNear.1, qDV_isNear.2, ⟨by decide, by decide, by decide +kernel⟩, by decide, by decide⟩
theorem gDV_constrain_LA_freeNumber : gCall mDV_constrain mLA_freeNumber 0 := ⟨qLA_freeNumber.1, qLA_freeNumber.2, ⟨by decide, by decide, by decide +kernel⟩, by decide, by decide⟩
theorem gDV_constrain_CN_init : gCall mDV_constrain mCN_init 5 := ⟨qCN_init.1, qCN_init.2, ⟨by decide, by decide, by decide +kernel⟩, by decide, by decide⟩
theorem gDV_constrain_LA_add : gCall mDV_constrain mLA_add 2 := ⟨qLA_add.1, qLA_add.2, ⟨by decide, by decide, by decide +kernel⟩, by decide, by decide⟩
theorem gDV_constrain_DV_showChanges : gCall mDV_constrain mDV_showChanges 0 := ⟨qDV_showChanges.1, qDV_showChanges.2, ⟨by decide, by decide, by decide +kernel⟩, by decide, by decide⟩
theorem gDV_remove_LA_constraintAt : gCall mDV_remove mLA_constraintAt 1 := ⟨qLA_constraintAt.1, qLA_constraintAt.2, ⟨by decide, by decide, by decide +kernel⟩, by decide, by decide⟩
theorem gDV_remove_LA_takeAway : gCall mDV_remove mLA_takeAway 1 := ⟨qLA_takeAway.1, qLA_takeAway.2, ⟨by decide, by decide, by decide +kernel⟩, by decide, by decide⟩
theorem gDV_remove_DV_showChanges : gCall mDV_remove mDV_showChanges 0 := ⟨qDV_showChanges.1, qDV_showChanges.2, ⟨by decide, by decide, by decide +kernel⟩, by decide, by decide⟩
theorem gDV_suggest_LA_isEdge : gCall mDV_suggest mLA_isEdge 1 := ⟨qLA_isEdge.1, qLA_isEdge.2, ⟨by decide, by decide, by decide +kernel⟩, by decide, by decide⟩
theorem gDV_suggest_DV_isNear : gCall mDV_suggest mDV_isNear 1 := ⟨qDV_isNear.1, qDV_isNear.2, ⟨by decide, by decide, by decide +kernel⟩, by decide, by decide⟩
theorem gDV_suggest_LA_solveNear : gCall mDV_suggest mLA_solveNear 2 := ⟨qLA_solveNear.1, qLA_solveNear.2, ⟨by decide, by decide, by decide +kernel⟩, by decide, by decide⟩
theorem gDV_suggest_DV_showChanges : gCall mDV_suggest mDV_showChanges 0 := ⟨qDV_showChanges.1, qDV_showChanges.2, ⟨by decide, by decide, by decide +kernel⟩, by decide, by decide⟩
theorem gDV_resize_LA_setSize : gCall mDV_resize mLA_setSize 2 := ⟨qLA_setSize.1, qLA_setSize.2, ⟨by decide, by decide, by decide +kernel⟩, by decide, by decide⟩
theorem gDV_resize_DV_showChanges : gCall mDV_resize mDV_showChanges 0 := ⟨qDV_showChanges.1, qDV_showChanges.2, ⟨by decide, by decide, by decide +kernel⟩, by decide, by decide⟩
theorem gDV_place_LA_isEdge : gCall mDV_place mLA_isEdge 1 := ⟨qLA_isEdge.1, qLA_isEdge.2, ⟨by decide, by decide, by decide +kernel⟩, by decide, by decide⟩
theorem gDV_error_LA_constraintAt : gCall mDV_error mLA_constraintAt 1 := ⟨qLA_constraintAt.1, qLA_constraintAt.2, ⟨by decide, by decide, by decide +kernel⟩, by decide, by decide⟩
theorem gDV_error_CN_errorIn : gCall mDV_error mCN_errorIn 1 := ⟨qCN_errorIn.1, qCN_errorIn.2, ⟨by decide, by decide, by decide +kernel⟩, by decide, by decide⟩
theorem gDV_hide_DV_isInnerBox : gCall mDV_hide mDV_isInnerBox 1 := ⟨qDV_isInnerBox.1, qDV_isInnerBox.2, ⟨by decide, by decide, by decide +kernel⟩, by decide, by decide⟩
theorem gDV_hide_DV_showChanges : gCall mDV_hide mDV_showChanges 0 := ⟨qDV_showChanges.1, qDV_showChanges.2, ⟨by decide, by decide, by decide +kernel⟩, by decide, by decide⟩
theorem gDV_raise_DV_isInnerBox : gCall mDV_raise mDV_isInnerBox 1 := ⟨qDV_isInnerBox.1, qDV_isInnerBox.2, ⟨by decide, by decide, by decide +kernel⟩, by decide, by decide⟩
theorem gDV_raise_DV_isLastOfItsParent : gCall mDV_raise mDV_isLastOfItsParent 1 := ⟨qDV_isLastOfItsParent.1, qDV_isLastOfItsParent.2, ⟨by decide, by decide, by decide +kernel⟩, by decide, by decide⟩
theorem gDV_raise_DV_bringToFront : gCall mDV_raise mDV_bringToFront 1 := ⟨qDV_bringToFront.1, qDV_bringToFront.2, ⟨by decide, by decide, by decide +kernel⟩, by decide, by decide⟩
theorem gDV_raise_SC_damageArea : gCall mDV_raise mSC_damageArea 1 := ⟨qSC_damageArea.1, qSC_damageArea.2, ⟨by decide, by decide, by decide +kernel⟩, by decide, by decide⟩
theorem gDV_hit_DV_frontBox : gCall mDV_hit mDV_frontBox 2 := ⟨qDV_frontBox.1, qDV_frontBox.2, ⟨by decide, by decide, by decide +kernel⟩, by decide, by decide⟩
theorem gDV_hit_DV_numberOf : gCall mDV_hit mDV_numberOf 1 := ⟨qDV_numberOf.1, qDV_numberOf.2, ⟨by decide, by decide, by decide +kernel⟩, by decide, by decide⟩
theorem gDV_press_DV_frontBox : gCall mDV_press mDV_frontBox 2 := ⟨qDV_frontBox.1, qDV_frontBox.2, ⟨by decide, by decide, by decide +kernel⟩, by decide, by decide⟩
theorem gDV_press_BX_canHaveAttention : gCall mDV_press mBX_canHaveAttention 0 := ⟨qBX_canHaveAttention.1, qBX_canHaveAttention.2, ⟨by decide, by decide, by decide +kernel⟩, by decide, by decide⟩
theorem gDV_press_DV_showChanges : gCall mDV_press mDV_showChanges 0 := ⟨qDV_showChanges.1, qDV_showChanges.2, ⟨by decide, by decide, by decide +kernel⟩, by decide, by decide⟩
theorem gDV_press_DV_numberOf : gCall mDV_press mDV_numberOf 1 := ⟨qDV_numberOf.1, qDV_numberOf.2, ⟨by decide, by decide, by decide +kernel⟩, by decide, by decide⟩
theorem gDV_release_DV_frontBox : gCall mDV_release mDV_frontBox 2 := ⟨qDV_frontBox.1, qDV_frontBox.2, ⟨by decide, by decide, by decide +kernel⟩, by decide, by decide⟩
theorem gDV_release_DV_activate : gCall mDV_release mDV_activate 1 := ⟨qDV_activate.1, qDV_activate.2, ⟨by decide, by decide, by decide +kernel⟩, by decide, by decide⟩
theorem gDV_release_DV_showChanges : gCall mDV_release mDV_showChanges 0 := ⟨qDV_showChanges.1, qDV_showChanges.2, ⟨by decide, by decide, by decide +kernel⟩, by decide, by decide⟩
theorem gDV_release_DV_numberOf : gCall mDV_release mDV_numberOf 1 := ⟨qDV_numberOf.1, qDV_numberOf.2, ⟨by decide, by decide, by decide +kernel⟩, by decide, by decide⟩
theorem gDV_step_JM_floorMod : gCall mDV_step mJM_floorMod 2 := ⟨qJM_floorMod.1, qJM_floorMod.2, ⟨by decide, by decide, by decide +kernel⟩, by decide, by decide⟩
theorem gDV_step_BX_canHaveAttention : gCall mDV_step mBX_canHaveAttention 0 := ⟨qBX_canHaveAttention.1, qBX_canHaveAttention.2, ⟨by decide, by decide, by decide +kernel⟩, by decide, by decide⟩
theorem gDV_step_DV_showChanges : gCall mDV_step mDV_showChanges 0 := ⟨qDV_showChanges.1, qDV_showChanges.2, ⟨by decide, by decide, by decide +kernel⟩, by decide, by decide⟩
theorem gDV_step_DV_numberOf : gCall mDV_step mDV_numberOf 1 := ⟨qDV_numberOf.1, qDV_numberOf.2, ⟨by decide, by decide, by decide +kernel⟩, by decide, by decide⟩
theorem gDV_key_DV_activate : gCall mDV_key mDV_activate 1 := ⟨qDV_activate.1, qDV_activate.2, ⟨by decide, by decide, by decide +kernel⟩, by decide, by decide⟩
theorem gDV_key_DV_showChanges : gCall mDV_key mDV_showChanges 0 := ⟨qDV_showChanges.1, qDV_showChanges.2, ⟨by decide, by decide, by decide +kernel⟩, by decide, by decide⟩
theorem gDV_key_DV_numberOf : gCall mDV_key mDV_numberOf 1 := ⟨qDV_numberOf.1, qDV_numberOf.2, ⟨by decide, by decide, by decide +kernel⟩, by decide, by decide⟩
theorem gDV_attention_DV_numberOf : gCall mDV_attention mDV_numberOf 1 := ⟨qDV_numberOf.1, qDV_numberOf.2, ⟨by decide, by decide, by decide +kernel⟩, by decide, by decide⟩
theorem gDV_count_DV_isBox : gCall mDV_count mDV_isBox 1 := ⟨qDV_isBox.1, qDV_isBox.2, ⟨by decide, by decide, by decide +kernel⟩, by decide, by decide⟩
theorem gDV_damage_SC_damagedPoints : gCall mDV_damage mSC_damagedPoints 0 := ⟨qSC_damagedPoints.1, qSC_damagedPoints.2, ⟨by decide, by decide, by decide +kernel⟩, by decide, by decide⟩
theorem gDV_paint_SC_isDamaged : gCall mDV_paint mSC_isDamaged 2 := ⟨qSC_isDamaged.1, qSC_isDamaged.2, ⟨by decide, by decide, by decide +kernel⟩, by decide, by decide⟩
theorem gDV_paint_DV_pictureAt : gCall mDV_paint mDV_pictureAt 2 := ⟨qDV_pictureAt.1, qDV_pictureAt.2, ⟨by decide, by decide, by decide +kernel⟩, by decide, by decide⟩
theorem gDV_paint_SC_repair : gCall mDV_paint mSC_repair 3 := ⟨qSC_repair.1, qSC_repair.2, ⟨by decide, by decide, by decide +kernel⟩, by decide, by decide⟩
theorem gDV_pixel_SC_frameAt : gCall mDV_pixel mSC_frameAt 2 := ⟨qSC_frameAt.1, qSC_frameAt.2, ⟨by decide, by decide, by decide +kernel⟩, by decide, by decide⟩
theorem gDV_addBox_BX_init : gCall mDV_addBox mBX_init 3 := ⟨qBX_init.1, qBX_init.2, ⟨by decide, by decide, by decide +kernel⟩, by decide, by decide⟩
theorem gDV_frontBox_DV_frontChild : gCall mDV_frontBox mDV_frontChild 3 := ⟨qDV_frontChild.1, qDV_frontChild.2, ⟨by decide, by decide, by decide +kernel⟩, by decide, by decide⟩
theorem gDV_frontChild_AR_has : gCall mDV_frontChild mAR_has 2 := ⟨qAR_has.1, qAR_has.2, ⟨by decide, by decide, by decide +kernel⟩, by decide, by decide⟩
theorem gDV_pictureAt_DV_frontBox : gCall mDV_pictureAt mDV_frontBox 2 := ⟨qDV_frontBox.1, qDV_frontBox.2, ⟨by decide, by decide, by decide +kernel⟩, by decide, by decide⟩
theorem gDV_showChanges_BX_findArea : gCall mDV_showChanges mBX_findArea 1 := ⟨qBX_findArea.1, qBX_findArea.2, ⟨by decide, by decide, by decide +kernel⟩, by decide, by decide⟩
theorem gDV_showChanges_BX_canHaveAttention : gCall mDV_showChanges mBX_canHaveAttention 0 := ⟨qBX_canHaveAttention.1, qBX_canHaveAttention.2, ⟨by decide, by decide, by decide +kernel⟩, by decide, by decide⟩
theorem gDV_showChanges_DV_showBox : gCall mDV_showChanges mDV_showBox 1 := ⟨qDV_showBox.1, qDV_showBox.2, ⟨by decide, by decide, by decide +kernel⟩, by decide, by decide⟩
theorem gDV_showBox_DV_colourOf : gCall mDV_showBox mDV_colourOf 1 := ⟨qDV_colourOf.1, qDV_colourOf.2, ⟨by decide, by decide, by decide +kernel⟩, by decide, by decide⟩
theorem gDV_showBox_AR_isSameAs : gCall mDV_showBox mAR_isSameAs 1 := ⟨qAR_isSameAs.1, qAR_isSameAs.2, ⟨by decide, by decide, by decide +kernel⟩, by decide, by decide⟩
theorem gDV_showBox_SC_damageArea : gCall mDV_showBox mSC_damageArea 1 := ⟨qSC_damageArea.1, qSC_damageArea.2, ⟨by decide, by decide, by decide +kernel⟩, by decide, by decide⟩
theorem gMO_init_MO_look : gCall mMO_init mMO_look 0 := ⟨qMO_look.1, qMO_look.2, ⟨by decide, by decide, by decide +kernel⟩, by decide, by decide⟩
theorem gMO_inArea_MO_covers : gCall mMO_inArea mMO_covers 3 := ⟨qMO_covers.1, qMO_covers.2, ⟨by decide, by decide, by decide +kernel⟩, by decide, by decide⟩
theorem gMO_someArea_MO_inArea : gCall mMO_someArea mMO_inArea 3 := ⟨qMO_inArea.1, qMO_inArea.2, ⟨by decide, by decide, by decide +kernel⟩, by decide, by decide⟩
theorem gMO_can_MO_someArea : gCall mMO_can mMO_someArea 1 := ⟨qMO_someArea.1, qMO_someArea.2, ⟨by decide, by decide, by decide +kernel⟩, by decide, by decide⟩
theorem gMO_look_MO_can : gCall mMO_look mMO_can 1 := ⟨qMO_can.1, qMO_can.2, ⟨by decide, by decide, by decide +kernel⟩, by decide, by decide⟩
theorem gMO_look_MO_colour : gCall mMO_look mMO_colour 1 := ⟨qMO_colour.1, qMO_colour.2, ⟨by decide, by decide, by decide +kernel⟩, by decide, by decide⟩
theorem gMO_look_MO_inArea : gCall mMO_look mMO_inArea 3 := ⟨qMO_inArea.1, qMO_inArea.2, ⟨by decide, by decide, by decide +kernel⟩, by decide, by decide⟩
theorem gMO_atLeast_MO_row : gCall mMO_atLeast mMO_row 3 := ⟨qMO_row.1, qMO_row.2, ⟨by decide, by decide, by decide +kernel⟩, by decide, by decide⟩
theorem gMO_exactly_MO_atLeast : gCall mMO_exactly mMO_atLeast 3 := ⟨qMO_atLeast.1, qMO_atLeast.2, ⟨by decide, by decide, by decide +kernel⟩, by decide, by decide⟩
theorem gMO_conflict_MO_lower : gCall mMO_conflict mMO_lower 0 := ⟨qMO_lower.1, qMO_lower.2, ⟨by decide, by decide, by decide +kernel⟩, by decide, by decide⟩
theorem gMO_most_MO_lower : gCall mMO_most mMO_lower 0 := ⟨qMO_lower.1, qMO_lower.2, ⟨by decide, by decide, by decide +kernel⟩, by decide, by decide⟩
theorem gMO_settle_MO_most : gCall mMO_settle mMO_most 2 := ⟨qMO_most.1, qMO_most.2, ⟨by decide, by decide, by decide +kernel⟩, by decide, by decide⟩
theorem gMO_settle_MO_exactly : gCall mMO_settle mMO_exactly 3 := ⟨qMO_exactly.1, qMO_exactly.2, ⟨by decide, by decide, by decide +kernel⟩, by decide, by decide⟩
theorem gMO_soft_MO_most : gCall mMO_soft mMO_most 2 := ⟨qMO_most.1, qMO_most.2, ⟨by decide, by decide, by decide +kernel⟩, by decide, by decide⟩
theorem gMO_soft_MO_settle : gCall mMO_soft mMO_settle 3 := ⟨qMO_settle.1, qMO_settle.2, ⟨by decide, by decide, by decide +kernel⟩, by decide, by decide⟩
theorem gMO_soft_MO_atLeast : gCall mMO_soft mMO_atLeast 3 := ⟨qMO_atLeast.1, qMO_atLeast.2, ⟨by decide, by decide, by decide +kernel⟩, by decide, by decide⟩
theorem gMO_required_MO_exactly : gCall mMO_required mMO_exactly 3 := ⟨qMO_exactly.1, qMO_exactly.2, ⟨by decide, by decide, by decide +kernel⟩, by decide, by decide⟩
theorem gMO_required_MO_atLeast : gCall mMO_required mMO_atLeast 3 := ⟨qMO_atLeast.1, qMO_atLeast.2, ⟨by decide, by decide, by decide +kernel⟩, by decide, by decide⟩
theorem gMO_solve_MO_required : gCall mMO_solve mMO_required 0 := ⟨qMO_required.1, qMO_required.2, ⟨by decide, by decide, by decide +kernel⟩, by decide, by decide⟩
theorem gMO_solve_MO_conflict : gCall mMO_solve mMO_conflict 0 := ⟨qMO_conflict.1, qMO_conflict.2, ⟨by decide, by decide, by decide +kernel⟩, by decide, by decide⟩
theorem gMO_solve_MO_origin : gCall mMO_solve mMO_origin 1 := ⟨qMO_origin.1, qMO_origin.2, ⟨by decide, by decide, by decide +kernel⟩, by decide, by decide⟩
theorem gMO_solve_MO_settle : gCall mMO_solve mMO_settle 3 := ⟨qMO_settle.1, qMO_settle.2, ⟨by decide, by decide, by decide +kernel⟩, by decide, by decide⟩
theorem gMO_solve_MO_soft : gCall mMO_solve mMO_soft 1 := ⟨qMO_soft.1, qMO_soft.2, ⟨by decide, by decide, by decide +kernel⟩, by decide, by decide⟩
theorem gMO_box_MO_isBox : gCall mMO_box mMO_isBox 1 := ⟨qMO_isBox.1, qMO_isBox.2, ⟨by decide, by decide, by decide +kernel⟩, by decide, by decide⟩
theorem gMO_box_MO_look : gCall mMO_box mMO_look 0 := ⟨qMO_look.1, qMO_look.2, ⟨by decide, by decide, by decide +kernel⟩, by decide, by decide⟩
theorem gMO_constrain_MO_isEdge : gCall mMO_constrain mMO_isEdge 1 := ⟨qMO_isEdge.1, qMO_isEdge.2, ⟨by decide, by decide, by decide +kernel⟩, by decide, by decide⟩
theorem gMO_constrain_MO_origin : gCall mMO_constrain mMO_origin 1 := ⟨qMO_origin.1, qMO_origin.2, ⟨by decide, by decide, by decide +kernel⟩, by decide, by decide⟩
theorem gMO_constrain_MO_solve : gCall mMO_constrain mMO_solve 2 := ⟨qMO_solve.1, qMO_solve.2, ⟨by decide, by decide, by decide +kernel⟩, by decide, by decide⟩
theorem gMO_constrain_MO_look : gCall mMO_constrain mMO_look 0 := ⟨qMO_look.1, qMO_look.2, ⟨by decide, by decide, by decide +kernel⟩, by decide, by decide⟩
theorem gMO_remove_MO_isConstraint : gCall mMO_remove mMO_isConstraint 1 := ⟨qMO_isConstraint.1, qMO_isConstraint.2, ⟨by decide, by decide, by decide +kernel⟩, by decide, by decide⟩
theorem gMO_remove_MO_solve : gCall mMO_remove mMO_solve 2 := ⟨qMO_solve.1, qMO_solve.2, ⟨by decide, by decide, by decide +kernel⟩, by decide, by decide⟩
theorem gMO_remove_MO_look : gCall mMO_remove mMO_look 0 := ⟨qMO_look.1, qMO_look.2, ⟨by decide, by decide, by decide +kernel⟩, by decide, by decide⟩
theorem gMO_suggest_MO_isEdge : gCall mMO_suggest mMO_isEdge 1 := ⟨qMO_isEdge.1, qMO_isEdge.2, ⟨by decide, by decide, by decide +kernel⟩, by decide, by decide⟩
theorem gMO_suggest_MO_solve : gCall mMO_suggest mMO_solve 2 := ⟨qMO_solve.1, qMO_solve.2, ⟨by decide, by decide, by decide +kernel⟩, by decide, by decide⟩
theorem gMO_suggest_MO_look : gCall mMO_suggest mMO_look 0 := ⟨qMO_look.1, qMO_look.2, ⟨by decide, by decide, by decide +kernel⟩, by decide, by decide⟩
theorem gMO_resize_MO_solve : gCall mMO_resize mMO_solve 2 := ⟨qMO_solve.1, qMO_solve.2, ⟨by decide, by decide, by decide +kernel⟩, by decide, by decide⟩
theorem gMO_resize_MO_look : gCall mMO_resize mMO_look 0 := ⟨qMO_look.1, qMO_look.2, ⟨by decide, by decide, by decide +kernel⟩, by decide, by decide⟩
theorem gMO_place_MO_isEdge : gCall mMO_place mMO_isEdge 1 := ⟨qMO_isEdge.1, qMO_isEdge.2, ⟨by decide, by decide, by decide +kernel⟩, by decide, by decide⟩
theorem gMO_error_MO_isConstraint : gCall mMO_error mMO_isConstraint 1 := ⟨qMO_isConstraint.1, qMO_isConstraint.2, ⟨by decide, by decide, by decide +kernel⟩, by decide, by decide⟩
theorem gMO_hide_MO_isBox : gCall mMO_hide mMO_isBox 1 := ⟨qMO_isBox.1, qMO_isBox.2, ⟨by decide, by decide, by decide +kernel⟩, by decide, by decide⟩
theorem gMO_hide_MO_look : gCall mMO_hide mMO_look 0 := ⟨qMO_look.1, qMO_look.2, ⟨by decide, by decide, by decide +kernel⟩, by decide, by decide⟩
theorem gMO_raise_MO_isBox : gCall mMO_raise mMO_isBox 1 := ⟨qMO_isBox.1, qMO_isBox.2, ⟨by decide, by decide, by decide +kernel⟩, by decide, by decide⟩
theorem gMO_raise_MO_isLast : gCall mMO_raise mMO_isLast 1 := ⟨qMO_isLast.1, qMO_isLast.2, ⟨by decide, by decide, by decide +kernel⟩, by decide, by decide⟩
theorem gMO_raise_MO_inArea : gCall mMO_raise mMO_inArea 3 := ⟨qMO_inArea.1, qMO_inArea.2, ⟨by decide, by decide, by decide +kernel⟩, by decide, by decide⟩
theorem gMO_hit_MO_inArea : gCall mMO_hit mMO_inArea 3 := ⟨qMO_inArea.1, qMO_inArea.2, ⟨by decide, by decide, by decide +kernel⟩, by decide, by decide⟩
theorem gMO_hit_MO_inFront : gCall mMO_hit mMO_inFront 2 := ⟨qMO_inFront.1, qMO_inFront.2, ⟨by decide, by decide, by decide +kernel⟩, by decide, by decide⟩
theorem gMO_press_MO_hit : gCall mMO_press mMO_hit 2 := ⟨qMO_hit.1, qMO_hit.2, ⟨by decide, by decide, by decide +kernel⟩, by decide, by decide⟩
theorem gMO_press_MO_can : gCall mMO_press mMO_can 1 := ⟨qMO_can.1, qMO_can.2, ⟨by decide, by decide, by decide +kernel⟩, by decide, by decide⟩
theorem gMO_press_MO_look : gCall mMO_press mMO_look 0 := ⟨qMO_look.1, qMO_look.2, ⟨by decide, by decide, by decide +kernel⟩, by decide, by decide⟩
theorem gMO_release_MO_hit : gCall mMO_release mMO_hit 2 := ⟨qMO_hit.1, qMO_hit.2, ⟨by decide, by decide, by decide +kernel⟩, by decide, by decide⟩
theorem gMO_release_MO_activate : gCall mMO_release mMO_activate 1 := ⟨qMO_activate.1, qMO_activate.2, ⟨by decide, by decide, by decide +kernel⟩, by decide, by decide⟩
theorem gMO_release_MO_look : gCall mMO_release mMO_look 0 := ⟨qMO_look.1, qMO_look.2, ⟨by decide, by decide, by decide +kernel⟩, by decide, by decide⟩
theorem gMO_step_MO_can : gCall mMO_step mMO_can 1 := ⟨qMO_can.1, qMO_can.2, ⟨by decide, by decide, by decide +kernel⟩, by decide, by decide⟩
theorem gMO_step_MO_look : gCall mMO_step mMO_look 0 := ⟨qMO_look.1, qMO_look.2, ⟨by decide, by decide, by decide +kernel⟩, by decide, by decide⟩
theorem gMO_key_MO_activate : gCall mMO_key mMO_activate 1 := ⟨qMO_activate.1, qMO_activate.2, ⟨by decide, by decide, by decide +kernel⟩, by decide, by decide⟩
theorem gMO_key_MO_look : gCall mMO_key mMO_look 0 := ⟨qMO_look.1, qMO_look.2, ⟨by decide, by decide, by decide +kernel⟩, by decide, by decide⟩
theorem gMO_count_MO_isBox : gCall mMO_count mMO_isBox 1 := ⟨qMO_isBox.1, qMO_isBox.2, ⟨by decide, by decide, by decide +kernel⟩, by decide, by decide⟩
theorem gMO_paint_MO_hit : gCall mMO_paint mMO_hit 2 := ⟨qMO_hit.1, qMO_hit.2, ⟨by decide, by decide, by decide +kernel⟩, by decide, by decide⟩
theorem gLW_law_LW_cell : gCall mLW_law mLW_cell 2 := ⟨qLW_cell.1, qLW_cell.2, ⟨by decide, by decide, by decide +kernel⟩, by decide, by decide⟩
theorem gLW_law_DV_init : gCall mLW_law mDV_init 2 := ⟨qDV_init.1, qDV_init.2, ⟨by decide, by decide, by decide +kernel⟩, by decide, by decide⟩
theorem gLW_law_MO_init : gCall mLW_law mMO_init 2 := ⟨qMO_init.1, qMO_init.2, ⟨by decide, by decide, by decide +kernel⟩, by decide, by decide⟩
theorem gLW_law_DV_box : gCall mLW_law mDV_box 2 := ⟨qDV_box.1, qDV_box.2, ⟨by decide, by decide, by decide +kernel⟩, by decide, by decide⟩
theorem gLW_law_MO_box : gCall mLW_law mMO_box 2 := ⟨qMO_box.1, qMO_box.2, ⟨by decide, by decide, by decide +kernel⟩, by decide, by decide⟩
theorem gLW_law_DV_constrain : gCall mLW_law mDV_constrain 5 := ⟨qDV_constrain.1, qDV_constrain.2, ⟨by decide, by decide, by decide +kernel⟩, by decide, by decide⟩
theorem gLW_law_MO_constrain : gCall mLW_law mMO_constrain 5 := ⟨qMO_constrain.1, qMO_constrain.2, ⟨by decide, by decide, by decide +kernel⟩, by decide, by decide⟩
theorem gLW_law_DV_remove : gCall mLW_law mDV_remove 1 := ⟨qDV_remove.1, qDV_remove.2, ⟨by decide, by decide, by decide +kernel⟩, by decide, by decide⟩
theorem gLW_law_MO_remove : gCall mLW_law mMO_remove 1 := ⟨qMO_remove.1, qMO_remove.2, ⟨by decide, by decide, by decide +kernel⟩, by decide, by decide⟩
theorem gLW_law_DV_suggest : gCall mLW_law mDV_suggest 2 := ⟨qDV_suggest.1, qDV_suggest.2, ⟨by decide, by decide, by decide +kernel⟩, by decide, by decide⟩
theorem gLW_law_MO_suggest : gCall mLW_law mMO_suggest 2 := ⟨qMO_suggest.1, qMO_suggest.2, ⟨by decide, by decide, by decide +kernel⟩, by decide, by decide⟩
theorem gLW_law_DV_resize : gCall mLW_law mDV_resize 2 := ⟨qDV_resize.1, qDV_resize.2, ⟨by decide, by decide, by decide +kernel⟩, by decide, by decide⟩
theorem gLW_law_MO_resize : gCall mLW_law mMO_resize 2 := ⟨qMO_resize.1, qMO_resize.2, ⟨by decide, by decide, by decide +kernel⟩, by decide, by decide⟩
theorem gLW_law_DV_place : gCall mLW_law mDV_place 1 := ⟨qDV_place.1, qDV_place.2, ⟨by decide, by decide, by decide +kernel⟩, by decide, by decide⟩
theorem gLW_law_MO_place : gCall mLW_law mMO_place 1 := ⟨qMO_place.1, qMO_place.2, ⟨by decide, by decide, by decide +kernel⟩, by decide, by decide⟩
theorem gLW_law_DV_error : gCall mLW_law mDV_error 1 := ⟨qDV_error.1, qDV_error.2, ⟨by decide, by decide, by decide +kernel⟩, by decide, by decide⟩
theorem gLW_law_MO_error : gCall mLW_law mMO_error 1 := ⟨qMO_error.1, qMO_error.2, ⟨by decide, by decide, by decide +kernel⟩, by decide, by decide⟩
theorem gLW_law_DV_hide : gCall mLW_law mDV_hide 2 := ⟨qDV_hide.1, qDV_hide.2, ⟨by decide, by decide, by decide +kernel⟩, by decide, by decide⟩
theorem gLW_law_MO_hide : gCall mLW_law mMO_hide 2 := ⟨qMO_hide.1, qMO_hide.2, ⟨by decide, by decide, by decide +kernel⟩, by decide, by decide⟩
theorem gLW_law_DV_raise : gCall mLW_law mDV_raise 1 := ⟨qDV_raise.1, qDV_raise.2, ⟨by decide, by decide, by decide +kernel⟩, by decide, by decide⟩
theorem gLW_law_MO_raise : gCall mLW_law mMO_raise 1 := ⟨qMO_raise.1, qMO_raise.2, ⟨by decide, by decide, by decide +kernel⟩, by decide, by decide⟩
theorem gLW_law_DV_hit : gCall mLW_law mDV_hit 2 := ⟨qDV_hit.1, qDV_hit.2, ⟨by decide, by decide, by decide +kernel⟩, by decide, by decide⟩
theorem gLW_law_MO_hit : gCall mLW_law mMO_hit 2 := ⟨qMO_hit.1, qMO_hit.2, ⟨by decide, by decide, by decide +kernel⟩, by decide, by decide⟩
theorem gLW_law_DV_press : gCall mLW_law mDV_press 2 := ⟨qDV_press.1, qDV_press.2, ⟨by decide, by decide, by decide +kernel⟩, by decide, by decide⟩
theorem gLW_law_MO_press : gCall mLW_law mMO_press 2 := ⟨qMO_press.1, qMO_press.2, ⟨by decide, by decide, by decide +kernel⟩, by decide, by decide⟩
theorem gLW_law_DV_release : gCall mLW_law mDV_release 2 := ⟨qDV_release.1, qDV_release.2, ⟨by decide, by decide, by decide +kernel⟩, by decide, by decide⟩
theorem gLW_law_MO_release : gCall mLW_law mMO_release 2 := ⟨qMO_release.1, qMO_release.2, ⟨by decide, by decide, by decide +kernel⟩, by decide, by decide⟩
theorem gLW_law_DV_step : gCall mLW_law mDV_step 1 := ⟨qDV_step.1, qDV_step.2, ⟨by decide, by decide, by decide +kernel⟩, by decide, by decide⟩
theorem gLW_law_MO_step : gCall mLW_law mMO_step 1 := ⟨qMO_step.1, qMO_step.2, ⟨by decide, by decide, by decide +kernel⟩, by decide, by decide⟩
theorem gLW_law_DV_key : gCall mLW_law mDV_key 0 := ⟨qDV_key.1, qDV_key.2, ⟨by decide, by decide, by decide +kernel⟩, by decide, by decide⟩
theorem gLW_law_MO_key : gCall mLW_law mMO_key 0 := ⟨qMO_key.1, qMO_key.2, ⟨by decide, by decide, by decide +kernel⟩, by decide, by decide⟩
theorem gLW_law_DV_attention : gCall mLW_law mDV_attention 0 := ⟨qDV_attention.1, qDV_attention.2, ⟨by decide, by decide, by decide +kernel⟩, by decide, by decide⟩
theorem gLW_law_MO_attention : gCall mLW_law mMO_attention 0 := ⟨qMO_attention.1, qMO_attention.2, ⟨by decide, by decide, by decide +kernel⟩, by decide, by decide⟩
theorem gLW_law_DV_count : gCall mLW_law mDV_count 1 := ⟨qDV_count.1, qDV_count.2, ⟨by decide, by decide, by decide +kernel⟩, by decide, by decide⟩
theorem gLW_law_MO_count : gCall mLW_law mMO_count 1 := ⟨qMO_count.1, qMO_count.2, ⟨by decide, by decide, by decide +kernel⟩, by decide, by decide⟩
theorem gLW_law_DV_damage : gCall mLW_law mDV_damage 0 := ⟨qDV_damage.1, qDV_damage.2, ⟨by decide, by decide, by decide +kernel⟩, by decide, by decide⟩
theorem gLW_law_MO_damage : gCall mLW_law mMO_damage 0 := ⟨qMO_damage.1, qMO_damage.2, ⟨by decide, by decide, by decide +kernel⟩, by decide, by decide⟩
theorem gLW_law_DV_paint : gCall mLW_law mDV_paint 0 := ⟨qDV_paint.1, qDV_paint.2, ⟨by decide, by decide, by decide +kernel⟩, by decide, by decide⟩
theorem gLW_law_MO_paint : gCall mLW_law mMO_paint 0 := ⟨qMO_paint.1, qMO_paint.2, ⟨by decide, by decide, by decide +kernel⟩, by decide, by decide⟩
theorem gLW_law_DV_pixel : gCall mLW_law mDV_pixel 2 := ⟨qDV_pixel.1, qDV_pixel.2, ⟨by decide, by decide, by decide +kernel⟩, by decide, by decide⟩
theorem gLW_law_MO_pixel : gCall mLW_law mMO_pixel 2 := ⟨qMO_pixel.1, qMO_pixel.2, ⟨by decide, by decide, by decide +kernel⟩, by decide, by decide⟩
end
section
theorem dBD_init_0 : gD mBD_init 0 (.aload_n 0) 1 1 := ⟨by decide +kernel, rfl⟩
theorem dBD_init_1 : gD mBD_init 1 (.invokespecial 3) 3 4 := ⟨by decide +kernel, rfl⟩
theorem dBD_init_4 : gD mBD_init 4 (.aload_n 0) 1 5 := ⟨by decide +kernel, rfl⟩
theorem dBD_init_5 : gD mBD_init 5 (.bipush 24) 2 7 := ⟨by decide +kernel, rfl⟩
theorem dBD_init_7 : gD mBD_init 7 (.bipush 24) 2 9 := ⟨by decide +kernel, rfl⟩
theorem dBD_init_9 : gD mBD_init 9 (.multianewarray 9 2) 4 13 := ⟨by decide +kernel, rfl⟩
theorem dBD_init_13 : gD mBD_init 13 (.putfield 11) 3 16 := ⟨by decide +kernel, rfl⟩
theorem dBD_init_16 : decode mBD_init.2.1 16 = .ok (.return_, 1) := by decide +kernel
theorem dBD_open_0 : gD mBD_open 0 (.aload_n 0) 1 1 := ⟨by decide +kernel, rfl⟩
theorem dBD_open_1 : gD mBD_open 1 (.iload_n 1) 1 2 := ⟨by decide +kernel, rfl⟩
theorem dBD_open_2 : gD mBD_open 2 (.bipush 24) 2 4 := ⟨by decide +kernel, rfl⟩
theorem dBD_open_4 : gD mBD_open 4 (.invokestatic 16) 3 7 := ⟨by decide +kernel, rfl⟩
theorem dBD_open_7 : gD mBD_open 7 (.putfield 22) 3 10 := ⟨by decide +kernel, rfl⟩
theorem dBD_open_10 : gD mBD_open 10 (.aload_n 0) 1 11 := ⟨by decide +kernel, rfl⟩
theorem dBD_open_11 : gD mBD_open 11 (.iconst 0) 1 12 := ⟨by decide +kernel, rfl⟩
theorem dBD_open_12 : gD mBD_open 12 (.putfield 26) 3 15 := ⟨by decide +kernel, rfl⟩
theorem dBD_open_15 : gD mBD_open 15 (.iconst 0) 1 16 := ⟨by decide +kernel, rfl⟩
theorem dBD_open_16 : gD mBD_open 16 (.istore_n 2) 1 17 := ⟨by decide +kernel, rfl⟩
theorem dBD_open_17 : gD mBD_open 17 (.iload_n 2) 1 18 := ⟨by decide +kernel, rfl⟩
theorem dBD_open_18 : gD mBD_open 18 (.aload_n 0) 1 19 := ⟨by decide +kernel, rfl⟩
theorem dBD_open_19 : gD mBD_open 19 (.getfield 22) 3 22 := ⟨by decide +kernel, rfl⟩
theorem dBD_open_22 : gB mBD_open 22 (.if_icmp .ge 29) 29 51 25 := ⟨by decide +kernel, by decide, rfl⟩
theorem dBD_open_25 : gD mBD_open 25 (.aload_n 0) 1 26 := ⟨by decide +kernel, rfl⟩
theorem dBD_open_26 : gD mBD_open 26 (.getfield 11) 3 29 := ⟨by decide +kernel, rfl⟩
theorem dBD_open_29 : gD mBD_open 29 (.iload_n 2) 1 30 := ⟨by decide +kernel, rfl⟩
theorem dBD_open_30 : gD mBD_open 30 (.aaload) 1 31 := ⟨by decide +kernel, rfl⟩
theorem dBD_open_31 : gD mBD_open 31 (.ldc 30) 2 33 := ⟨by decide +kernel, rfl⟩
theorem dBD_open_33 : gD mBD_open 33 (.invokestatic 31) 3 36 := ⟨by decide +kernel, rfl⟩
theorem dBD_open_36 : gD mBD_open 36 (.aload_n 0) 1 37 := ⟨by decide +kernel, rfl⟩
theorem dBD_open_37 : gD mBD_open 37 (.getfield 11) 3 40 := ⟨by decide +kernel, rfl⟩
theorem dBD_open_40 : gD mBD_open 40 (.iload_n 2) 1 41 := ⟨by decide +kernel, rfl⟩
theorem dBD_open_41 : gD mBD_open 41 (.aaload) 1 42 := ⟨by decide +kernel, rfl⟩
theorem dBD_open_42 : gD mBD_open 42 (.iload_n 2) 1 43 := ⟨by decide +kernel, rfl⟩
theorem dBD_open_43 : gD mBD_open 43 (.iconst 0) 1 44 := ⟨by decide +kernel, rfl⟩
theorem dBD_open_44 : gD mBD_open 44 (.iastore) 1 45 := ⟨by decide +kernel, rfl⟩
theorem dBD_open_45 : gD mBD_open 45 (.iinc 2 1) 3 48 := ⟨by decide +kernel, rfl⟩
theorem dBD_open_48 : gB mBD_open 48 (.goto (-31)) (-31) 17 51 := ⟨by decide +kernel, by decide, rfl⟩
theorem dBD_open_51 : decode mBD_open.2.1 51 = .ok (.return_, 1) := by decide +kernel
theorem dBD_highest_0 : gD mBD_highest 0 (.aload_n 0) 1 1 := ⟨by decide +kernel, rfl⟩
theorem dBD_highest_1 : gD mBD_highest 1 (.getfield 11) 3 4 := ⟨by decide +kernel, rfl⟩
theorem dBD_highest_4 : gD mBD_highest 4 (.iload_n 2) 1 5 := ⟨by decide +kernel, rfl⟩
theorem dBD_highest_5 : gD mBD_highest 5 (.aaload) 1 6 := ⟨by decide +kernel, rfl⟩
theorem dBD_highest_6 : gD mBD_highest 6 (.iload_n 1) 1 7 := ⟨by decide +kernel, rfl⟩
theorem dBD_highest_7 : gD mBD_highest 7 (.iaload) 1 8 := ⟨by decide +kernel, rfl⟩
theorem dBD_highest_8 : decode mBD_highest.2.1 8 = .ok (.ireturn, 1) := by decide +kernel
theorem dBD_lowest_0 : gD mBD_lowest 0 (.aload_n 0) 1 1 := ⟨by decide +kernel, rfl⟩
theorem dBD_lowest_1 : gD mBD_lowest 1 (.getfield 11) 3 4 := ⟨by decide +kernel, rfl⟩
theorem dBD_lowest_4 : gD mBD_lowest 4 (.iload_n 1) 1 5 := ⟨by decide +kernel, rfl⟩
theorem dBD_lowest_5 : gD mBD_lowest 5 (.aaload) 1 6 := ⟨by decide +kernel, rfl⟩
theorem dBD_lowest_6 : gD mBD_lowest 6 (.iload_n 2) 1 7 := ⟨by decide +kernel, rfl⟩
theorem dBD_lowest_7 : gD mBD_lowest 7 (.iaload) 1 8 := ⟨by decide +kernel, rfl⟩
theorem dBD_lowest_8 : gD mBD_lowest 8 (.ineg) 1 9 := ⟨by decide +kernel, rfl⟩
theorem dBD_lowest_9 : decode mBD_lowest.2.1 9 = .ok (.ireturn, 1) := by decide +kernel
theorem dBD_fix_0 : gD mBD_fix 0 (.aload_n 0) 1 1 := ⟨by decide +kernel, rfl⟩
theorem dBD_fix_1 : gD mBD_fix 1 (.iload_n 1) 1 2 := ⟨by decide +kernel, rfl⟩
theorem dBD_fix_2 : gD mBD_fix 2 (.iload_n 2) 1 3 := ⟨by decide +kernel, rfl⟩
theorem dBD_fix_3 : gD mBD_fix 3 (.iload_n 3) 1 4 := ⟨by decide +kernel, rfl⟩
theorem dBD_fix_4 : gD mBD_fix 4 (.invokevirtual 37) 3 7 := ⟨by decide +kernel, rfl⟩
theorem dBD_fix_7 : gD mBD_fix 7 (.aload_n 0) 1 8 := ⟨by decide +kernel, rfl⟩
theorem dBD_fix_8 : gD mBD_fix 8 (.iload_n 2) 1 9 := ⟨by decide +kernel, rfl⟩
theorem dBD_fix_9 : gD mBD_fix 9 (.iload_n 1) 1 10 := ⟨by decide +kernel, rfl⟩
theorem dBD_fix_10 : gD mBD_fix 10 (.iload_n 3) 1 11 := ⟨by decide +kernel, rfl⟩
theorem dBD_fix_11 : gD mBD_fix 11 (.ineg) 1 12 := ⟨by decide +kernel, rfl⟩
theorem dBD_fix_12 : gD mBD_fix 12 (.invokevirtual 37) 3 15 := ⟨by decide +kernel, rfl⟩
theorem dBD_fix_15 : decode mBD_fix.2.1 15 = .ok (.return_, 1) := by decide +kernel
theorem dBD_fixNear_0 : gD mBD_fixNear 0 (.iload_n 3) 1 1 := ⟨by decide +kernel, rfl⟩
theorem dBD_fixNear_1 : gD mBD_fixNear 1 (.aload_n 0) 1 2 := ⟨by decide +kernel, rfl⟩
theorem dBD_fixNear_2 : gD mBD_fixNear 2 (.iload_n 1) 1 3 := ⟨by decide +kernel, rfl⟩
theorem dBD_fixNear_3 : gD mBD_fixNear 3 (.iload_n 2) 1 4 := ⟨by decide +kernel, rfl⟩
theorem dBD_fixNear_4 : gD mBD_fixNear 4 (.invokevirtual 41) 3 7 := ⟨by decide +kernel, rfl⟩
theorem dBD_fixNear_7 : gD mBD_fixNear 7 (.aload_n 0) 1 8 := ⟨by decide +kernel, rfl⟩
theorem dBD_fixNear_8 : gD mBD_fixNear 8 (.iload_n 1) 1 9 := ⟨by decide +kernel, rfl⟩
theorem dBD_fixNear_9 : gD mBD_fixNear 9 (.iload_n 2) 1 10 := ⟨by decide +kernel, rfl⟩
theorem dBD_fixNear_10 : gD mBD_fixNear 10 (.invokevirtual 44) 3 13 := ⟨by decide +kernel, rfl⟩
theorem dBD_fixNear_13 : gD mBD_fixNear 13 (.invokestatic 47) 3 16 := ⟨by decide +kernel, rfl⟩
theorem dBD_fixNear_16 : gD mBD_fixNear 16 (.istore 4) 2 18 := ⟨by decide +kernel, rfl⟩
theorem dBD_fixNear_18 : gD mBD_fixNear 18 (.aload_n 0) 1 19 := ⟨by decide +kernel, rfl⟩
theorem dBD_fixNear_19 : gD mBD_fixNear 19 (.iload_n 1) 1 20 := ⟨by decide +kernel, rfl⟩
theorem dBD_fixNear_20 : gD mBD_fixNear 20 (.iload_n 2) 1 21 := ⟨by decide +kernel, rfl⟩
theorem dBD_fixNear_21 : gD mBD_fixNear 21 (.iload 4) 2 23 := ⟨by decide +kernel, rfl⟩
theorem dBD_fixNear_23 : gD mBD_fixNear 23 (.invokevirtual 37) 3 26 := ⟨by decide +kernel, rfl⟩
theorem dBD_fixNear_26 : gD mBD_fixNear 26 (.aload_n 0) 1 27 := ⟨by decide +kernel, rfl⟩
theorem dBD_fixNear_27 : gD mBD_fixNear 27 (.iload_n 2) 1 28 := ⟨by decide +kernel, rfl⟩
theorem dBD_fixNear_28 : gD mBD_fixNear 28 (.iload_n 1) 1 29 := ⟨by decide +kernel, rfl⟩
theorem dBD_fixNear_29 : gD mBD_fixNear 29 (.iload 4) 2 31 := ⟨by decide +kernel, rfl⟩
theorem dBD_fixNear_31 : gD mBD_fixNear 31 (.ineg) 1 32 := ⟨by decide +kernel, rfl⟩
theorem dBD_fixNear_32 : gD mBD_fixNear 32 (.invokevirtual 37) 3 35 := ⟨by decide +kernel, rfl⟩
theorem dBD_fixNear_35 : gD mBD_fixNear 35 (.iload 4) 2 37 := ⟨by decide +kernel, rfl⟩
theorem dBD_fixNear_37 : decode mBD_fixNear.2.1 37 = .ok (.ireturn, 1) := by decide +kernel
theorem dBD_keepAtLeast_0 : gD mBD_keepAtLeast 0 (.aload_n 0) 1 1 := ⟨by decide +kernel, rfl⟩
theorem dBD_keepAtLeast_1 : gD mBD_keepAtLeast 1 (.iload_n 2) 1 2 := ⟨by decide +kernel, rfl⟩
theorem dBD_keepAtLeast_2 : gD mBD_keepAtLeast 2 (.iload_n 1) 1 3 := ⟨by decide +kernel, rfl⟩
theorem dBD_keepAtLeast_3 : gD mBD_keepAtLeast 3 (.iload_n 3) 1 4 := ⟨by decide +kernel, rfl⟩
theorem dBD_keepAtLeast_4 : gD mBD_keepAtLeast 4 (.ineg) 1 5 := ⟨by decide +kernel, rfl⟩
theorem dBD_keepAtLeast_5 : gD mBD_keepAtLeast 5 (.invokevirtual 37) 3 8 := ⟨by decide +kernel, rfl⟩
theorem dBD_keepAtLeast_8 : decode mBD_keepAtLeast.2.1 8 = .ok (.return_, 1) := by decide +kernel
theorem dBD_keepAtMost_0 : gD mBD_keepAtMost 0 (.iload_n 3) 1 1 := ⟨by decide +kernel, rfl⟩
theorem dBD_keepAtMost_1 : gD mBD_keepAtMost 1 (.aload_n 0) 1 2 := ⟨by decide +kernel, rfl⟩
theorem dBD_keepAtMost_2 : gD mBD_keepAtMost 2 (.getfield 11) 3 5 := ⟨by decide +kernel, rfl⟩
theorem dBD_keepAtMost_5 : gD mBD_keepAtMost 5 (.iload_n 2) 1 6 := ⟨by decide +kernel, rfl⟩
theorem dBD_keepAtMost_6 : gD mBD_keepAtMost 6 (.aaload) 1 7 := ⟨by decide +kernel, rfl⟩
theorem dBD_keepAtMost_7 : gD mBD_keepAtMost 7 (.iload_n 1) 1 8 := ⟨by decide +kernel, rfl⟩
theorem dBD_keepAtMost_8 : gD mBD_keepAtMost 8 (.iaload) 1 9 := ⟨by decide +kernel, rfl⟩
theorem dBD_keepAtMost_9 : gB mBD_keepAtMost 9 (.if_icmp .lt 4) 4 13 12 := ⟨by decide +kernel, by decide, rfl⟩
theorem dBD_keepAtMost_12 : decode mBD_keepAtMost.2.1 12 = .ok (.return_, 1) := by decide +kernel
theorem dBD_keepAtMost_13 : gD mBD_keepAtMost 13 (.iload_n 3) 1 14 := ⟨by decide +kernel, rfl⟩
theorem dBD_keepAtMost_14 : gD mBD_keepAtMost 14 (.aload_n 0) 1 15 := ⟨by decide +kernel, rfl⟩
theorem dBD_keepAtMost_15 : gD mBD_keepAtMost 15 (.getfield 11) 3 18 := ⟨by decide +kernel, rfl⟩
theorem dBD_keepAtMost_18 : gD mBD_keepAtMost 18 (.iload_n 1) 1 19 := ⟨by decide +kernel, rfl⟩
theorem dBD_keepAtMost_19 : gD mBD_keepAtMost 19 (.aaload) 1 20 := ⟨by decide +kernel, rfl⟩
theorem dBD_keepAtMost_20 : gD mBD_keepAtMost 20 (.iload_n 2) 1 21 := ⟨by decide +kernel, rfl⟩
theorem dBD_keepAtMost_21 : gD mBD_keepAtMost 21 (.iaload) 1 22 := ⟨by decide +kernel, rfl⟩
theorem dBD_keepAtMost_22 : gD mBD_keepAtMost 22 (.ineg) 1 23 := ⟨by decide +kernel, rfl⟩
theorem dBD_keepAtMost_23 : gB mBD_keepAtMost 23 (.if_icmp .ge 9) 9 32 26 := ⟨by decide +kernel, by decide, rfl⟩
theorem dBD_keepAtMost_26 : gD mBD_keepAtMost 26 (.aload_n 0) 1 27 := ⟨by decide +kernel, rfl⟩
theorem dBD_keepAtMost_27 : gD mBD_keepAtMost 27 (.iconst 1) 1 28 := ⟨by decide +kernel, rfl⟩
theorem dBD_keepAtMost_28 : gD mBD_keepAtMost 28 (.putfield 26) 3 31 := ⟨by decide +kernel, rfl⟩
theorem dBD_keepAtMost_31 : decode mBD_keepAtMost.2.1 31 = .ok (.return_, 1) := by decide +kernel
theorem dBD_keepAtMost_32 : gD mBD_keepAtMost 32 (.iconst 0) 1 33 := ⟨by decide +kernel, rfl⟩
theorem dBD_keepAtMost_33 : gD mBD_keepAtMost 33 (.istore 4) 2 35 := ⟨by decide +kernel, rfl⟩
theorem dBD_keepAtMost_35 : gD mBD_keepAtMost 35 (.iload 4) 2 37 := ⟨by decide +kernel, rfl⟩
theorem dBD_keepAtMost_37 : gD mBD_keepAtMost 37 (.aload_n 0) 1 38 := ⟨by decide +kernel, rfl⟩
theorem dBD_keepAtMost_38 : gD mBD_keepAtMost 38 (.getfield 22) 3 41 := ⟨by decide +kernel, rfl⟩
theorem dBD_keepAtMost_41 : gB mBD_keepAtMost 41 (.if_icmp .ge 132) 132 173 44 := ⟨by decide +kernel, by decide, rfl⟩
theorem dBD_keepAtMost_44 : gD mBD_keepAtMost 44 (.aload_n 0) 1 45 := ⟨by decide +kernel, rfl⟩
theorem dBD_keepAtMost_45 : gD mBD_keepAtMost 45 (.getfield 11) 3 48 := ⟨by decide +kernel, rfl⟩
theorem dBD_keepAtMost_48 : gD mBD_keepAtMost 48 (.iload 4) 2 50 := ⟨by decide +kernel, rfl⟩
theorem dBD_keepAtMost_50 : gD mBD_keepAtMost 50 (.aaload) 1 51 := ⟨by decide +kernel, rfl⟩
theorem dBD_keepAtMost_51 : gD mBD_keepAtMost 51 (.iload_n 2) 1 52 := ⟨by decide +kernel, rfl⟩
theorem dBD_keepAtMost_52 : gD mBD_keepAtMost 52 (.iaload) 1 53 := ⟨by decide +kernel, rfl⟩
theorem dBD_keepAtMost_53 : gD mBD_keepAtMost 53 (.iload_n 3) 1 54 := ⟨by decide +kernel, rfl⟩
theorem dBD_keepAtMost_54 : gD mBD_keepAtMost 54 (.iadd) 1 55 := ⟨by decide +kernel, rfl⟩
theorem dBD_keepAtMost_55 : gD mBD_keepAtMost 55 (.istore 5) 2 57 := ⟨by decide +kernel, rfl⟩
theorem dBD_keepAtMost_57 : gD mBD_keepAtMost 57 (.aload_n 0) 1 58 := ⟨by decide +kernel, rfl⟩
theorem dBD_keepAtMost_58 : gD mBD_keepAtMost 58 (.getfield 11) 3 61 := ⟨by decide +kernel, rfl⟩
theorem dBD_keepAtMost_61 : gD mBD_keepAtMost 61 (.iload 4) 2 63 := ⟨by decide +kernel, rfl⟩
theorem dBD_keepAtMost_63 : gD mBD_keepAtMost 63 (.aaload) 1 64 := ⟨by decide +kernel, rfl⟩
theorem dBD_keepAtMost_64 : gD mBD_keepAtMost 64 (.iload_n 2) 1 65 := ⟨by decide +kernel, rfl⟩
theorem dBD_keepAtMost_65 : gD mBD_keepAtMost 65 (.iaload) 1 66 := ⟨by decide +kernel, rfl⟩
theorem dBD_keepAtMost_66 : gD mBD_keepAtMost 66 (.ldc 30) 2 68 := ⟨by decide +kernel, rfl⟩
theorem dBD_keepAtMost_68 : gB mBD_keepAtMost 68 (.if_icmp .ge 99) 99 167 71 := ⟨by decide +kernel, by decide, rfl⟩
theorem dBD_keepAtMost_71 : gD mBD_keepAtMost 71 (.iload 5) 2 73 := ⟨by decide +kernel, rfl⟩
theorem dBD_keepAtMost_73 : gD mBD_keepAtMost 73 (.aload_n 0) 1 74 := ⟨by decide +kernel, rfl⟩
theorem dBD_keepAtMost_74 : gD mBD_keepAtMost 74 (.getfield 11) 3 77 := ⟨by decide +kernel, rfl⟩
theorem dBD_keepAtMost_77 : gD mBD_keepAtMost 77 (.iload 4) 2 79 := ⟨by decide +kernel, rfl⟩
theorem dBD_keepAtMost_79 : gD mBD_keepAtMost 79 (.aaload) 1 80 := ⟨by decide +kernel, rfl⟩
theorem dBD_keepAtMost_80 : gD mBD_keepAtMost 80 (.iload_n 1) 1 81 := ⟨by decide +kernel, rfl⟩
theorem dBD_keepAtMost_81 : gD mBD_keepAtMost 81 (.iaload) 1 82 := ⟨by decide +kernel, rfl⟩
theorem dBD_keepAtMost_82 : gB mBD_keepAtMost 82 (.if_icmp .lt 6) 6 88 85 := ⟨by decide +kernel, by decide, rfl⟩
theorem dBD_keepAtMost_85 : gB mBD_keepAtMost 85 (.goto 82) 82 167 88 := ⟨by decide +kernel, by decide, rfl⟩
theorem dBD_keepAtMost_88 : gD mBD_keepAtMost 88 (.iconst 0) 1 89 := ⟨by decide +kernel, rfl⟩
theorem dBD_keepAtMost_89 : gD mBD_keepAtMost 89 (.istore 6) 2 91 := ⟨by decide +kernel, rfl⟩
theorem dBD_keepAtMost_91 : gD mBD_keepAtMost 91 (.iload 6) 2 93 := ⟨by decide +kernel, rfl⟩
theorem dBD_keepAtMost_93 : gD mBD_keepAtMost 93 (.aload_n 0) 1 94 := ⟨by decide +kernel, rfl⟩
theorem dBD_keepAtMost_94 : gD mBD_keepAtMost 94 (.getfield 22) 3 97 := ⟨by decide +kernel, rfl⟩
theorem dBD_keepAtMost_97 : gB mBD_keepAtMost 97 (.if_icmp .ge 70) 70 167 100 := ⟨by decide +kernel, by decide, rfl⟩
theorem dBD_keepAtMost_100 : gD mBD_keepAtMost 100 (.aload_n 0) 1 101 := ⟨by decide +kernel, rfl⟩
theorem dBD_keepAtMost_101 : gD mBD_keepAtMost 101 (.getfield 11) 3 104 := ⟨by decide +kernel, rfl⟩
theorem dBD_keepAtMost_104 : gD mBD_keepAtMost 104 (.iload_n 1) 1 105 := ⟨by decide +kernel, rfl⟩
theorem dBD_keepAtMost_105 : gD mBD_keepAtMost 105 (.aaload) 1 106 := ⟨by decide +kernel, rfl⟩
theorem dBD_keepAtMost_106 : gD mBD_keepAtMost 106 (.iload 6) 2 108 := ⟨by decide +kernel, rfl⟩
theorem dBD_keepAtMost_108 : gD mBD_keepAtMost 108 (.iaload) 1 109 := ⟨by decide +kernel, rfl⟩
theorem dBD_keepAtMost_109 : gD mBD_keepAtMost 109 (.ldc 30) 2 111 := ⟨by decide +kernel, rfl⟩
theorem dBD_keepAtMost_111 : gB mBD_keepAtMost 111 (.if_icmp .ge 50) 50 161 114 := ⟨by decide +kernel, by decide, rfl⟩
theorem dBD_keepAtMost_114 : gD mBD_keepAtMost 114 (.iload 5) 2 116 := ⟨by decide +kernel, rfl⟩
theorem dBD_keepAtMost_116 : gD mBD_keepAtMost 116 (.aload_n 0) 1 117 := ⟨by decide +kernel, rfl⟩
theorem dBD_keepAtMost_117 : gD mBD_keepAtMost 117 (.getfield 11) 3 120 := ⟨by decide +kernel, rfl⟩
theorem dBD_keepAtMost_120 : gD mBD_keepAtMost 120 (.iload_n 1) 1 121 := ⟨by decide +kernel, rfl⟩
theorem dBD_keepAtMost_121 : gD mBD_keepAtMost 121 (.aaload) 1 122 := ⟨by decide +kernel, rfl⟩
theorem dBD_keepAtMost_122 : gD mBD_keepAtMost 122 (.iload 6) 2 124 := ⟨by decide +kernel, rfl⟩
theorem dBD_keepAtMost_124 : gD mBD_keepAtMost 124 (.iaload) 1 125 := ⟨by decide +kernel, rfl⟩
theorem dBD_keepAtMost_125 : gD mBD_keepAtMost 125 (.iadd) 1 126 := ⟨by decide +kernel, rfl⟩
theorem dBD_keepAtMost_126 : gD mBD_keepAtMost 126 (.aload_n 0) 1 127 := ⟨by decide +kernel, rfl⟩
theorem dBD_keepAtMost_127 : gD mBD_keepAtMost 127 (.getfield 11) 3 130 := ⟨by decide +kernel, rfl⟩
theorem dBD_keepAtMost_130 : gD mBD_keepAtMost 130 (.iload 4) 2 132 := ⟨by decide +kernel, rfl⟩
theorem dBD_keepAtMost_132 : gD mBD_keepAtMost 132 (.aaload) 1 133 := ⟨by decide +kernel, rfl⟩
theorem dBD_keepAtMost_133 : gD mBD_keepAtMost 133 (.iload 6) 2 135 := ⟨by decide +kernel, rfl⟩
theorem dBD_keepAtMost_135 : gD mBD_keepAtMost 135 (.iaload) 1 136 := ⟨by decide +kernel, rfl⟩
theorem dBD_keepAtMost_136 : gB mBD_keepAtMost 136 (.if_icmp .ge 25) 25 161 139 := ⟨by decide +kernel, by decide, rfl⟩
theorem dBD_keepAtMost_139 : gD mBD_keepAtMost 139 (.aload_n 0) 1 140 := ⟨by decide +kernel, rfl⟩
theorem dBD_keepAtMost_140 : gD mBD_keepAtMost 140 (.getfield 11) 3 143 := ⟨by decide +kernel, rfl⟩
theorem dBD_keepAtMost_143 : gD mBD_keepAtMost 143 (.iload 4) 2 145 := ⟨by decide +kernel, rfl⟩
theorem dBD_keepAtMost_145 : gD mBD_keepAtMost 145 (.aaload) 1 146 := ⟨by decide +kernel, rfl⟩
theorem dBD_keepAtMost_146 : gD mBD_keepAtMost 146 (.iload 6) 2 148 := ⟨by decide +kernel, rfl⟩
theorem dBD_keepAtMost_148 : gD mBD_keepAtMost 148 (.iload 5) 2 150 := ⟨by decide +kernel, rfl⟩
theorem dBD_keepAtMost_150 : gD mBD_keepAtMost 150 (.aload_n 0) 1 151 := ⟨by decide +kernel, rfl⟩
theorem dBD_keepAtMost_151 : gD mBD_keepAtMost 151 (.getfield 11) 3 154 := ⟨by decide +kernel, rfl⟩
theorem dBD_keepAtMost_154 : gD mBD_keepAtMost 154 (.iload_n 1) 1 155 := ⟨by decide +kernel, rfl⟩
theorem dBD_keepAtMost_155 : gD mBD_keepAtMost 155 (.aaload) 1 156 := ⟨by decide +kernel, rfl⟩
theorem dBD_keepAtMost_156 : gD mBD_keepAtMost 156 (.iload 6) 2 158 := ⟨by decide +kernel, rfl⟩
theorem dBD_keepAtMost_158 : gD mBD_keepAtMost 158 (.iaload) 1 159 := ⟨by decide +kernel, rfl⟩
theorem dBD_keepAtMost_159 : gD mBD_keepAtMost 159 (.iadd) 1 160 := ⟨by decide +kernel, rfl⟩
theorem dBD_keepAtMost_160 : gD mBD_keepAtMost 160 (.iastore) 1 161 := ⟨by decide +kernel, rfl⟩
theorem dBD_keepAtMost_161 : gD mBD_keepAtMost 161 (.iinc 6 1) 3 164 := ⟨by decide +kernel, rfl⟩
theorem dBD_keepAtMost_164 : gB mBD_keepAtMost 164 (.goto (-73)) (-73) 91 167 := ⟨by decide +kernel, by decide, rfl⟩
theorem dBD_keepAtMost_167 : gD mBD_keepAtMost 167 (.iinc 4 1) 3 170 := ⟨by decide +kernel, rfl⟩
theorem dBD_keepAtMost_170 : gB mBD_keepAtMost 170 (.goto (-135)) (-135) 35 173 := ⟨by decide +kernel, by decide, rfl⟩
theorem dBD_keepAtMost_173 : decode mBD_keepAtMost.2.1 173 = .ok (.return_, 1) := by decide +kernel
end
section
def BdOk (T : gT) (gr : gR) (bd : Nat) : Prop := T.1 bd = 4 ∧ T.1 (bd + 1) = 104 ∧ T.2.1 (bd + 1) = 24 ∧ gr bd 0 = some (bd + 1) ∧ ∀ i, i < 24 → gr (bd + 1) i = some (bd + 2 + i) ∧ T.1 (bd + 2 + i) = 100 ∧ T.2.1 (bd + 2 + i) = 24
def BdIs (gi : gI) (bd : Nat) (R : Nat → Nat → Int32) (cf : Int32) (ec : Nat) : Prop := gi bd 1 = nI ec ∧ gi bd 2 = cf ∧ ∀ i j, i < 24 → j < 24 → gi (bd + 2 + i) j = R i j
def BdOff (gi gi' : gI) (bd : Nat) : Prop := ∀ a, ¬ (bd ≤ a ∧ a < bd + 26) → gi' a = gi a
theorem BdOff.rf {gi : gI} {bd : Nat} : BdOff gi gi bd := fun _ _ => rfl
theorem BdOff.tr {g1 g2 g3 : gI} {bd : Nat} (h : BdOff g1 g2 bd) (h' : BdOff g2 g3 bd) : BdOff g1 g3 bd := fun a ha => (h' a ha).trans (h a ha)
theorem nI_inc (a : Nat) : nI a + Int32.ofInt 1 = nI (a + 1) := nI_1 a
theorem gcat_nil : ∀ v ∈ ([] : List Value), v.category = 1 := fun _ h => by cases h
theorem gcat_cons {v : Value} {l : List Value} (h : v.category = 1) (hl : ∀ w ∈ l, w.category = 1) : ∀ w ∈ v :: l, w.category = 1 := by
  intro w hw
  rcases List.mem_cons.mp hw with rfl | hw
  · exact h
  · exact hl w hw
theorem va_rf_cat (r : Option Nat) : (va_rf r).category = 1 := by cases r <;> rfl
theorem cBD_highest {E : gE} {T : gT} {gi : gI} {gr : gR} {bd p q : Nat} (hB : BdOk T gr bd) (hp : p < 24) (hq : q < 24) : Ct E mBD_highest [.ref bd, .int (nI p), .int (nI q)] T gi gr (fun T' gi' gr' v => T' = T ∧ gi' = gi ∧ gr' = gr ∧ v = some (.int (gi (bd + 2 + q) p))) := by
  refine Ct_of (ls := [.ref bd, .int (nI p), .int (nI q)]) (by decide) (gcat_cons rfl (gcat_cons rfl (gcat_cons rfl gcat_nil))) (Nat.le_of_ble_eq_true rfl) rfl ?_
  refine G_aload_n dBD_highest_0 rfl ?_
  refine G_getRs fBD_11 dBD_highest_1 hB.1 hB.2.2.2.1 ?_
  refine G_iload_n dBD_highest_4 rfl ?_
  refine G_aaldsN 4 dBD_highest_5 (by decide) hB.2.1 hB.2.2.1 (by decide) hq (hB.2.2.2.2 q hq).1 ?_
  refine G_iload_n dBD_highest_6 rfl ?_
  refine G_ialdN dBD_highest_7 (hB.2.2.2.2 q hq).2.1 (hB.2.2.2.2 q hq).2.2 (by decide) hp ?_
  exact G_ireturn dBD_highest_8 rfl rfl (Nat.zero_le _) (Nat.zero_le _) ⟨rfl, rfl, rfl, rfl⟩
theorem cBD_lowest {E : gE} {T : gT} {gi : gI} {gr : gR} {bd p q : Nat} (hB : BdOk T gr bd) (hp : p < 24) (hq : q < 24) : Ct E mBD_lowest [.ref bd, .int (nI p), .int (nI q)] T gi gr (fun T' gi' gr' v => T' = T ∧ gi' = gi ∧ gr' = gr ∧ v = some (.int (-(gi (bd + 2 + p) q)))) := by
  refine Ct_of (ls := [.ref bd, .int (nI p), .int (nI q)]) (by decide) (gcat_cons rfl (gcat_cons rfl (gcat_cons rfl gcat_nil))) (Nat.le_of_ble_eq_true rfl) rfl ?_
  refine G_aload_n dBD_lowest_0 rfl ?_
  refine G_getRs fBD_11 dBD_lowest_1 hB.1 hB.2.2.2.1 ?_
  refine G_iload_n dBD_lowest_4 rfl ?_
  refine G_aaldsN 4 dBD_lowest_5 (by decide) hB.2.1 hB.2.2.1 (by decide) hp (hB.2.2.2.2 p hp).1 ?_
  refine G_iload_n dBD_lowest_6 rfl ?_
  refine G_ialdN dBD_lowest_7 (hB.2.2.2.2 p hp).2.1 (hB.2.2.2.2 p hp).2.2 (by decide) hq ?_
  refine G_ineg dBD_lowest_8 ?_
  exact G_ireturn dBD_lowest_9 rfl rfl (Nat.zero_le _) (Nat.zero_le _) ⟨rfl, rfl, rfl, rfl⟩
def kamR (R : Nat → Nat → Int32) (p q : Nat) (d : Int32) (ec : Nat) : Nat → Nat → Int32 := fun f t => if f < ec ∧ t < ec ∧ ¬ 268435456 ≤ R f q ∧ R f q + d < R f p ∧ ¬ 268435456 ≤ R p t ∧ ¬ R f t ≤ R f q + d + R p t then R f q + d + R p t else R f t
def kamM (R : Nat → Nat → Int32) (p q : Nat) (d : Int32) (ec : Nat) : Nat → Nat → Int32 := if d < R q p then (if -(R p q) ≤ d then kamR R p q d ec else R) else R
def kamC (R : Nat → Nat → Int32) (p q : Nat) (d : Int32) (cf : Int32) : Int32 := if d < R q p then (if -(R p q) ≤ d then cf else 1) else cf
def kamI (g0 gi : gI) (bd p f : Nat) (way : Int32) (t : Nat) : Prop := (∀ a, a ≠ bd + 2 + f → gi a = g0 a) ∧ ∀ j, j < 24 → gi (bd + 2 + f) j = if j < t ∧ ¬ 268435456 ≤ g0 (bd + 2 + p) j ∧ ¬ g0 (bd + 2 + f) j ≤ way + g0 (bd + 2 + p) j then way + g0 (bd + 2 + p) j else g0 (bd + 2 + f) j
theorem kamI_0 {g0 : gI} {bd p f : Nat} {way : Int32} : kamI g0 g0 bd p f way 0 := ⟨fun _ _ => rfl, fun j _ => by rw [if_neg (fun h => absurd h.1 (Nat.not_lt_zero _))]⟩
theorem kamI_skip {g0 gi : gI} {bd p f t : Nat} {way : Int32} (h : kamI g0 gi bd p f way t) (hn : ¬ (¬ 268435456 ≤ g0 (bd + 2 + p) t ∧ ¬ g0 (bd + 2 + f) t ≤ way + g0 (bd + 2 + p) t)) : kamI g0 gi bd p f way (t + 1) := by
  refine ⟨h.1, fun j hj => ?_⟩
  rw [h.2 j hj]
  by_cases e : j = t
  · subst e
    rw [if_neg (fun z => absurd z.1 (Nat.lt_irrefl _)), if_neg (fun z => hn z.2)]
  · by_cases c : j < t
    · have c' : j < t + 1 := Nat.lt_succ_of_lt c
      simp only [c, c', true_and]
    · have c' : ¬ j < t + 1 := by omega
      simp only [c, c', false_and]
theorem kamI_put {g0 gi : gI} {bd p f t : Nat} {way : Int32} (h : kamI g0 gi bd p f way t) (hn : ¬ 268435456 ≤ g0 (bd + 2 + p) t ∧ ¬ g0 (bd + 2 + f) t ≤ way + g0 (bd + 2 + p) t) : kamI g0 (gu gi (bd + 2 + f) t (way + g0 (bd + 2 + p) t)) bd p f way (t + 1) := by
  refine ⟨fun a ha => (gu_off ha).trans (h.1 a ha), fun j hj => ?_⟩
  rw [gu_row]
  by_cases e : j = t
  · subst e
    rw [if_pos rfl, if_pos ⟨Nat.lt_succ_self _, hn⟩]
  · rw [if_neg e, h.2 j hj]
    by_cases c : j < t
    · have c' : j < t + 1 := Nat.lt_succ_of_lt c
      simp only [c, c', true_and]
    · have c' : ¬ j < t + 1 := by omega
      simp only [c, c', false_and]
theorem kam_in {E : gE} {T : gT} {g0 : gI} {gr : gR} {bd p q f ec : Nat} {d way : Int32} {Q : gQ} (hB : BdOk T gr bd) (hp : p < 24) (hq : q < 24) (hf : f < 24) (hfp : f ≠ p) (hec24 : ec ≤ 24) (hec0 : g0 bd 1 = nI ec)
    (kx : ∀ gi : gI, kamI g0 gi bd p f way ec → G E mBD_keepAtMost 167 [.ref bd, .int (nI p), .int (nI q), .int d, .int (nI f), .int way, .int (nI ec)] [] T gi gr 0 0 Q) : ∀ (n t : Nat), t + n = ec → ∀ gi : gI, kamI g0 gi bd p f way t → G E mBD_keepAtMost 91 [.ref bd, .int (nI p), .int (nI q), .int d, .int (nI f), .int way, .int (nI t)] [] T gi gr 0 0 Q := by
  intro n
  induction n with
  | zero =>
    intro t htn gi hI
    have hec : gi bd 1 = nI ec := by rw [hI.1 bd (by omega)]; exact hec0
    refine G_iload dBD_keepAtMost_91 rfl ?_
    refine G_aload_n dBD_keepAtMost_93 rfl ?_
    refine G_getI fBD_22 dBD_keepAtMost_94 hB.1 ?_
    rw [hec]
    refine G_icmp_ge dBD_keepAtMost_97 (fun h1 => ?_) (fun h1 => ?_)
    · rw [show t = ec by omega]
      rw [show t = ec by omega] at hI
      exact kx gi hI
    · exact absurd (nI_le (by omega) (by omega)) h1
  | succ n ih =>
    intro t htn gi hI
    have ht : t < 24 := by omega
    have hec : gi bd 1 = nI ec := by rw [hI.1 bd (by omega)]; exact hec0
    have hpt : gi (bd + 2 + p) t = g0 (bd + 2 + p) t := by rw [hI.1 (bd + 2 + p) (by omega)]
    have hft : gi (bd + 2 + f) t = g0 (bd + 2 + f) t := by rw [hI.2 t ht, if_neg (fun z => absurd z.1 (Nat.lt_irrefl _))]
    refine G_iload dBD_keepAtMost_91 rfl ?_
    refine G_aload_n dBD_keepAtMost_93 rfl ?_
    refine G_getI fBD_22 dBD_keepAtMost_94 hB.1 ?_
    rw [hec]
    refine G_icmp_ge dBD_keepAtMost_97 (fun h1 => ?_) (fun h1 => ?_)
    · exact absurd h1 (nI_ge (by omega) (by omega))
    · refine G_aload_n dBD_keepAtMost_100 rfl ?_
      refine G_getRs fBD_11 dBD_keepAtMost_101 hB.1 hB.2.2.2.1 ?_
      refine G_iload_n dBD_keepAtMost_104 rfl ?_
      refine G_aaldsN 4 dBD_keepAtMost_105 (by decide) hB.2.1 hB.2.2.1 (by decide) hp (hB.2.2.2.2 p hp).1 ?_
      refine G_iload dBD_keepAtMost_106 rfl ?_
      refine G_ialdN dBD_keepAtMost_108 (hB.2.2.2.2 p hp).2.1 (hB.2.2.2.2 p hp).2.2 (by decide) ht ?_
      rw [hpt]
      refine G_ldc (v := 268435456) dBD_keepAtMost_109 kBD_30 ?_
      refine G_icmp_ge dBD_keepAtMost_111 (fun h2 => ?_) (fun h2 => ?_)
      · refine G_iinc (ls' := [.ref bd, .int (nI p), .int (nI q), .int d, .int (nI f), .int way, .int (nI (t + 1))]) dBD_keepAtMost_161 rfl (nI_inc t) (by decide) rfl ?_
        refine G_goto dBD_keepAtMost_164 ?_
        exact ih (t + 1) (by omega) _ (kamI_skip hI (fun z => z.1 h2))
      · refine G_iload dBD_keepAtMost_114 rfl ?_
        refine G_aload_n dBD_keepAtMost_116 rfl ?_
        refine G_getRs fBD_11 dBD_keepAtMost_117 hB.1 hB.2.2.2.1 ?_
        refine G_iload_n dBD_keepAtMost_120 rfl ?_
        refine G_aaldsN 4 dBD_keepAtMost_121 (by decide) hB.2.1 hB.2.2.1 (by decide) hp (hB.2.2.2.2 p hp).1 ?_
        refine G_iload dBD_keepAtMost_122 rfl ?_
        refine G_ialdN dBD_keepAtMost_124 (hB.2.2.2.2 p hp).2.1 (hB.2.2.2.2 p hp).2.2 (by decide) ht ?_
        rw [hpt]
        refine G_iadd dBD_keepAtMost_125 ?_
        refine G_aload_n dBD_keepAtMost_126 rfl ?_
        refine G_getRs fBD_11 dBD_keepAtMost_127 hB.1 hB.2.2.2.1 ?_
        refine G_iload dBD_keepAtMost_130 rfl ?_
        refine G_aaldsN 4 dBD_keepAtMost_132 (by decide) hB.2.1 hB.2.2.1 (by decide) hf (hB.2.2.2.2 f hf).1 ?_
        refine G_iload dBD_keepAtMost_133 rfl ?_
        refine G_ialdN dBD_keepAtMost_135 (hB.2.2.2.2 f hf).2.1 (hB.2.2.2.2 f hf).2.2 (by decide) ht ?_
        rw [hft]
        refine G_icmp_ge dBD_keepAtMost_136 (fun h3 => ?_) (fun h3 => ?_)
        · refine G_iinc (ls' := [.ref bd, .int (nI p), .int (nI q), .int d, .int (nI f), .int way, .int (nI (t + 1))]) dBD_keepAtMost_161 rfl (nI_inc t) (by decide) rfl ?_
          refine G_goto dBD_keepAtMost_164 ?_
          exact ih (t + 1) (by omega) _ (kamI_skip hI (fun z => z.2 h3))
        · refine G_aload_n dBD_keepAtMost_139 rfl ?_
          refine G_getRs fBD_11 dBD_keepAtMost_140 hB.1 hB.2.2.2.1 ?_
          refine G_iload dBD_keepAtMost_143 rfl ?_
          refine G_aaldsN 4 dBD_keepAtMost_145 (by decide) hB.2.1 hB.2.2.1 (by decide) hf (hB.2.2.2.2 f hf).1 ?_
          refine G_iload dBD_keepAtMost_146 rfl ?_
          refine G_iload dBD_keepAtMost_148 rfl ?_
          refine G_aload_n dBD_keepAtMost_150 rfl ?_
          refine G_getRs fBD_11 dBD_keepAtMost_151 hB.1 hB.2.2.2.1 ?_
          refine G_iload_n dBD_keepAtMost_154 rfl ?_
          refine G_aaldsN 4 dBD_keepAtMost_155 (by decide) hB.2.1 hB.2.2.1 (by decide) hp (hB.2.2.2.2 p hp).1 ?_
          refine G_iload dBD_keepAtMost_156 rfl ?_
          refine G_ialdN dBD_keepAtMost_158 (hB.2.2.2.2 p hp).2.1 (hB.2.2.2.2 p hp).2.2 (by decide) ht ?_
          rw [hpt]
          refine G_iadd dBD_keepAtMost_159 ?_
          refine G_iastN dBD_keepAtMost_160 (hB.2.2.2.2 f hf).2.1 (hB.2.2.2.2 f hf).2.2 (by decide) ht ?_
          refine G_iinc (ls' := [.ref bd, .int (nI p), .int (nI q), .int d, .int (nI f), .int way, .int (nI (t + 1))]) dBD_keepAtMost_161 rfl (nI_inc t) (by decide) rfl ?_
          refine G_goto dBD_keepAtMost_164 ?_
          exact ih (t + 1) (by omega) _ (kamI_put hI ⟨h2, h3⟩)
def kamS (R : Nat → Nat → Int32) (p q : Nat) (d : Int32) (ec f : Nat) : Nat → Nat → Int32 := fun i j => if i < f then kamR R p q d ec i j else R i j
theorem kamR_p {R : Nat → Nat → Int32} {p q ec : Nat} {d : Int32} (hpp : ¬ (¬ 268435456 ≤ R p q ∧ R p q + d < R p p)) (j : Nat) : kamR R p q d ec p j = R p j := by
  unfold kamR
  rw [if_neg]
  rintro ⟨-, -, h1, h2, -⟩
  exact hpp ⟨h1, h2⟩
theorem kamS_skip {gi : gI} {bd : Nat} {R : Nat → Nat → Int32} {p q ec f : Nat} {d cf : Int32} (hI : BdIs gi bd (kamS R p q d ec f) cf ec) (h : ¬ (¬ 268435456 ≤ R f q ∧ R f q + d < R f p)) : BdIs gi bd (kamS R p q d ec (f + 1)) cf ec := by
  refine ⟨hI.1, hI.2.1, fun i j hi hj => ?_⟩
  rw [hI.2.2 i j hi hj]
  unfold kamS
  by_cases e : i = f
  · subst e
    rw [if_neg (Nat.lt_irrefl _), if_pos (Nat.lt_succ_self _)]
    unfold kamR
    rw [if_neg]
    rintro ⟨-, -, h1, h2, -⟩
    exact h ⟨h1, h2⟩
  · by_cases c : i < f
    · rw [if_pos c, if_pos (by omega)]
    · rw [if_neg c, if_neg (by omega)]
theorem kamS_row {g0 gi : gI} {bd : Nat} {R : Nat → Nat → Int32} {p q ec f : Nat} {d cf : Int32} (hI : BdIs g0 bd (kamS R p q d ec f) cf ec) (hf : f < ec) (hf24 : f < 24) (hp : p < 24) (hfp : f ≠ p) (hpp : ¬ (¬ 268435456 ≤ R p q ∧ R p q + d < R p p)) (h1 : ¬ 268435456 ≤ R f q) (h2 : R f q + d < R f p) (hK : kamI g0 gi bd p f (R f q + d) ec) : BdIs gi bd (kamS R p q d ec (f + 1)) cf ec ∧ BdOff g0 gi bd := by
  have hrp : ∀ j, j < 24 → g0 (bd + 2 + p) j = R p j := by
    intro j hj
    rw [hI.2.2 p j hp hj]
    unfold kamS
    split
    · exact kamR_p hpp j
    · rfl
  have hrf : ∀ j, j < 24 → g0 (bd + 2 + f) j = R f j := by
    intro j hj
    rw [hI.2.2 f j hf24 hj]
    unfold kamS
    rw [if_neg (Nat.lt_irrefl _)]
  refine ⟨⟨by rw [hK.1 bd (by omega)]; exact hI.1, by rw [hK.1 bd (by omega)]; exact hI.2.1, fun i j hi hj => ?_⟩, fun a ha => hK.1 a (by omega)⟩
  by_cases e : i = f
  · subst e
    rw [hK.2 j hj, hrp j hj, hrf j hj]
    unfold kamS
    rw [if_pos (Nat.lt_succ_self _)]
    unfold kamR
    simp only [hf, h1, h2, true_and, not_false_eq_true]
  · rw [hK.1 (bd + 2 + i) (by omega), hI.2.2 i j hi hj]
    unfold kamS
    by_cases c : i < f
    · rw [if_pos c, if_pos (by omega)]
    · rw [if_neg c, if_neg (by omega)]
theorem kam_out {E : gE} {T : gT} {g00 : gI} {gr : gR} {bd p q ec : Nat} {d cf : Int32} {R : Nat → Nat → Int32} {Q : gQ} (hB : BdOk T gr bd) (hp : p < 24) (hq : q < 24) (hec24 : ec ≤ 24) (hpp : ¬ (¬ 268435456 ≤ R p q ∧ R p q + d < R p p))
    (kx : ∀ (gi : gI) (v5 v6 : Value), BdIs gi bd (kamS R p q d ec ec) cf ec → BdOff g00 gi bd → G E mBD_keepAtMost 173 [.ref bd, .int (nI p), .int (nI q), .int d, .int (nI ec), v5, v6] [] T gi gr 0 0 Q) : ∀ (n f : Nat), f + n = ec → ∀ (gi : gI) (v5 v6 : Value), BdIs gi bd (kamS R p q d ec f) cf ec → BdOff g00 gi bd → G E mBD_keepAtMost 35 [.ref bd, .int (nI p), .int (nI q), .int d, .int (nI f), v5, v6] [] T gi gr 0 0 Q := by
  intro n
  induction n with
  | zero =>
    intro f hfn gi v5 v6 hI hO
    refine G_iload dBD_keepAtMost_35 rfl ?_
    refine G_aload_n dBD_keepAtMost_37 rfl ?_
    refine G_getI fBD_22 dBD_keepAtMost_38 hB.1 ?_
    rw [hI.1]
    refine G_icmp_ge dBD_keepAtMost_41 (fun h1 => ?_) (fun h1 => ?_)
    · rw [show f = ec by omega]
      rw [show f = ec by omega] at hI
      exact kx gi v5 v6 hI hO
    · exact absurd (nI_le (by omega) (by omega)) h1
  | succ n ih =>
    intro f hfn gi v5 v6 hI hO
    have hf : f < 24 := by omega
    have hec : gi bd 1 = nI ec := hI.1
    have hrow : ∀ j, j < 24 → gi (bd + 2 + f) j = R f j := by
      intro j hj
      rw [hI.2.2 f j hf hj]
      unfold kamS
      rw [if_neg (Nat.lt_irrefl _)]
    have k167 : ∀ (gi : gI) (v5 v6 : Value), BdIs gi bd (kamS R p q d ec (f + 1)) cf ec → BdOff g00 gi bd → G E mBD_keepAtMost 167 [.ref bd, .int (nI p), .int (nI q), .int d, .int (nI f), v5, v6] [] T gi gr 0 0 Q := by
      intro gi v5 v6 hI hO
      refine G_iinc (ls' := [.ref bd, .int (nI p), .int (nI q), .int d, .int (nI (f + 1)), v5, v6]) dBD_keepAtMost_167 rfl (nI_inc f) (by decide) rfl ?_
      refine G_goto dBD_keepAtMost_170 ?_
      exact ih (f + 1) (by omega) gi v5 v6 hI hO
    refine G_iload dBD_keepAtMost_35 rfl ?_
    refine G_aload_n dBD_keepAtMost_37 rfl ?_
    refine G_getI fBD_22 dBD_keepAtMost_38 hB.1 ?_
    rw [hec]
    refine G_icmp_ge dBD_keepAtMost_41 (fun h1 => ?_) (fun h1 => ?_)
    · exact absurd h1 (nI_ge (by omega) (by omega))
    · refine G_aload_n dBD_keepAtMost_44 rfl ?_
      refine G_getRs fBD_11 dBD_keepAtMost_45 hB.1 hB.2.2.2.1 ?_
      refine G_iload dBD_keepAtMost_48 rfl ?_
      refine G_aaldsN 4 dBD_keepAtMost_50 (by decide) hB.2.1 hB.2.2.1 (by decide) hf (hB.2.2.2.2 f hf).1 ?_
      refine G_iload_n dBD_keepAtMost_51 rfl ?_
      refine G_ialdN dBD_keepAtMost_52 (hB.2.2.2.2 f hf).2.1 (hB.2.2.2.2 f hf).2.2 (by decide) hq ?_
      rw [hrow q hq]
      refine G_iload_n dBD_keepAtMost_53 rfl ?_
      refine G_iadd dBD_keepAtMost_54 ?_
      refine G_istore (ls' := [.ref bd, .int (nI p), .int (nI q), .int d, .int (nI f), .int ((R f q) + (d)), v6]) dBD_keepAtMost_55 (by decide) rfl ?_
      refine G_aload_n dBD_keepAtMost_57 rfl ?_
      refine G_getRs fBD_11 dBD_keepAtMost_58 hB.1 hB.2.2.2.1 ?_
      refine G_iload dBD_keepAtMost_61 rfl ?_
      refine G_aaldsN 4 dBD_keepAtMost_63 (by decide) hB.2.1 hB.2.2.1 (by decide) hf (hB.2.2.2.2 f hf).1 ?_
      refine G_iload_n dBD_keepAtMost_64 rfl ?_
      refine G_ialdN dBD_keepAtMost_65 (hB.2.2.2.2 f hf).2.1 (hB.2.2.2.2 f hf).2.2 (by decide) hq ?_
      rw [hrow q hq]
      refine G_ldc (v := 268435456) dBD_keepAtMost_66 kBD_30 ?_
      refine G_icmp_ge dBD_keepAtMost_68 (fun h2 => ?_) (fun h2 => ?_)
      · exact k167 gi _ _ (kamS_skip hI (fun z => z.1 h2)) hO
      · refine G_iload dBD_keepAtMost_71 rfl ?_
        refine G_aload_n dBD_keepAtMost_73 rfl ?_
        refine G_getRs fBD_11 dBD_keepAtMost_74 hB.1 hB.2.2.2.1 ?_
        refine G_iload dBD_keepAtMost_77 rfl ?_
        refine G_aaldsN 4 dBD_keepAtMost_79 (by decide) hB.2.1 hB.2.2.1 (by decide) hf (hB.2.2.2.2 f hf).1 ?_
        refine G_iload_n dBD_keepAtMost_80 rfl ?_
        refine G_ialdN dBD_keepAtMost_81 (hB.2.2.2.2 f hf).2.1 (hB.2.2.2.2 f hf).2.2 (by decide) hp ?_
        rw [hrow p hp]
        refine G_icmp_lt dBD_keepAtMost_82 (fun h3 => ?_) (fun h3 => ?_)
        · refine G_iconst (v := nI 0) dBD_keepAtMost_88 (by decide +kernel) ?_
          refine G_istore (ls' := [.ref bd, .int (nI p), .int (nI q), .int d, .int (nI f), .int ((R f q) + (d)), .int (nI 0)]) dBD_keepAtMost_89 (by decide) rfl ?_
          have hne : f ≠ p := fun z => hpp (by rw [z] at h2 h3; exact ⟨h2, h3⟩)
          exact kam_in hB hp hq hf hne hec24 hec (fun gi2 hK => k167 gi2 _ _ (kamS_row hI (by omega) hf hp hne hpp h2 h3 hK).1 (hO.tr (kamS_row hI (by omega) hf hp hne hpp h2 h3 hK).2)) ec 0 (Nat.zero_add _) gi kamI_0
        · refine G_goto dBD_keepAtMost_85 ?_
          exact k167 gi _ _ (kamS_skip hI (fun z => h3 z.2)) hO
theorem cBD_keepAtMost {E : gE} {T : gT} {gi : gI} {gr : gR} {bd p q ec : Nat} {d cf : Int32} {R : Nat → Nat → Int32} (hB : BdOk T gr bd) (hI : BdIs gi bd R cf ec) (hp : p < 24) (hq : q < 24) (hec24 : ec ≤ 24) (hpp : d < R q p → -(R p q) ≤ d → ¬ (¬ 268435456 ≤ R p q ∧ R p q + d < R p p)) : Ct E mBD_keepAtMost [.ref bd, .int (nI p), .int (nI q), .int d] T gi gr (fun T' gi' gr' v => T' = T ∧ gr' = gr ∧ v = none ∧ BdIs gi' bd (kamM R p q d ec) (kamC R p q d cf) ec ∧ BdOff gi gi' bd) := by
  refine Ct_of (ls := [.ref bd, .int (nI p), .int (nI q), .int d, .long 0, .long 0, .long 0]) (by decide) (gcat_cons rfl (gcat_cons rfl (gcat_cons rfl (gcat_cons rfl gcat_nil)))) (Nat.le_of_ble_eq_true rfl) rfl ?_
  refine G_iload_n dBD_keepAtMost_0 rfl ?_
  refine G_aload_n dBD_keepAtMost_1 rfl ?_
  refine G_getRs fBD_11 dBD_keepAtMost_2 hB.1 hB.2.2.2.1 ?_
  refine G_iload_n dBD_keepAtMost_5 rfl ?_
  refine G_aaldsN 4 dBD_keepAtMost_6 (by decide) hB.2.1 hB.2.2.1 (by decide) hq (hB.2.2.2.2 q hq).1 ?_
  refine G_iload_n dBD_keepAtMost_7 rfl ?_
  refine G_ialdN dBD_keepAtMost_8 (hB.2.2.2.2 q hq).2.1 (hB.2.2.2.2 q hq).2.2 (by decide) hp ?_
  rw [hI.2.2 q p hq hp]
  refine G_icmp_lt dBD_keepAtMost_9 (fun h1 => ?_) (fun h1 => ?_)
  · refine G_iload_n dBD_keepAtMost_13 rfl ?_
    refine G_aload_n dBD_keepAtMost_14 rfl ?_
    refine G_getRs fBD_11 dBD_keepAtMost_15 hB.1 hB.2.2.2.1 ?_
    refine G_iload_n dBD_keepAtMost_18 rfl ?_
    refine G_aaldsN 4 dBD_keepAtMost_19 (by decide) hB.2.1 hB.2.2.1 (by decide) hp (hB.2.2.2.2 p hp).1 ?_
    refine G_iload_n dBD_keepAtMost_20 rfl ?_
    refine G_ialdN dBD_keepAtMost_21 (hB.2.2.2.2 p hp).2.1 (hB.2.2.2.2 p hp).2.2 (by decide) hq ?_
    rw [hI.2.2 p q hp hq]
    refine G_ineg dBD_keepAtMost_22 ?_
    refine G_icmp_ge dBD_keepAtMost_23 (fun h2 => ?_) (fun h2 => ?_)
    · refine G_iconst (v := nI 0) dBD_keepAtMost_32 (by decide +kernel) ?_
      refine G_istore (ls' := [.ref bd, .int (nI p), .int (nI q), .int d, .int (nI 0), .long 0, .long 0]) dBD_keepAtMost_33 (by decide) rfl ?_
      refine kam_out (g00 := gi) (cf := cf) hB hp hq hec24 (hpp h1 h2) (fun gi2 v5 v6 hI2 hO2 => ?_) ec 0 (Nat.zero_add _) gi _ _ ⟨hI.1, hI.2.1, fun i j hi hj => by rw [hI.2.2 i j hi hj]; unfold kamS; rw [if_neg (Nat.not_lt_zero _)]⟩ BdOff.rf
      refine G_return dBD_keepAtMost_173 rfl (Nat.zero_le _) (Nat.zero_le _) ⟨rfl, rfl, rfl, ?_, hO2⟩
      unfold kamM kamC
      rw [if_pos h1, if_pos h2, if_pos h1, if_pos h2]
      refine ⟨hI2.1, hI2.2.1, fun i j hi hj => ?_⟩
      rw [hI2.2.2 i j hi hj]
      unfold kamS
      split
      · rfl
      · unfold kamR
        rw [if_neg (fun z => by omega)]
    · refine G_aload_n dBD_keepAtMost_26 rfl ?_
      refine G_iconst (v := 1) dBD_keepAtMost_27 (by decide) ?_
      refine G_putI wBD_26 (Or.inl rfl) dBD_keepAtMost_28 hB.1 (nr_z (Or.inr rfl)) (ft_z (Or.inr rfl)) ?_
      refine G_return dBD_keepAtMost_31 rfl (Nat.zero_le _) (Nat.zero_le _) ⟨rfl, rfl, rfl, ?_, fun a ha => gu_off (by omega)⟩
      unfold kamM kamC
      rw [if_pos h1, if_neg h2, if_pos h1, if_neg h2]
      exact ⟨by rw [gu_ne (Or.inr (by decide))]; exact hI.1, gu_same, fun i j hi hj => by rw [gu_ne (Or.inl (by omega))]; exact hI.2.2 i j hi hj⟩
  · exact G_return dBD_keepAtMost_12 rfl (Nat.zero_le _) (Nat.zero_le _) ⟨rfl, rfl, rfl, by unfold kamM kamC; rw [if_neg h1, if_neg h1]; exact hI, BdOff.rf⟩
end
