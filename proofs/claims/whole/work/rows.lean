section
/-- a private method of a class that the tables say can be made, by its rows of tables_1 -/
def lw_okq (q : MethodName × Nat) : Prop := (q.1.cls ≠ "java/lang/invoke/MethodHandle" ∧ q.1.cls ≠ "java/lang/invoke/VarHandle") ∧ Cond.instantiable q.1.cls q.2 ∈ tables_1 ∧ Cond.privateMethod q.1 ∈ tables_1 ∧ Cond.instanceMethod q.1 ∈ tables_1
theorem lw_p0 : lw_okq (⟨"DamageView", "addBox", "(ILDamageView$Box;)I"⟩, 7) := ⟨⟨by decide +kernel, by decide +kernel⟩, List.mem_of_getElem? (i := 12) (by decide +kernel), List.mem_of_getElem? (i := 88) (by decide +kernel), List.mem_of_getElem? (i := 89) (by decide +kernel)⟩
theorem lw_p1 : lw_okq (⟨"DamageView", "showChanges", "()V"⟩, 7) := ⟨⟨by decide +kernel, by decide +kernel⟩, List.mem_of_getElem? (i := 12) (by decide +kernel), List.mem_of_getElem? (i := 151) (by decide +kernel), List.mem_of_getElem? (i := 152) (by decide +kernel)⟩
theorem lw_p2 : lw_okq (⟨"DamageView", "showBox", "(LDamageView$Box;)V"⟩, 7) := ⟨⟨by decide +kernel, by decide +kernel⟩, List.mem_of_getElem? (i := 12) (by decide +kernel), List.mem_of_getElem? (i := 191) (by decide +kernel), List.mem_of_getElem? (i := 192) (by decide +kernel)⟩
theorem lw_p3 : lw_okq (⟨"DamageView", "colourOf", "(LDamageView$Box;)I"⟩, 7) := ⟨⟨by decide +kernel, by decide +kernel⟩, List.mem_of_getElem? (i := 12) (by decide +kernel), List.mem_of_getElem? (i := 195) (by decide +kernel), List.mem_of_getElem? (i := 196) (by decide +kernel)⟩
theorem lw_p4 : lw_okq (⟨"DamageView", "isBox", "(I)Z"⟩, 7) := ⟨⟨by decide +kernel, by decide +kernel⟩, List.mem_of_getElem? (i := 12) (by decide +kernel), List.mem_of_getElem? (i := 240) (by decide +kernel), List.mem_of_getElem? (i := 241) (by decide +kernel)⟩
theorem lw_p5 : lw_okq (⟨"DamageView$Layout", "solve", "()Z"⟩, 6) := ⟨⟨by decide +kernel, by decide +kernel⟩, List.mem_of_getElem? (i := 37) (by decide +kernel), List.mem_of_getElem? (i := 293) (by decide +kernel), List.mem_of_getElem? (i := 294) (by decide +kernel)⟩
theorem lw_p6 : lw_okq (⟨"DamageView$Layout", "demandAll", "()V"⟩, 6) := ⟨⟨by decide +kernel, by decide +kernel⟩, List.mem_of_getElem? (i := 37) (by decide +kernel), List.mem_of_getElem? (i := 297) (by decide +kernel), List.mem_of_getElem? (i := 298) (by decide +kernel)⟩
theorem lw_p7 : lw_okq (⟨"DamageView$Layout", "chooseBest", "()V"⟩, 6) := ⟨⟨by decide +kernel, by decide +kernel⟩, List.mem_of_getElem? (i := 37) (by decide +kernel), List.mem_of_getElem? (i := 328) (by decide +kernel), List.mem_of_getElem? (i := 329) (by decide +kernel)⟩
theorem lw_p8 : lw_okq (⟨"DamageView", "isInnerBox", "(I)Z"⟩, 7) := ⟨⟨by decide +kernel, by decide +kernel⟩, List.mem_of_getElem? (i := 12) (by decide +kernel), List.mem_of_getElem? (i := 401) (by decide +kernel), List.mem_of_getElem? (i := 402) (by decide +kernel)⟩
theorem lw_p9 : lw_okq (⟨"DamageView", "isLastOfItsParent", "(LDamageView$Box;)Z"⟩, 7) := ⟨⟨by decide +kernel, by decide +kernel⟩, List.mem_of_getElem? (i := 12) (by decide +kernel), List.mem_of_getElem? (i := 409) (by decide +kernel), List.mem_of_getElem? (i := 410) (by decide +kernel)⟩
theorem lw_p10 : lw_okq (⟨"DamageView", "bringToFront", "(LDamageView$Box;)V"⟩, 7) := ⟨⟨by decide +kernel, by decide +kernel⟩, List.mem_of_getElem? (i := 12) (by decide +kernel), List.mem_of_getElem? (i := 413) (by decide +kernel), List.mem_of_getElem? (i := 414) (by decide +kernel)⟩
theorem lw_p11 : lw_okq (⟨"DamageView", "frontBox", "(II)LDamageView$Box;"⟩, 7) := ⟨⟨by decide +kernel, by decide +kernel⟩, List.mem_of_getElem? (i := 12) (by decide +kernel), List.mem_of_getElem? (i := 421) (by decide +kernel), List.mem_of_getElem? (i := 422) (by decide +kernel)⟩
theorem lw_p12 : lw_okq (⟨"DamageView", "frontChild", "(LDamageView$Box;II)LDamageView$Box;"⟩, 7) := ⟨⟨by decide +kernel, by decide +kernel⟩, List.mem_of_getElem? (i := 12) (by decide +kernel), List.mem_of_getElem? (i := 425) (by decide +kernel), List.mem_of_getElem? (i := 426) (by decide +kernel)⟩
theorem lw_p13 : lw_okq (⟨"DamageView", "pictureAt", "(II)I"⟩, 7) := ⟨⟨by decide +kernel, by decide +kernel⟩, List.mem_of_getElem? (i := 12) (by decide +kernel), List.mem_of_getElem? (i := 479) (by decide +kernel), List.mem_of_getElem? (i := 480) (by decide +kernel)⟩
theorem lw_p14 : lw_okq (⟨"DamageViewModel", "look", "()V"⟩, 29) := ⟨⟨by decide +kernel, by decide +kernel⟩, List.mem_of_getElem? (i := 498) (by decide +kernel), List.mem_of_getElem? (i := 504) (by decide +kernel), List.mem_of_getElem? (i := 505) (by decide +kernel)⟩
theorem lw_p15 : lw_okq (⟨"DamageViewModel", "can", "(I)Z"⟩, 29) := ⟨⟨by decide +kernel, by decide +kernel⟩, List.mem_of_getElem? (i := 498) (by decide +kernel), List.mem_of_getElem? (i := 508) (by decide +kernel), List.mem_of_getElem? (i := 509) (by decide +kernel)⟩
def lw_privs_1 : List (MethodName × Nat) := [(⟨"DamageView", "addBox", "(ILDamageView$Box;)I"⟩, 7), (⟨"DamageView", "showChanges", "()V"⟩, 7), (⟨"DamageView", "showBox", "(LDamageView$Box;)V"⟩, 7), (⟨"DamageView", "colourOf", "(LDamageView$Box;)I"⟩, 7), (⟨"DamageView", "isBox", "(I)Z"⟩, 7), (⟨"DamageView$Layout", "solve", "()Z"⟩, 6), (⟨"DamageView$Layout", "demandAll", "()V"⟩, 6), (⟨"DamageView$Layout", "chooseBest", "()V"⟩, 6), (⟨"DamageView", "isInnerBox", "(I)Z"⟩, 7), (⟨"DamageView", "isLastOfItsParent", "(LDamageView$Box;)Z"⟩, 7), (⟨"DamageView", "bringToFront", "(LDamageView$Box;)V"⟩, 7), (⟨"DamageView", "frontBox", "(II)LDamageView$Box;"⟩, 7), (⟨"DamageView", "frontChild", "(LDamageView$Box;II)LDamageView$Box;"⟩, 7), (⟨"DamageView", "pictureAt", "(II)I"⟩, 7), (⟨"DamageViewModel", "look", "()V"⟩, 29), (⟨"DamageViewModel", "can", "(I)Z"⟩, 29)]
theorem lw_r1 : ∀ q ∈ lw_privs_1, lw_okq q := List.forall_mem_cons.mpr ⟨lw_p0, List.forall_mem_cons.mpr ⟨lw_p1, List.forall_mem_cons.mpr ⟨lw_p2, List.forall_mem_cons.mpr ⟨lw_p3, List.forall_mem_cons.mpr ⟨lw_p4, List.forall_mem_cons.mpr ⟨lw_p5, List.forall_mem_cons.mpr ⟨lw_p6, List.forall_mem_cons.mpr ⟨lw_p7, List.forall_mem_cons.mpr ⟨lw_p8, List.forall_mem_cons.mpr ⟨lw_p9, List.forall_mem_cons.mpr ⟨lw_p10, List.forall_mem_cons.mpr ⟨lw_p11, List.forall_mem_cons.mpr ⟨lw_p12, List.forall_mem_cons.mpr ⟨lw_p13, List.forall_mem_cons.mpr ⟨lw_p14, List.forall_mem_cons.mpr ⟨lw_p15, fun _ h => absurd h List.not_mem_nil⟩⟩⟩⟩⟩⟩⟩⟩⟩⟩⟩⟩⟩⟩⟩⟩
theorem lw_p16 : lw_okq (⟨"DamageViewModel", "someArea", "(I)Z"⟩, 29) := ⟨⟨by decide +kernel, by decide +kernel⟩, List.mem_of_getElem? (i := 498) (by decide +kernel), List.mem_of_getElem? (i := 512) (by decide +kernel), List.mem_of_getElem? (i := 513) (by decide +kernel)⟩
theorem lw_p17 : lw_okq (⟨"DamageViewModel", "inArea", "(III)Z"⟩, 29) := ⟨⟨by decide +kernel, by decide +kernel⟩, List.mem_of_getElem? (i := 498) (by decide +kernel), List.mem_of_getElem? (i := 516) (by decide +kernel), List.mem_of_getElem? (i := 517) (by decide +kernel)⟩
theorem lw_p18 : lw_okq (⟨"DamageViewModel", "covers", "(III)Z"⟩, 29) := ⟨⟨by decide +kernel, by decide +kernel⟩, List.mem_of_getElem? (i := 498) (by decide +kernel), List.mem_of_getElem? (i := 520) (by decide +kernel), List.mem_of_getElem? (i := 521) (by decide +kernel)⟩
theorem lw_p19 : lw_okq (⟨"DamageViewModel", "colour", "(I)I"⟩, 29) := ⟨⟨by decide +kernel, by decide +kernel⟩, List.mem_of_getElem? (i := 498) (by decide +kernel), List.mem_of_getElem? (i := 524) (by decide +kernel), List.mem_of_getElem? (i := 525) (by decide +kernel)⟩
theorem lw_p20 : lw_okq (⟨"DamageViewModel", "isBox", "(I)Z"⟩, 29) := ⟨⟨by decide +kernel, by decide +kernel⟩, List.mem_of_getElem? (i := 498) (by decide +kernel), List.mem_of_getElem? (i := 620) (by decide +kernel), List.mem_of_getElem? (i := 621) (by decide +kernel)⟩
theorem lw_p21 : lw_okq (⟨"DamageViewModel", "isEdge", "(I)Z"⟩, 29) := ⟨⟨by decide +kernel, by decide +kernel⟩, List.mem_of_getElem? (i := 498) (by decide +kernel), List.mem_of_getElem? (i := 628) (by decide +kernel), List.mem_of_getElem? (i := 629) (by decide +kernel)⟩
theorem lw_p22 : lw_okq (⟨"DamageViewModel", "solve", "(II)Z"⟩, 29) := ⟨⟨by decide +kernel, by decide +kernel⟩, List.mem_of_getElem? (i := 498) (by decide +kernel), List.mem_of_getElem? (i := 635) (by decide +kernel), List.mem_of_getElem? (i := 636) (by decide +kernel)⟩
theorem lw_p23 : lw_okq (⟨"DamageViewModel", "required", "()V"⟩, 29) := ⟨⟨by decide +kernel, by decide +kernel⟩, List.mem_of_getElem? (i := 498) (by decide +kernel), List.mem_of_getElem? (i := 639) (by decide +kernel), List.mem_of_getElem? (i := 640) (by decide +kernel)⟩
theorem lw_p24 : lw_okq (⟨"DamageViewModel", "exactly", "(III)V"⟩, 29) := ⟨⟨by decide +kernel, by decide +kernel⟩, List.mem_of_getElem? (i := 498) (by decide +kernel), List.mem_of_getElem? (i := 643) (by decide +kernel), List.mem_of_getElem? (i := 644) (by decide +kernel)⟩
theorem lw_p25 : lw_okq (⟨"DamageViewModel", "atLeast", "(III)V"⟩, 29) := ⟨⟨by decide +kernel, by decide +kernel⟩, List.mem_of_getElem? (i := 498) (by decide +kernel), List.mem_of_getElem? (i := 647) (by decide +kernel), List.mem_of_getElem? (i := 648) (by decide +kernel)⟩
theorem lw_p26 : lw_okq (⟨"DamageViewModel", "row", "(III)V"⟩, 29) := ⟨⟨by decide +kernel, by decide +kernel⟩, List.mem_of_getElem? (i := 498) (by decide +kernel), List.mem_of_getElem? (i := 651) (by decide +kernel), List.mem_of_getElem? (i := 652) (by decide +kernel)⟩
theorem lw_p27 : lw_okq (⟨"DamageViewModel", "conflict", "()Z"⟩, 29) := ⟨⟨by decide +kernel, by decide +kernel⟩, List.mem_of_getElem? (i := 498) (by decide +kernel), List.mem_of_getElem? (i := 655) (by decide +kernel), List.mem_of_getElem? (i := 656) (by decide +kernel)⟩
theorem lw_p28 : lw_okq (⟨"DamageViewModel", "lower", "()Z"⟩, 29) := ⟨⟨by decide +kernel, by decide +kernel⟩, List.mem_of_getElem? (i := 498) (by decide +kernel), List.mem_of_getElem? (i := 659) (by decide +kernel), List.mem_of_getElem? (i := 660) (by decide +kernel)⟩
theorem lw_p29 : lw_okq (⟨"DamageViewModel", "settle", "(III)I"⟩, 29) := ⟨⟨by decide +kernel, by decide +kernel⟩, List.mem_of_getElem? (i := 498) (by decide +kernel), List.mem_of_getElem? (i := 664) (by decide +kernel), List.mem_of_getElem? (i := 665) (by decide +kernel)⟩
theorem lw_p30 : lw_okq (⟨"DamageViewModel", "most", "(II)I"⟩, 29) := ⟨⟨by decide +kernel, by decide +kernel⟩, List.mem_of_getElem? (i := 498) (by decide +kernel), List.mem_of_getElem? (i := 668) (by decide +kernel), List.mem_of_getElem? (i := 669) (by decide +kernel)⟩
theorem lw_p31 : lw_okq (⟨"DamageViewModel", "soft", "(I)V"⟩, 29) := ⟨⟨by decide +kernel, by decide +kernel⟩, List.mem_of_getElem? (i := 498) (by decide +kernel), List.mem_of_getElem? (i := 672) (by decide +kernel), List.mem_of_getElem? (i := 673) (by decide +kernel)⟩
def lw_privs_2 : List (MethodName × Nat) := [(⟨"DamageViewModel", "someArea", "(I)Z"⟩, 29), (⟨"DamageViewModel", "inArea", "(III)Z"⟩, 29), (⟨"DamageViewModel", "covers", "(III)Z"⟩, 29), (⟨"DamageViewModel", "colour", "(I)I"⟩, 29), (⟨"DamageViewModel", "isBox", "(I)Z"⟩, 29), (⟨"DamageViewModel", "isEdge", "(I)Z"⟩, 29), (⟨"DamageViewModel", "solve", "(II)Z"⟩, 29), (⟨"DamageViewModel", "required", "()V"⟩, 29), (⟨"DamageViewModel", "exactly", "(III)V"⟩, 29), (⟨"DamageViewModel", "atLeast", "(III)V"⟩, 29), (⟨"DamageViewModel", "row", "(III)V"⟩, 29), (⟨"DamageViewModel", "conflict", "()Z"⟩, 29), (⟨"DamageViewModel", "lower", "()Z"⟩, 29), (⟨"DamageViewModel", "settle", "(III)I"⟩, 29), (⟨"DamageViewModel", "most", "(II)I"⟩, 29), (⟨"DamageViewModel", "soft", "(I)V"⟩, 29)]
theorem lw_r2 : ∀ q ∈ lw_privs_2, lw_okq q := List.forall_mem_cons.mpr ⟨lw_p16, List.forall_mem_cons.mpr ⟨lw_p17, List.forall_mem_cons.mpr ⟨lw_p18, List.forall_mem_cons.mpr ⟨lw_p19, List.forall_mem_cons.mpr ⟨lw_p20, List.forall_mem_cons.mpr ⟨lw_p21, List.forall_mem_cons.mpr ⟨lw_p22, List.forall_mem_cons.mpr ⟨lw_p23, List.forall_mem_cons.mpr ⟨lw_p24, List.forall_mem_cons.mpr ⟨lw_p25, List.forall_mem_cons.mpr ⟨lw_p26, List.forall_mem_cons.mpr ⟨lw_p27, List.forall_mem_cons.mpr ⟨lw_p28, List.forall_mem_cons.mpr ⟨lw_p29, List.forall_mem_cons.mpr ⟨lw_p30, List.forall_mem_cons.mpr ⟨lw_p31, fun _ h => absurd h List.not_mem_nil⟩⟩⟩⟩⟩⟩⟩⟩⟩⟩⟩⟩⟩⟩⟩⟩
theorem lw_p32 : lw_okq (⟨"DamageViewModel", "isConstraint", "(I)Z"⟩, 29) := ⟨⟨by decide +kernel, by decide +kernel⟩, List.mem_of_getElem? (i := 498) (by decide +kernel), List.mem_of_getElem? (i := 680) (by decide +kernel), List.mem_of_getElem? (i := 681) (by decide +kernel)⟩
theorem lw_p33 : lw_okq (⟨"DamageViewModel", "isLast", "(I)Z"⟩, 29) := ⟨⟨by decide +kernel, by decide +kernel⟩, List.mem_of_getElem? (i := 498) (by decide +kernel), List.mem_of_getElem? (i := 708) (by decide +kernel), List.mem_of_getElem? (i := 709) (by decide +kernel)⟩
theorem lw_p34 : lw_okq (⟨"DamageViewModel", "inFront", "(II)Z"⟩, 29) := ⟨⟨by decide +kernel, by decide +kernel⟩, List.mem_of_getElem? (i := 498) (by decide +kernel), List.mem_of_getElem? (i := 716) (by decide +kernel), List.mem_of_getElem? (i := 717) (by decide +kernel)⟩
theorem lw_p35 : lw_okq (⟨"DamageViewModel", "activate", "(I)V"⟩, 29) := ⟨⟨by decide +kernel, by decide +kernel⟩, List.mem_of_getElem? (i := 498) (by decide +kernel), List.mem_of_getElem? (i := 729) (by decide +kernel), List.mem_of_getElem? (i := 730) (by decide +kernel)⟩
def lw_privs_3 : List (MethodName × Nat) := [(⟨"DamageViewModel", "isConstraint", "(I)Z"⟩, 29), (⟨"DamageViewModel", "isLast", "(I)Z"⟩, 29), (⟨"DamageViewModel", "inFront", "(II)Z"⟩, 29), (⟨"DamageViewModel", "activate", "(I)V"⟩, 29)]
theorem lw_r3 : ∀ q ∈ lw_privs_3, lw_okq q := List.forall_mem_cons.mpr ⟨lw_p32, List.forall_mem_cons.mpr ⟨lw_p33, List.forall_mem_cons.mpr ⟨lw_p34, List.forall_mem_cons.mpr ⟨lw_p35, fun _ h => absurd h List.not_mem_nil⟩⟩⟩⟩
def lw_privs : List (MethodName × Nat) := lw_privs_1 ++ (lw_privs_2 ++ (lw_privs_3))
def lw_tbl : List Cond := k2_sels lw_privs ++ tables_1
theorem lw_privs_ok : ∀ q ∈ lw_privs, lw_okq q := by
  show ∀ q ∈ lw_privs_1 ++ (lw_privs_2 ++ (lw_privs_3)), lw_okq q
  exact List.forall_mem_append.mpr ⟨lw_r1, List.forall_mem_append.mpr ⟨lw_r2, lw_r3⟩⟩
def TbDV : u_T := fun k => match k with
  | 0 => ("DamageView", "layout", "LDamageView$Layout;", true)
  | 1 => ("DamageView", "screen", "LDamageView$Screen;", true)
  | 2 => ("DamageView", "boxes", "[LDamageView$Box;", true)
  | 3 => ("DamageView", "order", "[LDamageView$Box;", true)
  | 4 => ("DamageView", "boxCount", "I", false)
  | 5 => ("DamageView", "focus", "LDamageView$Box;", false)
  | _ => ("DamageView", "pressed", "LDamageView$Box;", false)
def tyDV : Nat → FieldType := fun k => match k with
  | 0 => .object "DamageView$Layout"
  | 1 => .object "DamageView$Screen"
  | 2 => .array (.object "DamageView$Box")
  | 3 => .array (.object "DamageView$Box")
  | 4 => .int
  | 5 => .object "DamageView$Box"
  | _ => .object "DamageView$Box"
def TbSC : u_T := fun k => match k with
  | 0 => ("DamageView$Screen", "frame", "[I", true)
  | _ => ("DamageView$Screen", "damaged", "[Z", true)
def tySC : Nat → FieldType := fun k => match k with
  | 0 => .array .int
  | _ => .array .boolean
def TbLA : u_T := fun k => match k with
  | 0 => ("DamageView$Layout", "places", "[I", true)
  | 1 => ("DamageView$Layout", "edgeCount", "I", false)
  | 2 => ("DamageView$Layout", "constraints", "[LDamageView$Constraint;", true)
  | 3 => ("DamageView$Layout", "bounds", "LDamageView$Bounds;", true)
  | 4 => ("DamageView$Layout", "width", "I", false)
  | _ => ("DamageView$Layout", "height", "I", false)
def tyLA : Nat → FieldType := fun k => match k with
  | 0 => .array .int
  | 1 => .int
  | 2 => .array (.object "DamageView$Constraint")
  | 3 => .object "DamageView$Bounds"
  | 4 => .int
  | _ => .int
def TbBD : u_T := fun k => match k with
  | 0 => ("DamageView$Bounds", "rise", "[[I", true)
  | 1 => ("DamageView$Bounds", "edgeCount", "I", false)
  | _ => ("DamageView$Bounds", "conflict", "Z", false)
def tyBD : Nat → FieldType := fun k => match k with
  | 0 => .array (.array .int)
  | 1 => .int
  | _ => .boolean
def TbBX : u_T := fun k => match k with
  | 0 => ("DamageView$Box", "number", "I", true)
  | 1 => ("DamageView$Box", "kind", "I", true)
  | 2 => ("DamageView$Box", "parent", "LDamageView$Box;", true)
  | 3 => ("DamageView$Box", "area", "LDamageView$Area;", true)
  | 4 => ("DamageView$Box", "areaBefore", "LDamageView$Area;", true)
  | 5 => ("DamageView$Box", "colour", "I", false)
  | 6 => ("DamageView$Box", "activations", "I", false)
  | 7 => ("DamageView$Box", "hidden", "Z", false)
  | _ => ("DamageView$Box", "on", "Z", false)
def tyBX : Nat → FieldType := fun k => match k with
  | 0 => .int
  | 1 => .int
  | 2 => .object "DamageView$Box"
  | 3 => .object "DamageView$Area"
  | 4 => .object "DamageView$Area"
  | 5 => .int
  | 6 => .int
  | 7 => .boolean
  | _ => .boolean
def TbAR : u_T := fun k => match k with
  | 0 => ("DamageView$Area", "left", "I", false)
  | 1 => ("DamageView$Area", "right", "I", false)
  | 2 => ("DamageView$Area", "top", "I", false)
  | _ => ("DamageView$Area", "bottom", "I", false)
def tyAR : Nat → FieldType := fun k => match k with
  | 0 => .int
  | 1 => .int
  | 2 => .int
  | _ => .int
def TbCN : u_T := fun k => match k with
  | 0 => ("DamageView$Constraint", "strength", "I", true)
  | 1 => ("DamageView$Constraint", "p", "I", true)
  | 2 => ("DamageView$Constraint", "q", "I", true)
  | 3 => ("DamageView$Constraint", "c", "I", true)
  | _ => ("DamageView$Constraint", "form", "I", true)
def tyCN : Nat → FieldType := fun k => match k with
  | 0 => .int
  | 1 => .int
  | 2 => .int
  | 3 => .int
  | _ => .int
def TbMO : u_T := fun k => match k with
  | 0 => ("DamageViewModel", "boxes", "I", false)
  | 1 => ("DamageViewModel", "kind", "[I", true)
  | 2 => ("DamageViewModel", "parent", "[I", true)
  | 3 => ("DamageViewModel", "hidden", "[Z", true)
  | 4 => ("DamageViewModel", "lit", "[Z", true)
  | 5 => ("DamageViewModel", "counts", "[I", true)
  | 6 => ("DamageViewModel", "rank", "[I", true)
  | 7 => ("DamageViewModel", "ranks", "I", false)
  | 8 => ("DamageViewModel", "width", "I", false)
  | 9 => ("DamageViewModel", "height", "I", false)
  | 10 => ("DamageViewModel", "places", "[I", true)
  | 11 => ("DamageViewModel", "found", "[I", true)
  | 12 => ("DamageViewModel", "used", "[Z", true)
  | 13 => ("DamageViewModel", "first", "[I", true)
  | 14 => ("DamageViewModel", "second", "[I", true)
  | 15 => ("DamageViewModel", "apart", "[I", true)
  | 16 => ("DamageViewModel", "form", "[I", true)
  | 17 => ("DamageViewModel", "strength", "[I", true)
  | 18 => ("DamageViewModel", "rows", "I", false)
  | 19 => ("DamageViewModel", "tail", "[I", true)
  | 20 => ("DamageViewModel", "head", "[I", true)
  | 21 => ("DamageViewModel", "weight", "[I", true)
  | 22 => ("DamageViewModel", "reach", "[I", true)
  | 23 => ("DamageViewModel", "focus", "I", false)
  | 24 => ("DamageViewModel", "pressed", "I", false)
  | 25 => ("DamageViewModel", "area", "[Z", true)
  | 26 => ("DamageViewModel", "colours", "[I", true)
  | 27 => ("DamageViewModel", "damaged", "[Z", true)
  | _ => ("DamageViewModel", "frame", "[I", true)
def tyMO : Nat → FieldType := fun k => match k with
  | 0 => .int
  | 1 => .array .int
  | 2 => .array .int
  | 3 => .array .boolean
  | 4 => .array .boolean
  | 5 => .array .int
  | 6 => .array .int
  | 7 => .int
  | 8 => .int
  | 9 => .int
  | 10 => .array .int
  | 11 => .array .int
  | 12 => .array .boolean
  | 13 => .array .int
  | 14 => .array .int
  | 15 => .array .int
  | 16 => .array .int
  | 17 => .array .int
  | 18 => .int
  | 19 => .array .int
  | 20 => .array .int
  | 21 => .array .int
  | 22 => .array .int
  | 23 => .int
  | 24 => .int
  | 25 => .array .boolean
  | 26 => .array .int
  | 27 => .array .boolean
  | _ => .array .int
def vwCl : List vw_C := [("DamageView", TbDV, 7), ("DamageView$Screen", TbSC, 2), ("DamageView$Layout", TbLA, 6), ("DamageView$Bounds", TbBD, 3), ("DamageView$Box", TbBX, 9), ("DamageView$Area", TbAR, 4), ("DamageView$Constraint", TbCN, 5), ("DamageViewModel", TbMO, 29)]
def gNest : List Cond := [.methodLinkNest "DamageView" 11 ⟨"DamageView$Screen", "<init>", "()V"⟩ "DamageView", .methodLinkNest "DamageView$Layout" 23 ⟨"DamageView$Bounds", "<init>", "()V"⟩ "DamageView", .methodLinkNest "DamageView$Box" 11 ⟨"DamageView$Area", "<init>", "()V"⟩ "DamageView", .methodLinkNest "DamageView$Bounds" 47 ⟨"DamageView", "nearest", "(III)I"⟩ "DamageView"]
theorem gNest_warm {s U : State} (hW : s.WarmedH U.vm) (h : ∀ w ∈ gNest, va_Nw w s) : ∀ w ∈ gNest, va_Nw w U := by
  intro w hw
  have h0 := h w hw
  simp only [gNest, List.mem_cons, List.not_mem_nil, or_false] at hw
  rcases hw with rfl | rfl | rfl | rfl
  all_goals exact va_Nw.warmM hW h0
theorem gNest_same {w : Cond} (hw : w ∈ gNest) {u U : State} (h : u.vm = U.vm) (hZ : va_Nw w u) : va_Nw w U := by
  simp only [gNest, List.mem_cons, List.not_mem_nil, or_false] at hw
  rcases hw with rfl | rfl | rfl | rfl
  all_goals exact va_Nw.same rfl h hZ
end
section
abbrev gT : Type := (Nat → Nat) × (Nat → Nat) × Nat
abbrev gI : Type := Nat → Nat → Int32
abbrev gR : Type := Nat → Nat → Option Nat
abbrev gE : Type := Launch × va_G × (Nat → ClassId) × Nat × Nat × (Nat → Int32) × Nat
abbrev gX : Type := MethodName × ByteArray × Nat × Option FieldType × Room
abbrev gQ : Type := gT → gI → gR → Option Value → Prop
def gbase (E : gE) : Nat := E.2.2.2.2.2.2
def gFR (d : String) : Bool := match parseFieldDescriptor d with
  | some ty => ty.isReference
  | none => false
def gfv (Tb : u_T) (k : Nat) (fi : Nat → Int32) (fr : Nat → Option Nat) : Value := if gFR (Tb k).2.2.1 = true then va_rf (fr k) else .int (fi k)
def gAT (q : Nat) : FieldType := match q with
  | 0 => .int
  | 1 => .boolean
  | 2 => .object "DamageView$Box"
  | 3 => .object "DamageView$Constraint"
  | _ => .array .int
def gav (q : Nat) (fi : Nat → Int32) (fr : Nat → Option Nat) (j : Nat) : Value := if q < 2 then .int (fi j) else va_rf (fr j)
def gAt (E : gE) (t n : Nat) (fi : Nat → Int32) (fr : Nat → Option Nat) (cell : Cell) : Prop :=
  (∀ (ci : Nat) (r : vw_C), t = ci + 1 → vwCl[ci]? = some r → cell.cls = E.2.1.1 ci ∧ cell.vm = .none ∧ ∀ k, k < r.2.2 → cell.slots[E.2.1.2 ci k]? = some (gfv r.2.1 k fi fr)) ∧
  ∀ q : Nat, t = 100 + q → cell = arrV (E.2.2.1 q) n (gav q fi fr)
def gMem (E : gE) (T : gT) (gi : gI) (gr : gR) (H : Heap) : Prop :=
  H.size = T.2.2 ∧ gbase E ≤ T.2.2 ∧ ∀ a, T.1 a ≠ 0 → gbase E ≤ a ∧ ∃ cell, H[a]? = some cell ∧ gAt E (T.1 a) (T.2.1 a) (gi a) (gr a) cell
def gW (E : gE) (T : gT) (gi : gI) (gr : gR) (U : State) (H : Heap) : Prop := gMem E T gi gr H ∧ va_X E.2.2.2.1 E.2.2.2.2.1 E.2.2.2.2.2.1 U H ∧ E.2.2.2.1 < gbase E
def gTys (E : gE) : List (ClassId × FieldType) := [(E.2.2.1 0, gAT 0), (E.2.2.1 1, gAT 1), (E.2.2.1 2, gAT 2), (E.2.2.1 3, gAT 3), (E.2.2.1 4, gAT 4)]
def gK (E : gE) (U : State) : Prop := va_K E.2.1 vwCl (gTys E) U ∧ (∀ w ∈ gNest, va_Nw w U) ∧ va_AO "DamageView$Box" U ∧ va_AO "DamageView$Constraint" U ∧ (Cond.arrayOver (.array .int)).before #[] U = true
def gGood (w : Cond) : Bool := (w.onTables && w.keeps) || (match w with
  | .arrayClass _ => true
  | _ => false)
def gTbl : List Cond := lw_tbl.filter gGood
theorem gGood_or {w : Cond} (h : gGood w = true) : (w.onTables && w.keeps) = true ∨ ∃ ty, w = .arrayClass ty := by
  unfold gGood at h
  rcases Bool.or_eq_true _ _ ▸ h with h | h
  · exact Or.inl h
  · cases w <;> first | exact Or.inr ⟨_, rfl⟩ | cases h
theorem gTbl_in {i : Nat} {w : Cond} (h : lw_tbl[i]? = some w) (hg : gGood w = true) : w ∈ gTbl := List.mem_filter.mpr ⟨List.mem_of_getElem? h, hg⟩
def gws (X : gX) : List Cond := .code X.1 X.2.1 X.2.2.1 X.2.2.2.1 :: gTbl
def gCx (E : gE) (X : gX) (p : Program) (s : State) (m : MethodId) (args : Array Value) (meth : Method) (c : Code) : Prop :=
  p.tables.exec = Jvm.exec ∧ c.code = X.2.1 ∧ c.maxLocals = X.2.2.1 ∧ meth.sig.returnType = X.2.2.2.1 ∧ meth.locks = false ∧ s.vm.findClass X.1.cls = some m.cls ∧ (∀ w ∈ gTbl, w.before args s = true) ∧ meth.name = X.1.name ∧ gK E s
def gRt (X : gX) (pc : Nat) (v : Option Value) : Prop := match v with
  | none => decode X.2.1 pc = .ok (.return_, 1) ∧ X.2.2.2.1 = none
  | some (.int x) => decode X.2.1 pc = .ok (.ireturn, 1) ∧ ∃ ty, X.2.2.2.1 = some ty ∧ narrow ty (.int x) = .int x
  | some v => decode X.2.1 pc = .ok (.areturn, 1) ∧ (v = .null ∨ ∃ a, v = .ref a) ∧ ∃ n, X.2.2.2.1 = some (.object n)
def gl (ls : List Value) : List (Nat × Value) := (List.range ls.length).filterMap fun j => (ls[j]?).bind fun v => if v.category = 1 then some (j, v) else none
theorem gl_mem {ls : List Value} {j : Nat} {v : Value} : (j, v) ∈ gl ls ↔ ls[j]? = some v ∧ v.category = 1 := by
  unfold gl
  rw [List.mem_filterMap]
  constructor
  · rintro ⟨i, -, h⟩
    cases hv : ls[i]? with
    | none => rw [hv] at h; cases h
    | some w =>
      rw [hv] at h
      simp only [Option.bind_some] at h
      split at h
      · rename_i hc
        cases h
        exact ⟨hv, hc⟩
      · cases h
  · rintro ⟨h, hc⟩
    refine ⟨j, List.mem_range.mpr (List.getElem?_eq_some_iff.mp h).1, ?_⟩
    rw [h]
    simp [hc]
def gL (ls : List Value) (nL : Nat) (lsA : Array Slot) : Prop := lv_has lsA nL (gl ls)
theorem gL_at {ls : List Value} {nL : Nat} {lsA : Array Slot} (h : gL ls nL lsA) {i : Nat} {v : Value} (hv : ls[i]? = some v) (hc : v.category = 1) : lsA[i]? = some (.val v) := h.2.2 (i, v) (gl_mem.mpr ⟨hv, hc⟩)
theorem gL_of {ls : List Value} {nL : Nat} {lsA : Array Slot} {l : List (Nat × Value)} (h : lv_has lsA nL l) (hs : ∀ q ∈ gl ls, q ∈ l) : gL ls nL lsA := ⟨h.1, h.2.1, fun q hq => h.2.2 q (hs q hq)⟩
theorem gL_set {ls : List Value} {nL : Nat} {lsA : Array Slot} {i : Nat} {v : Value} (h : lv_has lsA nL ((i, v) :: (gl ls).filter (fun q => !(q.1 == i) && !(q.1 + 1 == i && q.2.category == 2)))) : gL (ls.set i v) nL lsA := by
  refine gL_of h fun q hq => ?_
  obtain ⟨j, w⟩ := q
  obtain ⟨h1, h2⟩ := gl_mem.mp hq
  by_cases hj : i = j
  · subst hj
    rw [List.getElem?_set_self' ] at h1
    cases hx : ls[i]? with
    | none => rw [hx] at h1; cases h1
    | some y =>
      rw [hx] at h1
      cases h1
      exact List.mem_cons_self
  · rw [List.getElem?_set_ne hj] at h1
    refine List.mem_cons_of_mem _ (List.mem_filter.mpr ⟨gl_mem.mpr ⟨h1, h2⟩, ?_⟩)
    simp only [h2]
    have : ¬ j = i := fun z => hj z.symm
    simp [this]
def gD (X : gX) (pc : Nat) (i : Instr) (len pc' : Nat) : Prop := decode X.2.1 pc = .ok (i, len) ∧ pc + len = pc'
def gB (X : gX) (pc : Nat) (i : Instr) (off : Int) (tgt pc' : Nat) : Prop := decode X.2.1 pc = .ok (i, 3) ∧ (pc : Int) + off = (tgt : Int) ∧ pc + 3 = pc'
def G (E : gE) (X : gX) (pc : Nat) (ls st : List Value) (T : gT) (gi : gI) (gr : gR) (k n : Nat) (Q : gQ) : Prop :=
  ∀ (p : Program) (e : Env) (s : State) (m : MethodId) (args : Array Value) (below : List Frame) (meth : Method) (c : Code) (Z : State → Prop),
    gCx E X p s m args meth c →
    (∀ (T' : gT) (gi' : gI) (gr' : gR) (v : Option Value) (H' : Heap) (locs' : List Loc) (lsA : Array Slot) (pc' : Nat), Q T' gi' gr' v → gW E T' gi' gr' s H' → (∀ q ∈ locs', gbase E ≤ q.base) → gRt X pc' v → W p E.1 e X.2.2.2.2 s m args below meth c H' locs' X.2.2.2.2.cells X.2.2.2.2.slots Z (F0 m pc' lsA v.toList)) →
    ∀ (H : Heap) (locs : List Loc) (lsA : Array Slot), gL ls X.2.2.1 lsA → gW E T gi gr s H → (∀ q ∈ locs, gbase E ≤ q.base) → W p E.1 e X.2.2.2.2 s m args below meth c H locs k n Z (F0 m pc lsA st)
section GR
variable {E : gE} {X : gX} {pc pc' : Nat} {ls st : List Value} {T : gT} {gi : gI} {gr : gR} {k n : Nat} {Q : gQ}
theorem G_iconst {z : Int} {v : Int32} (hd : gD X pc (.iconst z) 1 pc') (hv : Int32.ofInt z = v) (kk : G E X pc' ls (.int v :: st) T gi gr k n Q) : G E X pc ls (st) T gi gr k n Q := by
  obtain ⟨hd, rfl⟩ := hd
  intro p e s m args below meth c Z hc hr H locs lsA hl hw hf
  exact lv_iconst hc.1 hc.2.1 hd hv (kk p e s m args below meth c Z hc hr H locs lsA hl hw hf)
theorem G_bipush {z : Int} {v : Int32} (hd : gD X pc (.bipush z) 2 pc') (hv : (Int8.ofInt z).toInt32 = v) (kk : G E X pc' ls (.int v :: st) T gi gr k n Q) : G E X pc ls (st) T gi gr k n Q := by
  obtain ⟨hd, rfl⟩ := hd
  intro p e s m args below meth c Z hc hr H locs lsA hl hw hf
  exact lv_bipush hc.1 hc.2.1 hd hv (kk p e s m args below meth c Z hc hr H locs lsA hl hw hf)
theorem G_sipush {z : Int} {v : Int32} (hd : gD X pc (.sipush z) 3 pc') (hv : (Int16.ofInt z).toInt32 = v) (kk : G E X pc' ls (.int v :: st) T gi gr k n Q) : G E X pc ls (st) T gi gr k n Q := by
  obtain ⟨hd, rfl⟩ := hd
  intro p e s m args below meth c Z hc hr H locs lsA hl hw hf
  exact lv_sipush hc.1 hc.2.1 hd hv (kk p e s m args below meth c Z hc hr H locs lsA hl hw hf)
theorem G_ldc {i : Nat} {v : Int32} (hd : gD X pc (.ldc i) 2 pc') (hv : Cond.constant X.1.cls i v ∈ gTbl) (kk : G E X pc' ls (.int v :: st) T gi gr k n Q) : G E X pc ls (st) T gi gr k n Q := by
  obtain ⟨hd, rfl⟩ := hd
  intro p e s m args below meth c Z hc hr H locs lsA hl hw hf
  exact lv_ldc hc.1 hc.2.1 hc.2.2.2.2.2.1 (hc.2.2.2.2.2.2.1 _ hv) hd (kk p e s m args below meth c Z hc hr H locs lsA hl hw hf)
theorem G_iload_n {i : Fin 4} {x : Int32} (hd : gD X pc (.iload_n i) 1 pc') (hv : ls[(i : Nat)]? = some (.int x)) (kk : G E X pc' ls (.int x :: st) T gi gr k n Q) : G E X pc ls (st) T gi gr k n Q := by
  obtain ⟨hd, rfl⟩ := hd
  intro p e s m args below meth c Z hc hr H locs lsA hl hw hf
  exact lv_iload_n hc.1 hc.2.1 hd rfl (gL_at hl hv rfl) (kk p e s m args below meth c Z hc hr H locs lsA hl hw hf)
theorem G_iload {i : Nat} {x : Int32} (hd : gD X pc (.iload i) 2 pc') (hv : ls[i]? = some (.int x)) (kk : G E X pc' ls (.int x :: st) T gi gr k n Q) : G E X pc ls (st) T gi gr k n Q := by
  obtain ⟨hd, rfl⟩ := hd
  intro p e s m args below meth c Z hc hr H locs lsA hl hw hf
  exact lv_iload hc.1 hc.2.1 hd (gL_at hl hv rfl) (kk p e s m args below meth c Z hc hr H locs lsA hl hw hf)
theorem G_aload_n {i : Fin 4} {a : Nat} (hd : gD X pc (.aload_n i) 1 pc') (hv : ls[(i : Nat)]? = some (.ref a)) (kk : G E X pc' ls (.ref a :: st) T gi gr k n Q) : G E X pc ls (st) T gi gr k n Q := by
  obtain ⟨hd, rfl⟩ := hd
  intro p e s m args below meth c Z hc hr H locs lsA hl hw hf
  exact lv_aload_n hc.1 hc.2.1 hd rfl (gL_at hl hv rfl) (kk p e s m args below meth c Z hc hr H locs lsA hl hw hf)
theorem G_aload_nN {i : Fin 4} (hd : gD X pc (.aload_n i) 1 pc') (hv : ls[(i : Nat)]? = some .null) (kk : G E X pc' ls (.null :: st) T gi gr k n Q) : G E X pc ls (st) T gi gr k n Q := by
  obtain ⟨hd, rfl⟩ := hd
  intro p e s m args below meth c Z hc hr H locs lsA hl hw hf
  exact lv_aload_nN hc.1 hc.2.1 hd rfl (gL_at hl hv rfl) (kk p e s m args below meth c Z hc hr H locs lsA hl hw hf)
theorem G_aload_nq {i : Fin 4} {r : Option Nat} (hd : gD X pc (.aload_n i) 1 pc') (hv : ls[(i : Nat)]? = some (va_rf r)) (kk : G E X pc' ls (va_rf r :: st) T gi gr k n Q) : G E X pc ls st T gi gr k n Q := by
  cases r with
  | none => exact G_aload_nN hd hv kk
  | some a => exact G_aload_n hd hv kk
theorem G_aload {i : Nat} {a : Nat} (hd : gD X pc (.aload i) 2 pc') (hv : ls[i]? = some (.ref a)) (kk : G E X pc' ls (.ref a :: st) T gi gr k n Q) : G E X pc ls (st) T gi gr k n Q := by
  obtain ⟨hd, rfl⟩ := hd
  intro p e s m args below meth c Z hc hr H locs lsA hl hw hf
  exact lv_aload hc.1 hc.2.1 hd (gL_at hl hv rfl) (kk p e s m args below meth c Z hc hr H locs lsA hl hw hf)
theorem G_aloadN {i : Nat} (hd : gD X pc (.aload i) 2 pc') (hv : ls[i]? = some .null) (kk : G E X pc' ls (.null :: st) T gi gr k n Q) : G E X pc ls (st) T gi gr k n Q := by
  obtain ⟨hd, rfl⟩ := hd
  intro p e s m args below meth c Z hc hr H locs lsA hl hw hf
  exact lv_aloadN hc.1 hc.2.1 hd (gL_at hl hv rfl) (kk p e s m args below meth c Z hc hr H locs lsA hl hw hf)
theorem G_aloadq {i : Nat} {r : Option Nat} (hd : gD X pc (.aload i) 2 pc') (hv : ls[i]? = some (va_rf r)) (kk : G E X pc' ls (va_rf r :: st) T gi gr k n Q) : G E X pc ls st T gi gr k n Q := by
  cases r with
  | none => exact G_aloadN hd hv kk
  | some a => exact G_aload hd hv kk
theorem G_istore_n {i : Fin 4} {x : Int32} {ls' : List Value} (hd : gD X pc (.istore_n i) 1 pc') (hi : (i : Nat) < X.2.2.1) (hs : ls.set (i : Nat) (.int x) = ls') (kk : G E X pc' ls' st T gi gr k n Q) : G E X pc ls (.int x :: st) T gi gr k n Q := by
  obtain ⟨hd, rfl⟩ := hd
  subst hs
  intro p e s m args below meth c Z hc hr H locs lsA hl hw hf
  exact lv_istore_n hc.1 hc.2.1 hd rfl hl hi rfl (fun lsB hB => kk p e s m args below meth c Z hc hr H locs lsB (gL_set hB) hw hf)
theorem G_istore {i : Nat} {x : Int32} {ls' : List Value} (hd : gD X pc (.istore i) 2 pc') (hi : i < X.2.2.1) (hs : ls.set i (.int x) = ls') (kk : G E X pc' ls' st T gi gr k n Q) : G E X pc ls (.int x :: st) T gi gr k n Q := by
  obtain ⟨hd, rfl⟩ := hd
  subst hs
  intro p e s m args below meth c Z hc hr H locs lsA hl hw hf
  exact lv_istore hc.1 hc.2.1 hd hl hi rfl (fun lsB hB => kk p e s m args below meth c Z hc hr H locs lsB (gL_set hB) hw hf)
theorem G_astore_n {i : Fin 4} {a : Nat} {ls' : List Value} (hd : gD X pc (.astore_n i) 1 pc') (hi : (i : Nat) < X.2.2.1) (hs : ls.set (i : Nat) (.ref a) = ls') (kk : G E X pc' ls' st T gi gr k n Q) : G E X pc ls (.ref a :: st) T gi gr k n Q := by
  obtain ⟨hd, rfl⟩ := hd
  subst hs
  intro p e s m args below meth c Z hc hr H locs lsA hl hw hf
  exact lv_astore_n hc.1 hc.2.1 hd rfl hl hi rfl (fun lsB hB => kk p e s m args below meth c Z hc hr H locs lsB (gL_set hB) hw hf)
theorem G_astore {i : Nat} {a : Nat} {ls' : List Value} (hd : gD X pc (.astore i) 2 pc') (hi : i < X.2.2.1) (hs : ls.set i (.ref a) = ls') (kk : G E X pc' ls' st T gi gr k n Q) : G E X pc ls (.ref a :: st) T gi gr k n Q := by
  obtain ⟨hd, rfl⟩ := hd
  subst hs
  intro p e s m args below meth c Z hc hr H locs lsA hl hw hf
  exact lv_astore hc.1 hc.2.1 hd hl hi rfl (fun lsB hB => kk p e s m args below meth c Z hc hr H locs lsB (gL_set hB) hw hf)
theorem G_astore_nN {i : Fin 4} {ls' : List Value} (hd : gD X pc (.astore_n i) 1 pc') (hi : (i : Nat) < X.2.2.1) (hs : ls.set (i : Nat) (.null) = ls') (kk : G E X pc' ls' st T gi gr k n Q) : G E X pc ls (.null :: st) T gi gr k n Q := by
  obtain ⟨hd, rfl⟩ := hd
  subst hs
  intro p e s m args below meth c Z hc hr H locs lsA hl hw hf
  exact lv_astore_nN hc.1 hc.2.1 hd rfl hl hi rfl (fun lsB hB => kk p e s m args below meth c Z hc hr H locs lsB (gL_set hB) hw hf)
theorem G_astoreN {i : Nat} {ls' : List Value} (hd : gD X pc (.astore i) 2 pc') (hi : i < X.2.2.1) (hs : ls.set i (.null) = ls') (kk : G E X pc' ls' st T gi gr k n Q) : G E X pc ls (.null :: st) T gi gr k n Q := by
  obtain ⟨hd, rfl⟩ := hd
  subst hs
  intro p e s m args below meth c Z hc hr H locs lsA hl hw hf
  exact lv_astoreN hc.1 hc.2.1 hd hl hi rfl (fun lsB hB => kk p e s m args below meth c Z hc hr H locs lsB (gL_set hB) hw hf)
theorem G_astore_nq {i : Fin 4} {r : Option Nat} {ls' : List Value} (hd : gD X pc (.astore_n i) 1 pc') (hi : (i : Nat) < X.2.2.1) (hs : ls.set (i : Nat) (va_rf r) = ls') (kk : G E X pc' ls' st T gi gr k n Q) : G E X pc ls (va_rf r :: st) T gi gr k n Q := by
  cases r with
  | none => exact G_astore_nN hd hi hs kk
  | some a => exact G_astore_n hd hi hs kk
theorem G_astoreq {i : Nat} {r : Option Nat} {ls' : List Value} (hd : gD X pc (.astore i) 2 pc') (hi : i < X.2.2.1) (hs : ls.set i (va_rf r) = ls') (kk : G E X pc' ls' st T gi gr k n Q) : G E X pc ls (va_rf r :: st) T gi gr k n Q := by
  cases r with
  | none => exact G_astoreN hd hi hs kk
  | some a => exact G_astore hd hi hs kk
theorem G_iinc {i : Nat} {z : Int} {x v : Int32} {ls' : List Value} (hd : gD X pc (.iinc i z) 3 pc') (hx : ls[i]? = some (.int x)) (hv : x + Int32.ofInt z = v) (hi : i < X.2.2.1) (hs : ls.set i (.int v) = ls') (kk : G E X pc' ls' st T gi gr k n Q) : G E X pc ls st T gi gr k n Q := by
  obtain ⟨hd, rfl⟩ := hd
  subst hs
  intro p e s m args below meth c Z hc hr H locs lsA hl hw hf
  obtain ⟨j, hj⟩ := List.getElem?_of_mem (gl_mem.mpr ⟨hx, (rfl : (Value.int x).category = 1)⟩)
  exact lv_iinc hc.1 hc.2.1 hd hl hj hv hi rfl (fun lsB hB => kk p e s m args below meth c Z hc hr H locs lsB (gL_set hB) hw hf)
theorem G_iadd {x y : Int32} (hd : gD X pc (.iadd) 1 pc')  (kk : G E X pc' ls (.int (x + y) :: st) T gi gr k n Q) : G E X pc ls (.int y :: .int x :: st) T gi gr k n Q := by
  obtain ⟨hd, rfl⟩ := hd
  intro p e s m args below meth c Z hc hr H locs lsA hl hw hf
  exact lv_iadd hc.1 hc.2.1 hd (kk p e s m args below meth c Z hc hr H locs lsA hl hw hf)
theorem G_isub {x y : Int32} (hd : gD X pc (.isub) 1 pc')  (kk : G E X pc' ls (.int (x - y) :: st) T gi gr k n Q) : G E X pc ls (.int y :: .int x :: st) T gi gr k n Q := by
  obtain ⟨hd, rfl⟩ := hd
  intro p e s m args below meth c Z hc hr H locs lsA hl hw hf
  exact lv_isub hc.1 hc.2.1 hd (kk p e s m args below meth c Z hc hr H locs lsA hl hw hf)
theorem G_imul {x y : Int32} (hd : gD X pc (.imul) 1 pc')  (kk : G E X pc' ls (.int (x * y) :: st) T gi gr k n Q) : G E X pc ls (.int y :: .int x :: st) T gi gr k n Q := by
  obtain ⟨hd, rfl⟩ := hd
  intro p e s m args below meth c Z hc hr H locs lsA hl hw hf
  exact lv_imul hc.1 hc.2.1 hd (kk p e s m args below meth c Z hc hr H locs lsA hl hw hf)
theorem G_iand {x y : Int32} (hd : gD X pc (.iand) 1 pc')  (kk : G E X pc' ls (.int (x &&& y) :: st) T gi gr k n Q) : G E X pc ls (.int y :: .int x :: st) T gi gr k n Q := by
  obtain ⟨hd, rfl⟩ := hd
  intro p e s m args below meth c Z hc hr H locs lsA hl hw hf
  exact lv_iand hc.1 hc.2.1 hd (kk p e s m args below meth c Z hc hr H locs lsA hl hw hf)
theorem G_ixor {x y : Int32} (hd : gD X pc (.ixor) 1 pc')  (kk : G E X pc' ls (.int (x ^^^ y) :: st) T gi gr k n Q) : G E X pc ls (.int y :: .int x :: st) T gi gr k n Q := by
  obtain ⟨hd, rfl⟩ := hd
  intro p e s m args below meth c Z hc hr H locs lsA hl hw hf
  exact lv_ixor hc.1 hc.2.1 hd (kk p e s m args below meth c Z hc hr H locs lsA hl hw hf)
theorem G_idiv {x y : Int32} (hd : gD X pc (.idiv) 1 pc') (hne : ¬ y = 0) (kk : G E X pc' ls (.int (x / y) :: st) T gi gr k n Q) : G E X pc ls (.int y :: .int x :: st) T gi gr k n Q := by
  obtain ⟨hd, rfl⟩ := hd
  intro p e s m args below meth c Z hc hr H locs lsA hl hw hf
  exact lv_idiv hc.1 hc.2.1 hd hne (kk p e s m args below meth c Z hc hr H locs lsA hl hw hf)
theorem G_irem {x y : Int32} (hd : gD X pc (.irem) 1 pc') (hne : ¬ y = 0) (kk : G E X pc' ls (.int (x - x / y * y) :: st) T gi gr k n Q) : G E X pc ls (.int y :: .int x :: st) T gi gr k n Q := by
  obtain ⟨hd, rfl⟩ := hd
  intro p e s m args below meth c Z hc hr H locs lsA hl hw hf
  exact lv_irem hc.1 hc.2.1 hd hne (kk p e s m args below meth c Z hc hr H locs lsA hl hw hf)
theorem G_ineg {x : Int32} (hd : gD X pc (.ineg) 1 pc')  (kk : G E X pc' ls (.int (-x) :: st) T gi gr k n Q) : G E X pc ls (.int x :: st) T gi gr k n Q := by
  obtain ⟨hd, rfl⟩ := hd
  intro p e s m args below meth c Z hc hr H locs lsA hl hw hf
  exact lv_ineg hc.1 hc.2.1 hd (kk p e s m args below meth c Z hc hr H locs lsA hl hw hf)
theorem G_dup {v : Value} (hd : gD X pc (.dup) 1 pc') (hv : v.category = 1) (kk : G E X pc' ls (v :: v :: st) T gi gr k n Q) : G E X pc ls (v :: st) T gi gr k n Q := by
  obtain ⟨hd, rfl⟩ := hd
  intro p e s m args below meth c Z hc hr H locs lsA hl hw hf
  exact lv_dup hc.1 hc.2.1 hd hv (kk p e s m args below meth c Z hc hr H locs lsA hl hw hf)
theorem G_pop {v : Value} (hd : gD X pc (.pop) 1 pc') (hv : v.category = 1) (kk : G E X pc' ls (st) T gi gr k n Q) : G E X pc ls (v :: st) T gi gr k n Q := by
  obtain ⟨hd, rfl⟩ := hd
  intro p e s m args below meth c Z hc hr H locs lsA hl hw hf
  exact lv_pop hc.1 hc.2.1 hd hv (kk p e s m args below meth c Z hc hr H locs lsA hl hw hf)
theorem G_dup2 {v u : Value} (hd : gD X pc (.dup2) 1 pc') (hv : v.category = 1) (hu : u.category = 1) (kk : G E X pc' ls (v :: u :: v :: u :: st) T gi gr k n Q) : G E X pc ls (v :: u :: st) T gi gr k n Q := by
  obtain ⟨hd, rfl⟩ := hd
  intro p e s m args below meth c Z hc hr H locs lsA hl hw hf
  exact lv_dup2_11 hc.1 hc.2.1 hd hv hu (kk p e s m args below meth c Z hc hr H locs lsA hl hw hf)
theorem G_null  (hd : gD X pc (.aconst_null) 1 pc')  (kk : G E X pc' ls (.null :: st) T gi gr k n Q) : G E X pc ls (st) T gi gr k n Q := by
  obtain ⟨hd, rfl⟩ := hd
  intro p e s m args below meth c Z hc hr H locs lsA hl hw hf
  exact lv_null hc.1 hc.2.1 hd (kk p e s m args below meth c Z hc hr H locs lsA hl hw hf)
theorem G_icmp_eq {x y : Int32} {off : Int} {tgt : Nat} (hd : gB X pc (.if_icmp .eq off) off tgt pc') (kt : x = y → G E X tgt ls st T gi gr k n Q) (kf : ¬ x = y → G E X pc' ls st T gi gr k n Q) : G E X pc ls (.int y :: .int x :: st) T gi gr k n Q := by
  obtain ⟨hd, ht, rfl⟩ := hd
  intro p e s m args below meth c Z hc hr H locs lsA hl hw hf
  exact lv_icmp_eq hc.1 hc.2.1 hd ht (fun h => kt h p e s m args below meth c Z hc hr H locs lsA hl hw hf) (fun h => kf h p e s m args below meth c Z hc hr H locs lsA hl hw hf)
theorem G_if_eq {x : Int32} {off : Int} {tgt : Nat} (hd : gB X pc (.ifCond .eq off) off tgt pc') (kt : x = 0 → G E X tgt ls st T gi gr k n Q) (kf : ¬ x = 0 → G E X pc' ls st T gi gr k n Q) : G E X pc ls (.int x :: st) T gi gr k n Q := by
  obtain ⟨hd, ht, rfl⟩ := hd
  intro p e s m args below meth c Z hc hr H locs lsA hl hw hf
  exact lv_if_eq hc.1 hc.2.1 hd ht (fun h => kt h p e s m args below meth c Z hc hr H locs lsA hl hw hf) (fun h => kf h p e s m args below meth c Z hc hr H locs lsA hl hw hf)
theorem G_icmp_ne {x y : Int32} {off : Int} {tgt : Nat} (hd : gB X pc (.if_icmp .ne off) off tgt pc') (kt : ¬ x = y → G E X tgt ls st T gi gr k n Q) (kf : x = y → G E X pc' ls st T gi gr k n Q) : G E X pc ls (.int y :: .int x :: st) T gi gr k n Q := by
  obtain ⟨hd, ht, rfl⟩ := hd
  intro p e s m args below meth c Z hc hr H locs lsA hl hw hf
  exact lv_icmp_ne hc.1 hc.2.1 hd ht (fun h => kt h p e s m args below meth c Z hc hr H locs lsA hl hw hf) (fun h => kf h p e s m args below meth c Z hc hr H locs lsA hl hw hf)
theorem G_if_ne {x : Int32} {off : Int} {tgt : Nat} (hd : gB X pc (.ifCond .ne off) off tgt pc') (kt : ¬ x = 0 → G E X tgt ls st T gi gr k n Q) (kf : x = 0 → G E X pc' ls st T gi gr k n Q) : G E X pc ls (.int x :: st) T gi gr k n Q := by
  obtain ⟨hd, ht, rfl⟩ := hd
  intro p e s m args below meth c Z hc hr H locs lsA hl hw hf
  exact lv_if_ne hc.1 hc.2.1 hd ht (fun h => kt h p e s m args below meth c Z hc hr H locs lsA hl hw hf) (fun h => kf h p e s m args below meth c Z hc hr H locs lsA hl hw hf)
theorem G_icmp_lt {x y : Int32} {off : Int} {tgt : Nat} (hd : gB X pc (.if_icmp .lt off) off tgt pc') (kt : x < y → G E X tgt ls st T gi gr k n Q) (kf : ¬ x < y → G E X pc' ls st T gi gr k n Q) : G E X pc ls (.int y :: .int x :: st) T gi gr k n Q := by
  obtain ⟨hd, ht, rfl⟩ := hd
  intro p e s m args below meth c Z hc hr H locs lsA hl hw hf
  exact lv_icmp_lt hc.1 hc.2.1 hd ht (fun h => kt h p e s m args below meth c Z hc hr H locs lsA hl hw hf) (fun h => kf h p e s m args below meth c Z hc hr H locs lsA hl hw hf)
theorem G_if_lt {x : Int32} {off : Int} {tgt : Nat} (hd : gB X pc (.ifCond .lt off) off tgt pc') (kt : x < 0 → G E X tgt ls st T gi gr k n Q) (kf : ¬ x < 0 → G E X pc' ls st T gi gr k n Q) : G E X pc ls (.int x :: st) T gi gr k n Q := by
  obtain ⟨hd, ht, rfl⟩ := hd
  intro p e s m args below meth c Z hc hr H locs lsA hl hw hf
  exact lv_if_lt hc.1 hc.2.1 hd ht (fun h => kt h p e s m args below meth c Z hc hr H locs lsA hl hw hf) (fun h => kf h p e s m args below meth c Z hc hr H locs lsA hl hw hf)
theorem G_icmp_ge {x y : Int32} {off : Int} {tgt : Nat} (hd : gB X pc (.if_icmp .ge off) off tgt pc') (kt : y ≤ x → G E X tgt ls st T gi gr k n Q) (kf : ¬ y ≤ x → G E X pc' ls st T gi gr k n Q) : G E X pc ls (.int y :: .int x :: st) T gi gr k n Q := by
  obtain ⟨hd, ht, rfl⟩ := hd
  intro p e s m args below meth c Z hc hr H locs lsA hl hw hf
  exact lv_icmp_ge hc.1 hc.2.1 hd ht (fun h => kt h p e s m args below meth c Z hc hr H locs lsA hl hw hf) (fun h => kf h p e s m args below meth c Z hc hr H locs lsA hl hw hf)
theorem G_if_ge {x : Int32} {off : Int} {tgt : Nat} (hd : gB X pc (.ifCond .ge off) off tgt pc') (kt : 0 ≤ x → G E X tgt ls st T gi gr k n Q) (kf : ¬ 0 ≤ x → G E X pc' ls st T gi gr k n Q) : G E X pc ls (.int x :: st) T gi gr k n Q := by
  obtain ⟨hd, ht, rfl⟩ := hd
  intro p e s m args below meth c Z hc hr H locs lsA hl hw hf
  exact lv_if_ge hc.1 hc.2.1 hd ht (fun h => kt h p e s m args below meth c Z hc hr H locs lsA hl hw hf) (fun h => kf h p e s m args below meth c Z hc hr H locs lsA hl hw hf)
theorem G_icmp_gt {x y : Int32} {off : Int} {tgt : Nat} (hd : gB X pc (.if_icmp .gt off) off tgt pc') (kt : y < x → G E X tgt ls st T gi gr k n Q) (kf : ¬ y < x → G E X pc' ls st T gi gr k n Q) : G E X pc ls (.int y :: .int x :: st) T gi gr k n Q := by
  obtain ⟨hd, ht, rfl⟩ := hd
  intro p e s m args below meth c Z hc hr H locs lsA hl hw hf
  exact lv_icmp_gt hc.1 hc.2.1 hd ht (fun h => kt h p e s m args below meth c Z hc hr H locs lsA hl hw hf) (fun h => kf h p e s m args below meth c Z hc hr H locs lsA hl hw hf)
theorem G_if_gt {x : Int32} {off : Int} {tgt : Nat} (hd : gB X pc (.ifCond .gt off) off tgt pc') (kt : 0 < x → G E X tgt ls st T gi gr k n Q) (kf : ¬ 0 < x → G E X pc' ls st T gi gr k n Q) : G E X pc ls (.int x :: st) T gi gr k n Q := by
  obtain ⟨hd, ht, rfl⟩ := hd
  intro p e s m args below meth c Z hc hr H locs lsA hl hw hf
  exact lv_if_gt hc.1 hc.2.1 hd ht (fun h => kt h p e s m args below meth c Z hc hr H locs lsA hl hw hf) (fun h => kf h p e s m args below meth c Z hc hr H locs lsA hl hw hf)
theorem G_icmp_le {x y : Int32} {off : Int} {tgt : Nat} (hd : gB X pc (.if_icmp .le off) off tgt pc') (kt : x ≤ y → G E X tgt ls st T gi gr k n Q) (kf : ¬ x ≤ y → G E X pc' ls st T gi gr k n Q) : G E X pc ls (.int y :: .int x :: st) T gi gr k n Q := by
  obtain ⟨hd, ht, rfl⟩ := hd
  intro p e s m args below meth c Z hc hr H locs lsA hl hw hf
  exact lv_icmp_le hc.1 hc.2.1 hd ht (fun h => kt h p e s m args below meth c Z hc hr H locs lsA hl hw hf) (fun h => kf h p e s m args below meth c Z hc hr H locs lsA hl hw hf)
theorem G_if_le {x : Int32} {off : Int} {tgt : Nat} (hd : gB X pc (.ifCond .le off) off tgt pc') (kt : x ≤ 0 → G E X tgt ls st T gi gr k n Q) (kf : ¬ x ≤ 0 → G E X pc' ls st T gi gr k n Q) : G E X pc ls (.int x :: st) T gi gr k n Q := by
  obtain ⟨hd, ht, rfl⟩ := hd
  intro p e s m args below meth c Z hc hr H locs lsA hl hw hf
  exact lv_if_le hc.1 hc.2.1 hd ht (fun h => kt h p e s m args below meth c Z hc hr H locs lsA hl hw hf) (fun h => kf h p e s m args below meth c Z hc hr H locs lsA hl hw hf)
theorem G_acmp_eq {rx ry : Option Nat} {vx vy : Value} {off : Int} {tgt : Nat} (ex : vx = va_rf rx) (ey : vy = va_rf ry) (hd : gB X pc (.if_acmp .eq off) off tgt pc') (kt : rx = ry → G E X tgt ls st T gi gr k n Q) (kf : ¬ rx = ry → G E X pc' ls st T gi gr k n Q) : G E X pc ls (vy :: vx :: st) T gi gr k n Q := by
  obtain ⟨hd, ht, rfl⟩ := hd
  subst ex
  subst ey
  intro p e s m args below meth c Z hc hr H locs lsA hl hw hf
  exact lv_acmp_eq hc.1 hc.2.1 hd ht (fun h => kt h p e s m args below meth c Z hc hr H locs lsA hl hw hf) (fun h => kf h p e s m args below meth c Z hc hr H locs lsA hl hw hf)
theorem G_acmp_ne {rx ry : Option Nat} {vx vy : Value} {off : Int} {tgt : Nat} (ex : vx = va_rf rx) (ey : vy = va_rf ry) (hd : gB X pc (.if_acmp .ne off) off tgt pc') (kt : ¬ rx = ry → G E X tgt ls st T gi gr k n Q) (kf : rx = ry → G E X pc' ls st T gi gr k n Q) : G E X pc ls (vy :: vx :: st) T gi gr k n Q := by
  obtain ⟨hd, ht, rfl⟩ := hd
  subst ex
  subst ey
  intro p e s m args below meth c Z hc hr H locs lsA hl hw hf
  exact lv_acmp_ne hc.1 hc.2.1 hd ht (fun h => kt h p e s m args below meth c Z hc hr H locs lsA hl hw hf) (fun h => kf h p e s m args below meth c Z hc hr H locs lsA hl hw hf)
theorem G_goto {off : Int} {tgt : Nat} (hd : gB X pc (.goto off) off tgt pc') (kk : G E X tgt ls st T gi gr k n Q) : G E X pc ls st T gi gr k n Q := by
  obtain ⟨hd, ht, rfl⟩ := hd
  intro p e s m args below meth c Z hc hr H locs lsA hl hw hf
  exact lv_goto hc.1 hc.2.1 hd ht (kk p e s m args below meth c Z hc hr H locs lsA hl hw hf)
theorem G_ifnull {a : Nat} {off : Int} {tgt : Nat} (hd : gB X pc (.ifnull off) off tgt pc') (kk : G E X pc' ls st T gi gr k n Q) : G E X pc ls (.ref a :: st) T gi gr k n Q := by
  obtain ⟨hd, ht, rfl⟩ := hd
  intro p e s m args below meth c Z hc hr H locs lsA hl hw hf
  exact lv_ifnull hc.1 hc.2.1 hd (kk p e s m args below meth c Z hc hr H locs lsA hl hw hf)
theorem G_ifnonnull {a : Nat} {off : Int} {tgt : Nat} (hd : gB X pc (.ifnonnull off) off tgt pc') (kk : G E X tgt ls st T gi gr k n Q) : G E X pc ls (.ref a :: st) T gi gr k n Q := by
  obtain ⟨hd, ht, rfl⟩ := hd
  intro p e s m args below meth c Z hc hr H locs lsA hl hw hf
  exact lv_ifnonnull hc.1 hc.2.1 hd ht (kk p e s m args below meth c Z hc hr H locs lsA hl hw hf)
theorem G_ifnullN {off : Int} {tgt : Nat} (hd : gB X pc (.ifnull off) off tgt pc') (kk : G E X tgt ls st T gi gr k n Q) : G E X pc ls (.null :: st) T gi gr k n Q := by
  obtain ⟨hd, ht, rfl⟩ := hd
  intro p e s m args below meth c Z hc hr H locs lsA hl hw hf
  exact lv_ifnullN hc.1 hc.2.1 hd ht (kk p e s m args below meth c Z hc hr H locs lsA hl hw hf)
theorem G_ifnonnullN {off : Int} {tgt : Nat} (hd : gB X pc (.ifnonnull off) off tgt pc') (kk : G E X pc' ls st T gi gr k n Q) : G E X pc ls (.null :: st) T gi gr k n Q := by
  obtain ⟨hd, ht, rfl⟩ := hd
  intro p e s m args below meth c Z hc hr H locs lsA hl hw hf
  exact lv_ifnonnullN hc.1 hc.2.1 hd (kk p e s m args below meth c Z hc hr H locs lsA hl hw hf)
theorem G_ifnullq {r : Option Nat} {off : Int} {tgt : Nat} (hd : gB X pc (.ifnull off) off tgt pc') (kn : r = none → G E X tgt ls st T gi gr k n Q) (ks : ∀ a, r = some a → G E X pc' ls st T gi gr k n Q) : G E X pc ls (va_rf r :: st) T gi gr k n Q := by
  cases r with
  | none => exact G_ifnullN hd (kn rfl)
  | some a => exact G_ifnull hd (ks a rfl)
theorem G_ifnonnullq {r : Option Nat} {off : Int} {tgt : Nat} (hd : gB X pc (.ifnonnull off) off tgt pc') (kn : r = none → G E X pc' ls st T gi gr k n Q) (ks : ∀ a, r = some a → G E X tgt ls st T gi gr k n Q) : G E X pc ls (va_rf r :: st) T gi gr k n Q := by
  cases r with
  | none => exact G_ifnonnullN hd (kn rfl)
  | some a => exact G_ifnonnull hd (ks a rfl)
theorem G_tableOut {dflt lo hi : Int} {offs : Array Int} {len tgt : Nat} {x : Int32} (hd : decode X.2.1 pc = .ok (.tableswitch dflt lo hi offs, len)) (h : x.toInt < lo ∨ hi < x.toInt) (ht : (pc : Int) + dflt = (tgt : Int)) (kk : G E X tgt ls st T gi gr k n Q) : G E X pc ls (.int x :: st) T gi gr k n Q := by
  intro p e s m args below meth c Z hc hr H locs lsA hl hw hf
  exact lv_tableOut hc.1 hc.2.1 hd h ht (kk p e s m args below meth c Z hc hr H locs lsA hl hw hf)
theorem G_tableIn {dflt lo hi off : Int} {offs : Array Int} {len tgt : Nat} {x : Int32} (hd : decode X.2.1 pc = .ok (.tableswitch dflt lo hi offs, len)) (h1 : ¬ x.toInt < lo) (h2 : ¬ hi < x.toInt) (ho : offs[(x.toInt - lo).toNat]? = some off) (ht : (pc : Int) + off = (tgt : Int)) (kk : G E X tgt ls st T gi gr k n Q) : G E X pc ls (.int x :: st) T gi gr k n Q := by
  intro p e s m args below meth c Z hc hr H locs lsA hl hw hf
  exact lv_tableIn hc.1 hc.2.1 hd h1 h2 ho ht (kk p e s m args below meth c Z hc hr H locs lsA hl hw hf)
theorem G_ireturn {x : Int32} {ty : FieldType} (hd : decode X.2.1 pc = .ok (.ireturn, 1)) (hty : X.2.2.2.1 = some ty) (hn : narrow ty (.int x) = .int x) (hk : k ≤ X.2.2.2.2.cells) (hn2 : n ≤ X.2.2.2.2.slots) (hq : Q T gi gr (some (.int x))) : G E X pc ls [.int x] T gi gr k n Q := by
  intro p e s m args below meth c Z hc hr H locs lsA hl hw hf
  exact W.widen hk hn2 (hr T gi gr (some (.int x)) H locs lsA pc hq hw hf ⟨hd, ty, hty, hn⟩)
theorem G_return (hd : decode X.2.1 pc = .ok (.return_, 1)) (hty : X.2.2.2.1 = none) (hk : k ≤ X.2.2.2.2.cells) (hn2 : n ≤ X.2.2.2.2.slots) (hq : Q T gi gr none) : G E X pc ls [] T gi gr k n Q := by
  intro p e s m args below meth c Z hc hr H locs lsA hl hw hf
  exact W.widen hk hn2 (hr T gi gr none H locs lsA pc hq hw hf ⟨hd, hty⟩)
theorem G_areturn {r : Option Nat} {v : Value} {C : String} (hd : decode X.2.1 pc = .ok (.areturn, 1)) (hv : v = va_rf r) (hty : X.2.2.2.1 = some (.object C)) (hk : k ≤ X.2.2.2.2.cells) (hn2 : n ≤ X.2.2.2.2.slots) (hq : Q T gi gr (some (va_rf r))) : G E X pc ls [v] T gi gr k n Q := by
  subst hv
  intro p e s m args below meth c Z hc hr H locs lsA hl hw hf
  refine W.widen hk hn2 (hr T gi gr (some (va_rf r)) H locs lsA pc hq hw hf ?_)
  cases r with
  | none => exact ⟨hd, Or.inl rfl, C, hty⟩
  | some a => exact ⟨hd, Or.inr ⟨a, rfl⟩, C, hty⟩
end GR
end
section
def gu {α : Type} (f : Nat → Nat → α) (a k : Nat) (x : α) : Nat → Nat → α := fun q j => if q = a ∧ j = k then x else f q j
def gup {α : Type} (f : Nat → α) (a : Nat) (x : α) : Nat → α := fun q => if q = a then x else f q
def gNew (T : gT) (tag len : Nat) : gT := (gup T.1 T.2.2 tag, gup T.2.1 T.2.2 len, T.2.2 + 1)
theorem gu_off {α : Type} {f : Nat → Nat → α} {a k : Nat} {x : α} {q : Nat} (h : q ≠ a) : gu f a k x q = f q := by
  funext j
  simp [gu, h]
theorem gu_row {α : Type} {f : Nat → Nat → α} {a k : Nat} {x : α} (j : Nat) : gu f a k x a j = if j = k then x else f a j := by
  simp [gu]
theorem gu_same {α : Type} {f : Nat → Nat → α} {a k : Nat} {x : α} : gu f a k x a k = x := by simp [gu]
theorem gu_ne {α : Type} {f : Nat → Nat → α} {a k : Nat} {x : α} {q j : Nat} (h : q ≠ a ∨ j ≠ k) : gu f a k x q j = f q j := by
  unfold gu
  rw [if_neg]
  rintro ⟨h1, h2⟩
  rcases h with h | h
  · exact h h1
  · exact h h2
theorem gup_same {α : Type} {f : Nat → α} {a : Nat} {x : α} : gup f a x a = x := by simp [gup]
theorem gup_ne {α : Type} {f : Nat → α} {a : Nat} {x : α} {q : Nat} (h : q ≠ a) : gup f a x q = f q := by simp [gup, h]
theorem vwCl_lt {ci : Nat} {r : vw_C} (h : vwCl[ci]? = some r) : ci < 99 := Nat.lt_of_lt_of_le (List.getElem?_eq_some_iff.mp h).1 (by decide)
theorem gMem_fld {E : gE} {T : gT} {gi gi' : gI} {gr gr' : gR} {H H1 : Heap} {a ci : Nat} {r : vw_C} {cell1 : Cell} (hM : gMem E T gi gr H) (ht : T.1 a = ci + 1) (hcl : vwCl[ci]? = some r) (hoff : ∀ q, q ≠ a → gi' q = gi q ∧ gr' q = gr q) (h1 : H1[a]? = some cell1) (hz : H1.size = H.size) (ho : ∀ q, q ≠ a → H1[q]? = H[q]?)
    (hnew : cell1.cls = E.2.1.1 ci ∧ cell1.vm = .none ∧ ∀ k, k < r.2.2 → cell1.slots[E.2.1.2 ci k]? = some (gfv r.2.1 k (gi' a) (gr' a))) : gMem E T gi' gr' H1 := by
  refine ⟨hz.trans hM.1, hM.2.1, fun q hq => ?_⟩
  by_cases hqa : q = a
  · subst hqa
    refine ⟨(hM.2.2 q hq).1, cell1, h1, fun ci' r' e1 e2 => ?_, fun t e1 => ?_⟩
    · have : ci' = ci := by omega
      subst this
      rw [hcl] at e2
      cases e2
      exact hnew
    · have := vwCl_lt hcl
      omega
  · obtain ⟨hb, cell, hcell, hat⟩ := hM.2.2 q hq
    refine ⟨hb, cell, (ho q hqa).trans hcell, ?_⟩
    rw [(hoff q hqa).1, (hoff q hqa).2]
    exact hat
theorem gMem_arr {E : gE} {T : gT} {gi gi' : gI} {gr gr' : gR} {H H1 : Heap} {a t : Nat} (hM : gMem E T gi gr H) (ht : T.1 a = 100 + t) (hoff : ∀ q, q ≠ a → gi' q = gi q ∧ gr' q = gr q) (h1 : H1[a]? = some (arrV (E.2.2.1 t) (T.2.1 a) (gav t (gi' a) (gr' a)))) (hz : H1.size = H.size) (ho : ∀ q, q ≠ a → H1[q]? = H[q]?) : gMem E T gi' gr' H1 := by
  refine ⟨hz.trans hM.1, hM.2.1, fun q hq => ?_⟩
  by_cases hqa : q = a
  · subst hqa
    refine ⟨(hM.2.2 q hq).1, _, h1, fun ci' r' e1 e2 => ?_, fun t' e1 => ?_⟩
    · have := vwCl_lt e2
      omega
    · have : t' = t := by omega
      subst this
      rfl
  · obtain ⟨hb, cell, hcell, hat⟩ := hM.2.2 q hq
    refine ⟨hb, cell, (ho q hqa).trans hcell, ?_⟩
    rw [(hoff q hqa).1, (hoff q hqa).2]
    exact hat
theorem gMem_new {E : gE} {T : gT} {gi : gI} {gr : gR} {H H1 : Heap} {tag len : Nat} {cell1 : Cell} (hM : gMem E T gi gr H) (h1 : H1[H.size]? = some cell1) (hz : H1.size = H.size + 1) (ho : ∀ q, q < H.size → H1[q]? = H[q]?) (hnew : gAt E tag len (fun _ => 0) (fun _ => none) cell1) :
    gMem E (gNew T tag len) (gup gi T.2.2 (fun _ => 0)) (gup gr T.2.2 (fun _ => none)) H1 := by
  obtain ⟨m1, m2, m3⟩ := hM
  refine ⟨by rw [hz, m1]; rfl, Nat.le_succ_of_le m2, fun q hq => ?_⟩
  by_cases hqa : q = T.2.2
  · subst hqa
    refine ⟨m2, cell1, by rw [← m1]; exact h1, ?_⟩
    simp only [gNew, gup_same]
    exact hnew
  · simp only [gNew, gup_ne hqa] at hq ⊢
    obtain ⟨hb, cell, hcell, hat⟩ := m3 q hq
    exact ⟨hb, cell, (ho q (Array.getElem?_eq_some_iff.mp hcell).1).trans hcell, hat⟩
theorem gW_to {E : gE} {T T' : gT} {gi gi' : gI} {gr gr' : gR} {U : State} {H H1 : Heap} (hw : gW E T gi gr U H) (hM : gMem E T' gi' gr' H1) (hb : H1[E.2.2.2.1]? = H[E.2.2.2.1]?) : gW E T' gi' gr' U H1 := ⟨hM, hw.2.1.kept hb, hw.2.2⟩
theorem gLocs {E : gE} {locs : List Loc} {a j : Nat} (hf : ∀ q ∈ locs, gbase E ≤ q.base) (ha : gbase E ≤ a) : ∀ q ∈ locs ++ [(⟨a, j⟩ : Loc)], gbase E ≤ q.base := by
  intro q hq
  rcases List.mem_append.mp hq with h | h
  · exact hf q h
  · rw [List.mem_singleton.mp h]; exact ha
def gCls (ci : Nat) (C : String) (Tb : u_T) (N : Nat) (ty : Nat → FieldType) : Prop :=
  vwCl[ci]? = some (C, Tb, N) ∧ (∀ w ∈ u_ws C Tb N, w ∈ gTbl) ∧ (∀ k, k < N → parseFieldDescriptor (Tb k).2.2.1 = some (ty k)) ∧ (∀ a, a < N → ∀ b, b < N → a ≠ b → (Tb a).2.1 ≠ (Tb b).2.1)
def gFld (own : String) (idx ci k : Nat) (rf : Bool) : Prop := ∃ (C : String) (Tb : u_T) (N : Nat) (ty : Nat → FieldType), gCls ci C Tb N ty ∧ k < N ∧ gFR (Tb k).2.2.1 = rf ∧ Cond.fieldLink own idx (Tb k).1 (Tb k).2.1 (Tb k).2.2.1 ∈ gTbl
def gFldW (own : String) (idx ci k : Nat) (fin rf : Bool) (t : FieldType) : Prop := ∃ (C : String) (Tb : u_T) (N : Nat) (ty : Nat → FieldType), gCls ci C Tb N ty ∧ k < N ∧ gFR (Tb k).2.2.1 = rf ∧ Cond.fieldLink own idx (Tb k).1 (Tb k).2.1 (Tb k).2.2.1 ∈ gTbl ∧ ty k = t ∧ (Tb k).2.2.2 = fin ∧ (fin = true → (Tb k).1 = own)
section GF
variable {E : gE} {X : gX} {pc pc' : Nat} {ls st : List Value} {T : gT} {gi : gI} {gr : gR} {k n : Nat} {Q : gQ}
theorem G_getV {idx ci fk a : Nat} {rf : Bool} (f : gFld X.1.cls idx ci fk rf) (hd : gD X pc (.getfield idx) 3 pc') (ht : T.1 a = ci + 1) (kk : G E X pc' ls ((if rf = true then va_rf (gr a fk) else .int (gi a fk)) :: st) T gi gr k n Q) : G E X pc ls (.ref a :: st) T gi gr k n Q := by
  obtain ⟨C, Tb, N, ty, ⟨hcl, hin, hty, hnm⟩, hk, hrf, hlk⟩ := f
  obtain ⟨hd, rfl⟩ := hd
  intro p e s m args below meth c Z hc hr H locs lsA hl hw hf
  obtain ⟨hb0, cell, hcell, hat⟩ := hw.1.2.2 a (by rw [ht]; exact Nat.succ_ne_zero _)
  obtain ⟨q2, q3, q4⟩ := hat.1 ci _ ht hcl
  obtain ⟨hS, hfc, kC, hkC, hkind⟩ := hc.2.2.2.2.2.2.2.2.1.1 ci _ hcl
  obtain ⟨cf, kf, fi, f, hi, hsl⟩ := hS fk hk
  refine W.getf hc.1 hc.2.1 hc.2.2.2.2.2.1 (hc.2.2.2.2.2.2.1 _ hlk) hi (u_facts hfc hkC (u_lays hc.2.2.2.2.2.2.1 hin hk) hi).1 hcell (by rw [q3]; exact fun h => by cases h) ?_ rfl rfl hd (kk p e s m args below meth c Z hc hr H locs lsA hl hw hf)
  rw [hsl, q4 fk hk]
  simp only [gfv, hrf]
theorem G_getI {idx ci fk a : Nat} (f : gFld X.1.cls idx ci fk false) (hd : gD X pc (.getfield idx) 3 pc') (ht : T.1 a = ci + 1) (kk : G E X pc' ls (.int (gi a fk) :: st) T gi gr k n Q) : G E X pc ls (.ref a :: st) T gi gr k n Q := G_getV f hd ht kk
theorem G_getR {idx ci fk a : Nat} (f : gFld X.1.cls idx ci fk true) (hd : gD X pc (.getfield idx) 3 pc') (ht : T.1 a = ci + 1) (kk : G E X pc' ls (va_rf (gr a fk) :: st) T gi gr k n Q) : G E X pc ls (.ref a :: st) T gi gr k n Q := G_getV f hd ht kk
theorem G_getRs {idx ci fk a q : Nat} (f : gFld X.1.cls idx ci fk true) (hd : gD X pc (.getfield idx) 3 pc') (ht : T.1 a = ci + 1) (hq : gr a fk = some q) (kk : G E X pc' ls (.ref q :: st) T gi gr k n Q) : G E X pc ls (.ref a :: st) T gi gr k n Q := G_getR f hd ht (by rw [hq]; exact kk)
theorem G_putV {idx ci fk a : Nat} {fin rf : Bool} {t : FieldType} {v : Value} {gi' : gI} {gr' : gR} (f : gFldW X.1.cls idx ci fk fin rf t) (hfin : fin = false ∨ X.1.name = "<init>") (hd : gD X pc (.putfield idx) 3 pc') (ht : T.1 a = ci + 1) (hn : narrow t v = v) (hfit : fits t v = true) (hoff : ∀ q, q ≠ a → gi' q = gi q ∧ gr' q = gr q)
    (hval : ∀ (Tb : u_T) (j : Nat), (j = fk → gFR (Tb fk).2.2.1 = rf) → gfv Tb j (gi' a) (gr' a) = if j = fk then v else gfv Tb j (gi a) (gr a)) (kk : G E X pc' ls st T gi' gr' k n Q) : G E X pc ls (v :: .ref a :: st) T gi gr k n Q := by
  obtain ⟨C, Tb, N, ty, ⟨hcl, hin, hty, hnm⟩, hk, hrf, hlk, hte, hfe, hdecl⟩ := f
  obtain ⟨hd, rfl⟩ := hd
  intro p e s m args below meth c Z hc hr H locs lsA hl hw hf
  have hts := hc.2.2.2.2.2.2.1
  have hown := hc.2.2.2.2.2.1
  have hK := hc.2.2.2.2.2.2.2.2.1
  obtain ⟨hb0, cell, hcell, hat⟩ := hw.1.2.2 a (by rw [ht]; exact Nat.succ_ne_zero _)
  obtain ⟨q2, q3, q4⟩ := hat.1 ci _ ht hcl
  have hap := va_apart (own := X.1.cls) hts hin ty hty hnm hK hcl
  obtain ⟨hS, hfc, kC, hkC, hkind⟩ := hK.1 ci _ hcl
  obtain ⟨cf, kf, fi, f, hi, hsl⟩ := hS fk hk
  have hst := (u_facts hfc hkC (u_lays hts hin hk) hi).1
  have hd2 : parseFieldDescriptor (Tb fk).2.2.1 = some t := by rw [← hte]; exact hty fk hk
  have go : ∀ H' : Heap, H'[a]? = some (cell.setSlot f.slot v) → H'.size = H.size → (∀ q, q ≠ a → H'[q]? = H[q]?) → W p E.1 e X.2.2.2.2 s m args below meth c H' (locs ++ [⟨a, f.slot⟩]) k n Z (F0 m (pc + 3) lsA st) := by
    intro H' e1 e2 e3
    refine kk p e s m args below meth c Z hc hr H' _ lsA hl (gW_to hw (gMem_fld hw.1 ht hcl hoff e1 e2 e3 ⟨q2, q3, fun j hj => ?_⟩) (e3 _ (fun z => by have := hw.2.2; omega))) (gLocs hf hb0)
    rw [hsl, t_set q4 hap hk v j hj]
    simp only [updV]
    rw [hval Tb j (fun _ => hrf)]
  have hlay := hts _ (hin _ (u_in_lay hk))
  unfold u_lay at hlay
  cases fin with
  | false =>
    rw [if_neg (by rw [hfe]; decide)] at hlay
    exact W.putK hc.1 hc.2.1 (f := f) ⟨hown, hts _ hlk, ⟨_, _, _, hi⟩, hst⟩ (by rw [q2]; exact u_store hfc hkC hkind hlay hi hd2 hn hfit) hcell q3 (by rw [hsl]; exact k2_hasslot (q4 fk hk)) rfl rfl hd go
  | true =>
    rw [if_pos hfe] at hlay
    have hcf : m.cls = cf := by
      obtain ⟨_, _, c', _, _, _, -, -, hf', -, -, -, hown2, -⟩ := Cond.laysFinal_spec hlay
      have e1 : c' = cf := by have := hi.symm.trans hf'; simp at this; exact this.1.symm
      rw [hdecl rfl] at hown2
      rw [← e1]; exact Option.some.inj (hown.symm.trans hown2)
    exact W.putFinK hc.1 hc.2.1 hown (hts _ hlk) hi hst hcf (by rw [hc.2.2.2.2.2.2.2.1]; rcases hfin with h | h; cases h; exact h) (by rw [q2]; exact u_fits hfc hkC hkind (Or.inr hlay) hi hd2 hn hfit) hcell q3 (by rw [hsl]; exact k2_hasslot (q4 fk hk)) rfl rfl hd go
theorem gfv_I {Tb : u_T} {fi : gI} {fr : gR} {a fk j : Nat} {x : Int32} (h : j = fk → gFR (Tb fk).2.2.1 = false) : gfv Tb j (gu fi a fk x a) (fr a) = if j = fk then .int x else gfv Tb j (fi a) (fr a) := by
  by_cases hj : j = fk
  · subst hj
    rw [if_pos rfl]
    simp [gfv, h rfl, gu]
  · rw [if_neg hj]
    simp [gfv, gu, hj]
theorem gfv_R {Tb : u_T} {fi : gI} {fr : gR} {a fk j : Nat} {x : Option Nat} (h : j = fk → gFR (Tb fk).2.2.1 = true) : gfv Tb j (fi a) (gu fr a fk x a) = if j = fk then va_rf x else gfv Tb j (fi a) (fr a) := by
  by_cases hj : j = fk
  · subst hj
    rw [if_pos rfl]
    simp [gfv, h rfl, gu]
  · rw [if_neg hj]
    simp [gfv, gu, hj]
theorem G_putI {idx ci fk a : Nat} {fin : Bool} {t : FieldType} {x : Int32} (f : gFldW X.1.cls idx ci fk fin false t) (hfin : fin = false ∨ X.1.name = "<init>") (hd : gD X pc (.putfield idx) 3 pc') (ht : T.1 a = ci + 1) (hn : narrow t (.int x) = .int x) (hfit : fits t (.int x) = true) (kk : G E X pc' ls st T (gu gi a fk x) gr k n Q) : G E X pc ls (.int x :: .ref a :: st) T gi gr k n Q :=
  G_putV (gi' := gu gi a fk x) (gr' := gr) f hfin hd ht hn hfit (fun q hq => ⟨gu_off hq, rfl⟩) (fun Tb j h => gfv_I h) kk
theorem G_putR {idx ci fk a : Nat} {fin : Bool} {t : FieldType} {v : Value} {r : Option Nat} (hv : v = va_rf r) (f : gFldW X.1.cls idx ci fk fin true t) (hfin : fin = false ∨ X.1.name = "<init>") (hd : gD X pc (.putfield idx) 3 pc') (ht : T.1 a = ci + 1) (hn : ∀ q, narrow t (va_rf q) = va_rf q) (hfit : ∀ q, fits t (va_rf q) = true) (kk : G E X pc' ls st T gi (gu gr a fk r) k n Q) : G E X pc ls (v :: .ref a :: st) T gi gr k n Q := by
  subst hv
  exact G_putV (gi' := gi) (gr' := gu gr a fk r) f hfin hd ht (hn r) (hfit r) (fun q hq => ⟨rfl, gu_off hq⟩) (fun Tb j h => gfv_R h) kk
theorem nr_o (C : String) (q : Option Nat) : narrow (.object C) (va_rf q) = va_rf q := by cases q <;> rfl
theorem ft_o (C : String) (q : Option Nat) : fits (.object C) (va_rf q) = true := by cases q <;> rfl
theorem nr_a (t : FieldType) (q : Option Nat) : narrow (.array t) (va_rf q) = va_rf q := by cases q <;> rfl
theorem ft_a (t : FieldType) (q : Option Nat) : fits (.array t) (va_rf q) = true := by cases q <;> rfl
theorem nr_z {x : Int32} (h : x = 0 ∨ x = 1) : narrow .boolean (.int x) = .int x := by rcases h with rfl | rfl <;> decide +kernel
theorem ft_z {x : Int32} (h : x = 0 ∨ x = 1) : fits .boolean (.int x) = true := by rcases h with rfl | rfl <;> decide +kernel
theorem gK_arr {s : State} (hK : gK E s) {q : Nat} (hq : q < 5) : ArrOfT s (E.2.2.1 q) (gAT q) ∧ va_RA s (E.2.2.1 q) (gAT q) := by
  have h := hK.1.2 q (E.2.2.1 q, gAT q)
  have e : (gTys E)[q]? = some (E.2.2.1 q, gAT q) := by
    match q, hq with
    | 0, _ => rfl
    | 1, _ => rfl
    | 2, _ => rfl
    | 3, _ => rfl
    | 4, _ => rfl
  exact h e
theorem G_iald {a : Nat} {i : Int32} (hd : gD X pc .iaload 1 pc') (ht : T.1 a = 100) (hin : vp_in i (T.2.1 a)) (kk : G E X pc' ls (.int (gi a i.toNatClampNeg) :: st) T gi gr k n Q) : G E X pc ls (.int i :: .ref a :: st) T gi gr k n Q := by
  obtain ⟨hd, rfl⟩ := hd
  intro p e s m args below meth c Z hc hr H locs lsA hl hw hf
  obtain ⟨hb0, cell, hcell, hat⟩ := hw.1.2.2 a (by rw [ht]; decide)
  have hce := hat.2 0 ht
  subst hce
  have hlt : i.toNatClampNeg < T.2.1 a := Nat.not_le.mp fun q => hin (Or.inr q)
  exact W.iald hc.1 hc.2.1 hcell ((gK_arr hc.2.2.2.2.2.2.2.2 (q := 0) (by decide)).1 _ _) (fun q => by cases q) (by rw [arrV_size]; exact hin) (by rw [arrV_read _ _ hlt]; rfl) rfl rfl hd (kk p e s m args below meth c Z hc hr H locs lsA hl hw hf)
theorem G_zald {a : Nat} {i : Int32} (hd : gD X pc .baload 1 pc') (ht : T.1 a = 101) (hin : vp_in i (T.2.1 a)) (kk : G E X pc' ls (.int (gi a i.toNatClampNeg) :: st) T gi gr k n Q) : G E X pc ls (.int i :: .ref a :: st) T gi gr k n Q := by
  obtain ⟨hd, rfl⟩ := hd
  intro p e s m args below meth c Z hc hr H locs lsA hl hw hf
  obtain ⟨hb0, cell, hcell, hat⟩ := hw.1.2.2 a (by rw [ht]; decide)
  have hce := hat.2 1 ht
  subst hce
  have hlt : i.toNatClampNeg < T.2.1 a := Nat.not_le.mp fun q => hin (Or.inr q)
  exact W.zald hc.1 hc.2.1 hcell ((gK_arr hc.2.2.2.2.2.2.2.2 (q := 1) (by decide)).1 _ _) (fun q => by cases q) (by rw [arrV_size]; exact hin) (by rw [arrV_read _ _ hlt]; rfl) rfl rfl hd (kk p e s m args below meth c Z hc hr H locs lsA hl hw hf)
theorem G_aald (t : Nat) {a : Nat} {i : Int32} (hd : gD X pc .aaload 1 pc') (h2 : 2 ≤ t ∧ t < 5) (ht : T.1 a = 100 + t) (hin : vp_in i (T.2.1 a)) (kk : G E X pc' ls (va_rf (gr a i.toNatClampNeg) :: st) T gi gr k n Q) : G E X pc ls (.int i :: .ref a :: st) T gi gr k n Q := by
  obtain ⟨hd, rfl⟩ := hd
  intro p e s m args below meth c Z hc hr H locs lsA hl hw hf
  obtain ⟨hb0, cell, hcell, hat⟩ := hw.1.2.2 a (by rw [ht]; omega)
  have hce := hat.2 t ht
  subst hce
  have hlt : i.toNatClampNeg < T.2.1 a := Nat.not_le.mp fun q => hin (Or.inr q)
  have hre : (gAT t).isReference = true := by
    match t, h2 with
    | 2, _ => rfl
    | 3, _ => rfl
    | 4, _ => rfl
  exact W.aald hc.1 hc.2.1 hcell ((gK_arr hc.2.2.2.2.2.2.2.2 (q := t) h2.2).1 _ _) hre (fun q => by cases q) (by rw [arrV_size]; exact hin) (by rw [arrV_read _ _ hlt]; simp only [gav]; rw [if_neg (by omega)]) rfl rfl hd (kk p e s m args below meth c Z hc hr H locs lsA hl hw hf)
theorem G_aalds (t : Nat) {a q : Nat} {i : Int32} (hd : gD X pc .aaload 1 pc') (h2 : 2 ≤ t ∧ t < 5) (ht : T.1 a = 100 + t) (hin : vp_in i (T.2.1 a)) (hq : gr a i.toNatClampNeg = some q) (kk : G E X pc' ls (.ref q :: st) T gi gr k n Q) : G E X pc ls (.int i :: .ref a :: st) T gi gr k n Q := G_aald t hd h2 ht hin (by rw [hq]; exact kk)
theorem G_alen (t : Nat) {a : Nat} {v : Int32} (hd : gD X pc .arraylength 1 pc') (h2 : t < 5) (ht : T.1 a = 100 + t) (hv : Int32.ofNat (T.2.1 a) = v) (kk : G E X pc' ls (.int v :: st) T gi gr k n Q) : G E X pc ls (.ref a :: st) T gi gr k n Q := by
  obtain ⟨hd, rfl⟩ := hd
  intro p e s m args below meth c Z hc hr H locs lsA hl hw hf
  obtain ⟨hb0, cell, hcell, hat⟩ := hw.1.2.2 a (by rw [ht]; omega)
  have hce := hat.2 t ht
  subst hce
  exact W.alen hc.1 hc.2.1 hcell ((gK_arr hc.2.2.2.2.2.2.2.2 (q := t) h2).1 _ _) (by rw [arrV_size]; exact hv) rfl rfl hd (kk p e s m args below meth c Z hc hr H locs lsA hl hw hf)
theorem G_sald {i : Int32} (hd : gD X pc .iaload 1 pc') (hin : vp_in i E.2.2.2.2.1) (kk : G E X pc' ls (.int (E.2.2.2.2.2.1 i.toNatClampNeg) :: st) T gi gr k n Q) : G E X pc ls (.int i :: .ref E.2.2.2.1 :: st) T gi gr k n Q := by
  obtain ⟨hd, rfl⟩ := hd
  intro p e s m args below meth c Z hc hr H locs lsA hl hw hf
  obtain ⟨scr, h1, h2, h3, h4, h5⟩ := hw.2.1
  have hlt : i.toNatClampNeg < E.2.2.2.2.1 := Nat.not_le.mp fun q => hin (Or.inr q)
  exact W.iald hc.1 hc.2.1 h1 h2 h3 (by rw [h4]; exact hin) (h5 _ hlt) rfl rfl hd (kk p e s m args below meth c Z hc hr H locs lsA hl hw hf)
theorem G_slen {v : Int32} (hd : gD X pc .arraylength 1 pc') (hv : Int32.ofNat E.2.2.2.2.1 = v) (kk : G E X pc' ls (.int v :: st) T gi gr k n Q) : G E X pc ls (.ref E.2.2.2.1 :: st) T gi gr k n Q := by
  obtain ⟨hd, rfl⟩ := hd
  intro p e s m args below meth c Z hc hr H locs lsA hl hw hf
  obtain ⟨scr, h1, h2, h3, h4, h5⟩ := hw.2.1
  exact W.alen hc.1 hc.2.1 h1 h2 (by rw [h4]; exact hv) rfl rfl hd (kk p e s m args below meth c Z hc hr H locs lsA hl hw hf)
theorem gav_I {q : Nat} {fi : gI} {fr : Nat → Option Nat} {a j : Nat} {x : Int32} (hq : q < 2) : updV (gav q (fi a) fr) j (.int x) = gav q (gu fi a j x a) fr := by
  funext i
  simp only [updV, gav, gu, if_pos hq]
  by_cases h : i = j <;> simp [h]
theorem gav_R {q : Nat} {fi : Nat → Int32} {fr : gR} {a j : Nat} {x : Option Nat} (hq : ¬ q < 2) : updV (gav q fi (fr a)) j (va_rf x) = gav q fi (gu fr a j x a) := by
  funext i
  simp only [updV, gav, gu, if_neg hq]
  by_cases h : i = j <;> simp [h]
theorem G_iast {a : Nat} {i x : Int32} (hd : gD X pc .iastore 1 pc') (ht : T.1 a = 100) (hin : vp_in i (T.2.1 a)) (kk : G E X pc' ls st T (gu gi a i.toNatClampNeg x) gr k n Q) : G E X pc ls (.int x :: .int i :: .ref a :: st) T gi gr k n Q := by
  obtain ⟨hd, rfl⟩ := hd
  intro p e s m args below meth c Z hc hr H locs lsA hl hw hf
  obtain ⟨hb0, cell, hcell, hat⟩ := hw.1.2.2 a (by rw [ht]; decide)
  have hce := hat.2 0 ht
  subst hce
  refine W.iast hc.1 hc.2.1 hcell ((gK_arr hc.2.2.2.2.2.2.2.2 (q := 0) (by decide)).1 _ _) (fun q => by cases q) (by rw [arrV_size]; exact hin) rfl rfl hd fun H1 e1 z oq => ?_
  rw [arrV_store, gav_I (by decide)] at e1
  exact kk p e s m args below meth c Z hc hr H1 _ lsA hl (gW_to hw (gMem_arr (t := 0) hw.1 ht (fun q hq => ⟨gu_off hq, rfl⟩) e1 z oq) (oq _ (Nat.ne_of_lt (Nat.lt_of_lt_of_le hw.2.2 hb0)))) (gLocs hf hb0)
theorem G_zast {a : Nat} {i x : Int32} (hd : gD X pc .bastore 1 pc') (ht : T.1 a = 101) (hin : vp_in i (T.2.1 a)) (hx : x = 0 ∨ x = 1) (kk : G E X pc' ls st T (gu gi a i.toNatClampNeg x) gr k n Q) : G E X pc ls (.int x :: .int i :: .ref a :: st) T gi gr k n Q := by
  obtain ⟨hd, rfl⟩ := hd
  intro p e s m args below meth c Z hc hr H locs lsA hl hw hf
  obtain ⟨hb0, cell, hcell, hat⟩ := hw.1.2.2 a (by rw [ht]; decide)
  have hce := hat.2 1 ht
  subst hce
  refine W.zast hc.1 hc.2.1 hcell ((gK_arr hc.2.2.2.2.2.2.2.2 (q := 1) (by decide)).1 _ _) (fun q => by cases q) (by rw [arrV_size]; exact hin) rfl rfl hd fun H1 e1 z oq => ?_
  rw [nr_z hx, arrV_store, gav_I (by decide)] at e1
  exact kk p e s m args below meth c Z hc hr H1 _ lsA hl (gW_to hw (gMem_arr (t := 1) hw.1 ht (fun q hq => ⟨gu_off hq, rfl⟩) e1 z oq) (oq _ (Nat.ne_of_lt (Nat.lt_of_lt_of_le hw.2.2 hb0)))) (gLocs hf hb0)
theorem G_aast (t : Nat) {a v ci : Nat} {i : Int32} {C : String} {Tb : u_T} {N : Nat} (hd : gD X pc .aastore 1 pc') (h2 : t = 2 ∨ t = 3) (ht : T.1 a = 100 + t) (hin : vp_in i (T.2.1 a)) (hv : T.1 v = ci + 1) (hcl : vwCl[ci]? = some (C, Tb, N)) (hC : gAT t = .object C) (kk : G E X pc' ls st T gi (gu gr a i.toNatClampNeg (some v)) k n Q) : G E X pc ls (.ref v :: .int i :: .ref a :: st) T gi gr k n Q := by
  obtain ⟨hd, rfl⟩ := hd
  intro p e s m args below meth c Z hc hr H locs lsA hl hw hf
  obtain ⟨hb0, cell, hcell, hat⟩ := hw.1.2.2 a (by rw [ht]; omega)
  have hce := hat.2 t ht
  subst hce
  obtain ⟨hb1, cellV, g1, hatV⟩ := hw.1.2.2 v (by rw [hv]; exact Nat.succ_ne_zero _)
  obtain ⟨g2, g3, -⟩ := hatV.1 ci _ hv hcl
  have hK := hc.2.2.2.2.2.2.2.2
  have hcls := (hK.1.1 ci _ hcl).2
  have hra := (gK_arr hK (q := t) (by omega)).2
  rw [hC] at hra
  obtain ⟨kA, comp, k1, k2, k3, -⟩ := hra
  have hcomp : comp = E.2.1.1 ci := Option.some.inj (k3.symm.trans hcls.1)
  subst hcomp
  obtain ⟨kC, hkC, -⟩ := hcls.2
  have hlt : i.toNatClampNeg < T.2.1 a := Nat.not_le.mp fun q => hin (Or.inr q)
  refine W.aast hc.1 hc.2.1 hcell (fun q h => by cases h) (fun h => by cases h) k1 k2 rfl hkC ⟨fun q => hin (Or.inl q), by rw [arrV_size]; exact hlt⟩ g1 (fun q h => by rw [g3] at h; cases h) (by rw [g2]; exact hkC) (by rw [g2]; exact va_assign hcls) rfl rfl hd fun H1 e1 z oq => ?_
  rw [arrV_store, show (Value.ref v) = va_rf (some v) from rfl, gav_R (by omega)] at e1
  exact kk p e s m args below meth c Z hc hr H1 _ lsA hl (gW_to hw (gMem_arr (t := t) hw.1 ht (fun q hq => ⟨rfl, gu_off hq⟩) e1 z oq) (oq _ (Nat.ne_of_lt (Nat.lt_of_lt_of_le hw.2.2 hb0)))) (gLocs hf hb0)
theorem G_aastN (t : Nat) {a : Nat} {i : Int32} {C : String} (hd : gD X pc .aastore 1 pc') (h2 : t = 2 ∨ t = 3) (ht : T.1 a = 100 + t) (hin : vp_in i (T.2.1 a)) (hC : gAT t = .object C) (kk : G E X pc' ls st T gi (gu gr a i.toNatClampNeg none) k n Q) : G E X pc ls (.null :: .int i :: .ref a :: st) T gi gr k n Q := by
  obtain ⟨hd, rfl⟩ := hd
  intro p e s m args below meth c Z hc hr H locs lsA hl hw hf
  obtain ⟨hb0, cell, hcell, hat⟩ := hw.1.2.2 a (by rw [ht]; omega)
  have hce := hat.2 t ht
  subst hce
  have har := (gK_arr hc.2.2.2.2.2.2.2.2 (q := t) (by omega)).1
  rw [hC] at har
  refine va_WaastN (C := C) hc.1 hc.2.1 hcell (har _ _) (fun h => by cases h) (by rw [arrV_size]; exact hin) rfl rfl hd fun H1 e1 z oq => ?_
  rw [arrV_store, show (Value.null) = va_rf none from rfl, gav_R (by omega)] at e1
  exact kk p e s m args below meth c Z hc hr H1 _ lsA hl (gW_to hw (gMem_arr (t := t) hw.1 ht (fun q hq => ⟨rfl, gu_off hq⟩) e1 z oq) (oq _ (Nat.ne_of_lt (Nat.lt_of_lt_of_le hw.2.2 hb0)))) (gLocs hf hb0)
theorem gav_0 (q n : Nat) (cA : ClassId) (hq : q < 5) : arrV cA n (fun _ => defaultValue (gAT q)) = arrV cA n (gav q (fun _ => 0) (fun _ => none)) := by
  congr 1
  funext j
  match q, hq with
  | 0, _ => rfl
  | 1, _ => rfl
  | 2, _ => rfl
  | 3, _ => rfl
  | 4, _ => rfl
theorem gAt_arr {q len : Nat} {cell : Cell} {fi : Nat → Int32} {fr : Nat → Option Nat} (h : cell = arrV (E.2.2.1 q) len (gav q fi fr)) : gAt E (100 + q) len fi fr cell := by
  refine ⟨fun ci r e1 e2 => ?_, fun q' e => ?_⟩
  · have := vwCl_lt e2
    omega
  · have : q' = q := by omega
    subst this
    exact h
theorem G_newa (q : Nat) {ty : ArrayType} {x : Int32} {len : Nat} (hd : gD X pc (.newarray ty) 2 pc') (hq : q < 2) (hty : newarray.typeOf ty = gAT q) (hwd : Cond.arrayClass (newarray.typeOf ty) ∈ gTbl) (hx : ¬ x < 0) (hN : x.toNatClampNeg = len) (hlen : len ≤ 100000) (hk : k + 1 ≤ X.2.2.2.2.cells) (hn : n + len ≤ X.2.2.2.2.slots)
    (kk : G E X pc' ls (.ref T.2.2 :: st) (gNew T (100 + q) len) (gup gi T.2.2 (fun _ => 0)) (gup gr T.2.2 (fun _ => none)) (k + 1) (n + len) Q) : G E X pc ls (.int x :: st) T gi gr k n Q := by
  obtain ⟨hd, rfl⟩ := hd
  intro p e s m args below meth c Z hc hr H locs lsA hl hw hf
  have hbytes : len * componentBytes (newarray.typeOf ty) ≤ 536870912 := by
    have : componentBytes (newarray.typeOf ty) ≤ 8 := by cases ty <;> decide
    calc len * componentBytes (newarray.typeOf ty) ≤ 100000 * 8 := Nat.mul_le_mul hlen this
      _ ≤ 536870912 := by decide
  refine va_newaK hc.1 hc.2.1 (hc.2.2.2.2.2.2.1 _ hwd) rfl hd rfl hx hN hbytes hk hn rfl fun H1 cA e1 z1 o1 hAr hNm => ?_
  have hra := (gK_arr hc.2.2.2.2.2.2.2.2 (q := q) (by omega)).2
  have hcA : cA = E.2.2.1 q := by
    rw [hty] at hNm
    have h2 : s.vm.findClass ("[" ++ (gAT q).toString) = some (E.2.2.1 q) := by
      match q, hq with
      | 0, _ => exact hra
      | 1, _ => exact hra
    exact Option.some.inj (hNm.symm.trans h2)
  subst hcA
  rw [hty, gav_0 q len _ (by omega)] at e1
  have := kk p e s m args below meth c Z hc hr H1 locs lsA hl (gW_to hw (gMem_new hw.1 e1 z1 o1 (gAt_arr rfl)) (o1 _ (by rw [hw.1.1]; exact Nat.lt_of_lt_of_le hw.2.2 hw.1.2.1))) hf
  rw [hw.1.1]
  exact this
theorem G_anew (q : Nat) {idx : Nat} {C : String} {x : Int32} {len : Nat} (hd : gD X pc (.anewarray idx) 3 pc') (hq : q = 2 ∨ q = 3) (hC : gAT q = .object C) (hwd : Cond.classLink X.1.cls idx C ∈ gTbl) (hx : ¬ x < 0) (hN : x.toNatClampNeg = len) (hlen : len ≤ 100000) (hk : k + 1 ≤ X.2.2.2.2.cells) (hn : n + len ≤ X.2.2.2.2.slots)
    (kk : G E X pc' ls (.ref T.2.2 :: st) (gNew T (100 + q) len) (gup gi T.2.2 (fun _ => 0)) (gup gr T.2.2 (fun _ => none)) (k + 1) (n + len) Q) : G E X pc ls (.int x :: st) T gi gr k n Q := by
  obtain ⟨hd, rfl⟩ := hd
  intro p e s m args below meth c Z hc hr H locs lsA hl hw hf
  subst hN
  have hK := hc.2.2.2.2.2.2.2.2
  have hover : va_AO C s := by
    rcases hq with rfl | rfl
    · cases hC; exact hK.2.2.1
    · cases hC; exact hK.2.2.2.1
  refine W.anew hc.1 hc.2.1 hc.2.2.2.2.2.1 (hc.2.2.2.2.2.2.1 _ hwd) (va_AO.use hover) rfl hd rfl hx (by omega) hk hn fun cA kA comp f1 f2 f3 f4 => ?_
  have hra := (gK_arr hK (q := q) (by omega)).2
  rw [hC] at hra
  obtain ⟨kA', comp', k1, k2, k3, k4⟩ := hra
  have hcA : cA = E.2.2.1 q := Option.some.inj (f1.symm.trans k4)
  subst hcA
  generalize hH1 : H.push ({ cls := E.2.2.1 q, slots := Array.replicate x.toNatClampNeg .null, vm := .none } : Cell) = H1
  have z1 : H1.size = H.size + 1 := by rw [← hH1, Array.size_push]
  have e1 : H1[H.size]? = some (arrV (E.2.2.1 q) x.toNatClampNeg (gav q (fun _ => 0) (fun _ => none))) := by
    rw [← hH1, Array.getElem?_push_size, arrV_new, ← gav_0 q _ _ (by omega), hC]
    rfl
  have o1 : ∀ q : Nat, q < H.size → H1[q]? = H[q]? := fun q hq => by rw [← hH1, Array.getElem?_push, if_neg (Nat.ne_of_lt hq)]
  have := kk p e s m args below meth c Z hc hr H1 locs lsA hl (gW_to hw (gMem_new hw.1 e1 z1 o1 (gAt_arr rfl)) (o1 _ (by rw [hw.1.1]; exact Nat.lt_of_lt_of_le hw.2.2 hw.1.2.1))) hf
  rw [hw.1.1]
  exact this
def gNw (own : String) (idx ci N : Nat) : Prop := ∃ (C : String) (Tb : u_T) (ty : Nat → FieldType), gCls ci C Tb N ty ∧ (∀ k, k < N → defaultValue (ty k) = gfv Tb k (fun _ => 0) (fun _ => none)) ∧ Cond.classLink own idx C ∈ gTbl ∧ Cond.instantiable C N ∈ gTbl ∧ Cond.initialized C ∈ gTbl
theorem G_new {idx ci N : Nat} (f : gNw X.1.cls idx ci N) (hd : gD X pc (.new idx) 3 pc') (hk : k + 1 ≤ X.2.2.2.2.cells) (hn : n + N ≤ X.2.2.2.2.slots)
    (kk : G E X pc' ls (.ref T.2.2 :: st) (gNew T (ci + 1) 0) (gup gi T.2.2 (fun _ => 0)) (gup gr T.2.2 (fun _ => none)) (k + 1) (n + N) Q) : G E X pc ls st T gi gr k n Q := by
  obtain ⟨C, Tb, ty, ⟨hcl, hin, hty, hnm⟩, hdf, w1, w2, w3⟩ := f
  obtain ⟨hd, rfl⟩ := hd
  intro p e s m args below meth c Z hc hr H locs lsA hl hw hf
  have hts := hc.2.2.2.2.2.2.1
  have hK := hc.2.2.2.2.2.2.2.2
  have hKn := hK.1.1 ci _ hcl
  refine W.newcK hc.1 hc.2.1 hc.2.2.2.2.2.1 (hts _ w1) (hts _ w2) (hts _ w3) rfl hd hk hn hKn.2.1 rfl fun H1 kC hkC e1 z1 o1 => ?_
  obtain ⟨cell, g1, g2, g3, g4⟩ := u_born ty hts hin hKn hkC e1 hty
  have hat : gAt E (ci + 1) 0 (fun _ => 0) (fun _ => none) cell := by
    refine ⟨fun ci' r a1 a2 => ?_, fun q a1 => ?_⟩
    · have : ci' = ci := by omega
      subst this
      rw [hcl] at a2
      cases a2
      exact ⟨g2, g3, fun j hj => by rw [g4 j hj]; exact congrArg some (hdf j hj)⟩
    · have := vwCl_lt hcl
      omega
  have := kk p e s m args below meth c Z hc hr H1 locs lsA hl (gW_to hw (gMem_new hw.1 g1 z1 o1 hat) (o1 _ (by rw [hw.1.1]; exact Nat.lt_of_lt_of_le hw.2.2 hw.1.2.1))) hf
  rw [hw.1.1]
  exact this
theorem G_objInit {idx a : Nat} (w1 : Cond.methodLink X.1.cls idx objectInit ∈ gTbl) (w2 : Cond.instanceMethod objectInit ∈ gTbl) (w3 : Cond.code objectInit ⟨#[0xb1]⟩ 1 none ∈ gTbl) (hd : gD X pc (.invokespecial idx) 3 pc') (hfr : 1 ≤ X.2.2.2.2.frames) (hlo : (st.map fun v => v.category).sum + 12 ≤ X.2.2.2.2.locals) (kk : G E X pc' ls st T gi gr k n Q) : G E X pc ls (.ref a :: st) T gi gr k n Q := by
  obtain ⟨hd, rfl⟩ := hd
  intro p e s m args below meth c Z hc hr H locs lsA hl hw hf
  have hts := hc.2.2.2.2.2.2.1
  exact W.objInit hc.1 hc.2.1 hc.2.2.2.2.2.1 (hts _ w1) (hts _ w2) (hts _ w3) rfl (by rw [hc.2.2.1]; exact hl.1) rfl hd hfr (by show 2 * 0 + _ + 12 ≤ _; omega) (kk p e s m args below meth c Z hc hr H locs lsA hl hw hf)
theorem G_mmax {idx : Nat} {x y : Int32} (w1 : Cond.methodLink X.1.cls idx Lib.Math.max.name ∈ gTbl) (w2 : Cond.static Lib.Math.max.name ∈ gTbl) (w3 : Cond.initialized "java/lang/Math" ∈ gTbl) (w4 : Cond.code Lib.Math.max.name Lib.Math.max.code 2 (some .int) ∈ gTbl) (hd : gD X pc (.invokestatic idx) 3 pc') (hfr : 1 ≤ X.2.2.2.2.frames) (hlo : (st.map fun v => v.category).sum + 13 ≤ X.2.2.2.2.locals) (hk : k ≤ X.2.2.2.2.cells) (hn : n ≤ X.2.2.2.2.slots) (kk : G E X pc' ls (.int (if x < y then y else x) :: st) T gi gr k n Q) : G E X pc ls (.int y :: .int x :: st) T gi gr k n Q := by
  obtain ⟨hd, rfl⟩ := hd
  intro p e s m args below meth c Z hc hr H locs lsA hl hw hf
  have hts := hc.2.2.2.2.2.2.1
  exact va_mmax hc.1 hc.2.1 (by rw [hc.2.2.1]; exact hl.1.symm) hc.2.2.2.2.2.1 (hts _ w1) (hts _ w2) (hts _ w3) (hts _ w4) hfr hlo hk hn hd (kk p e s m args below meth c Z hc hr H locs lsA hl hw hf)
theorem G_mmin {idx : Nat} {x y : Int32} (w1 : Cond.methodLink X.1.cls idx Lib.Math.min.name ∈ gTbl) (w2 : Cond.static Lib.Math.min.name ∈ gTbl) (w3 : Cond.initialized "java/lang/Math" ∈ gTbl) (w4 : Cond.code Lib.Math.min.name Lib.Math.min.code 2 (some .int) ∈ gTbl) (hd : gD X pc (.invokestatic idx) 3 pc') (hfr : 1 ≤ X.2.2.2.2.frames) (hlo : (st.map fun v => v.category).sum + 13 ≤ X.2.2.2.2.locals) (hk : k ≤ X.2.2.2.2.cells) (hn : n ≤ X.2.2.2.2.slots) (kk : G E X pc' ls (.int (if y < x then y else x) :: st) T gi gr k n Q) : G E X pc ls (.int y :: .int x :: st) T gi gr k n Q := by
  obtain ⟨hd, rfl⟩ := hd
  intro p e s m args below meth c Z hc hr H locs lsA hl hw hf
  have hts := hc.2.2.2.2.2.2.1
  exact va_mmin hc.1 hc.2.1 (by rw [hc.2.2.1]; exact hl.1.symm) hc.2.2.2.2.2.1 (hts _ w1) (hts _ w2) (hts _ w3) (hts _ w4) hfr hlo hk hn hd (kk p e s m args below meth c Z hc hr H locs lsA hl hw hf)
theorem G_mabs {idx : Nat} {x : Int32} (w1 : Cond.methodLink X.1.cls idx Lib.Math.abs.name ∈ gTbl) (w2 : Cond.static Lib.Math.abs.name ∈ gTbl) (w3 : Cond.initialized "java/lang/Math" ∈ gTbl) (w4 : Cond.code Lib.Math.abs.name Lib.Math.abs.code 1 (some .int) ∈ gTbl) (hd : gD X pc (.invokestatic idx) 3 pc') (hfr : 1 ≤ X.2.2.2.2.frames) (hlo : (st.map fun v => v.category).sum + 13 ≤ X.2.2.2.2.locals) (hk : k ≤ X.2.2.2.2.cells) (hn : n ≤ X.2.2.2.2.slots) (kk : G E X pc' ls (.int (if 0 ≤ x then x else 0 - x) :: st) T gi gr k n Q) : G E X pc ls (.int x :: st) T gi gr k n Q := by
  obtain ⟨hd, rfl⟩ := hd
  intro p e s m args below meth c Z hc hr H locs lsA hl hw hf
  have hts := hc.2.2.2.2.2.2.1
  exact va_mabs hc.1 hc.2.1 (by rw [hc.2.2.1]; exact hl.1.symm) hc.2.2.2.2.2.1 (hts _ w1) (hts _ w2) (hts _ w3) (hts _ w4) hfr hlo hk hn hd (kk p e s m args below meth c Z hc hr H locs lsA hl hw hf)
end GF
def Ct (E : gE) (X : gX) (As : List Value) (T : gT) (gi : gI) (gr : gR) (Q : gQ) : Prop :=
  Met E.1 X.1 (gws X) X.2.2.2.2 (fun a U => a = As.toArray ∧ gW E T gi gr U U.heap ∧ gK E U) (fun _ _ o t => ∃ (T' : gT) (gi' : gI) (gr' : gR) (v : Option Value), o = .returned v ∧ Q T' gi' gr' v ∧ gW E T' gi' gr' t t.heap ∧ gK E t) X.2.2.2.2.cells X.2.2.2.2.slots (fun q => gbase E ≤ q)
theorem gK_warm {E : gE} {s U : State} (hW : s.WarmedH U.vm) (h : gK E s) : gK E U := by
  obtain ⟨h1, h2, h3, h4, h5⟩ := h
  exact ⟨va_K.moved hW.alike h1, gNest_warm hW h2, va_AO.moved hW.alike h3, va_AO.moved hW.alike h4, over_moved hW.alike h5⟩
theorem gK_call {E : gE} {U : State} {g : JFrame} {mk : MethodId} {a : Array Value} (h : gK E U) : gK E (U.calling g mk a) := by
  obtain ⟨h1, h2, h3, h4, h5⟩ := h
  exact ⟨va_K.moved (u := U) (U := U.calling g mk a) (Vm.Alike.refl U.vm) h1, fun w hw => gNest_same hw (rfl : U.vm = (U.calling g mk a).vm) (h2 w hw), va_AO.moved (u := U) (U := U.calling g mk a) (Vm.Alike.refl U.vm) h3, va_AO.moved (u := U) (U := U.calling g mk a) (Vm.Alike.refl U.vm) h4, over_moved (u := U) (E := U.calling g mk a) (Vm.Alike.refl U.vm) h5⟩
theorem gW_moved {E : gE} {T : gT} {gi : gI} {gr : gR} {u U : State} {H : Heap} (hvm : u.vm.Alike U.vm) (h : gW E T gi gr u H) : gW E T gi gr U H := ⟨h.1, h.2.1.moved hvm, h.2.2⟩
theorem lv_args_in : ∀ (As : List Value) (i : Nat), (∀ v ∈ As, v.category = 1) → ∀ (j : Nat) (v : Value), As[j]? = some v → (i + j, v) ∈ lv_args i As
  | [], i, _, j, v, h => by simp at h
  | a :: As, i, hc, j, v, h => by
    have ha : a.category = 1 := hc a List.mem_cons_self
    cases j with
    | zero =>
      rw [List.getElem?_cons_zero] at h
      cases h
      exact List.mem_cons_self
    | succ j =>
      rw [List.getElem?_cons_succ] at h
      refine List.mem_cons_of_mem _ ?_
      rw [if_neg (by omega), show i + (j + 1) = (i + 1) + j by omega]
      exact lv_args_in As (i + 1) (fun v hv => hc v (List.mem_cons_of_mem _ hv)) j v h
theorem lg_sl_len : ∀ (As : List Value), (∀ v ∈ As, v.category = 1) → (lg_sl As).length = As.length
  | [], _ => rfl
  | a :: As, hc => by
    have ha : a.category = 1 := hc a List.mem_cons_self
    have ih := lg_sl_len As (fun v hv => hc v (List.mem_cons_of_mem _ hv))
    simp only [lg_sl, List.flatMap_cons, ha] at ih ⊢
    simp [ih]
theorem gL_entry {As : List Value} {nL : Nat} (hc : ∀ v ∈ As, v.category = 1) (hl : As.length ≤ nL) : gL (As ++ List.replicate (nL - As.length) (.long 0)) nL ((lg_sl As ++ List.replicate (nL - (lg_sl As).length) Slot.unset).toArray) := by
  refine gL_of (lv_entry As (by rw [lg_sl_len As hc]; exact hl)) fun q hq => ?_
  obtain ⟨j, v⟩ := q
  obtain ⟨h1, h2⟩ := gl_mem.mp hq
  by_cases hj : j < As.length
  · rw [List.getElem?_append_left hj] at h1
    have := lv_args_in As 0 hc j v h1
    rwa [Nat.zero_add] at this
  · rw [List.getElem?_append_right (by omega), List.getElem?_replicate] at h1
    split at h1
    · cases h1; cases h2
    · cases h1
theorem Ct_of {E : gE} {X : gX} {As ls : List Value} {T : gT} {gi : gI} {gr : gR} {Q : gQ} (hpl : plainName X.1.cls = true) (hcat : ∀ v ∈ As, v.category = 1) (hl : As.length ≤ X.2.2.1) (hls : As ++ List.replicate (X.2.2.1 - As.length) (.long 0) = ls) (hG : G E X 0 ls [] T gi gr 0 0 Q) : Ct E X As T gi gr Q := by
  subst hls
  refine Met.ofW (cc := X.2.1) (maxL := X.2.2.1) (ret := X.2.2.2.1) hpl rfl ?_
  intro p e s m args below meth c s₁ B hml hv
  obtain ⟨rfl, hW, hK⟩ := hv
  have hts := atoms_spec (ws := gws X) B.pre
  rw [lg_entry_eq]
  have hlocks := B.notSynchronized
  refine hG p e s m _ below meth c _ ⟨B.exec, B.bytes, hml, B.returns, hlocks, findClass_of_methodNamed B.named, fun w hw => hts w (List.mem_cons_of_mem _ hw), (name_of_methodNamed B.named B.method).1, hK⟩ ?_ s.heap [] _ (gL_entry hcat hl) hW (fun q hq => by cases hq)
  intro T' gi' gr' v H' locs' lsA pc' hq hw hf hrt
  have fin : ∀ t : State, t.heap = H' → s.WarmedH t.vm → ∃ (T' : gT) (gi' : gI) (gr' : gR) (v' : Option Value), (Outcome.returned v) = .returned v' ∧ Q T' gi' gr' v' ∧ gW E T' gi' gr' t t.heap ∧ gK E t := fun t ht hwm => ⟨T', gi', gr', v, rfl, hq, by rw [ht]; exact gW_moved hwm.alike hw, gK_warm hwm hK⟩
  have hret := B.returns
  cases v with
  | none => exact W.vret B.exec B.bytes (by rw [hret]; exact hrt.2) fin hf hrt.1
  | some v =>
    cases v with
    | int x =>
      obtain ⟨h1, ty, h2, h3⟩ := hrt
      exact W.zret B.exec B.bytes (by rw [hret]; exact h2) h3 fin hf h1
    | null =>
      obtain ⟨h1, h2, C, h3⟩ := hrt
      exact W.aret B.exec B.bytes (by rw [hret]; exact h3) (Or.inl ⟨C, rfl⟩) h2 fin hf h1
    | ref a =>
      obtain ⟨h1, h2, C, h3⟩ := hrt
      exact W.aret B.exec B.bytes (by rw [hret]; exact h3) (Or.inl ⟨C, rfl⟩) h2 fin hf h1
    | long x => obtain ⟨h1, h2, C, h3⟩ := hrt; rcases h2 with h2 | ⟨a, h2⟩ <;> cases h2
    | float x => obtain ⟨h1, h2, C, h3⟩ := hrt; rcases h2 with h2 | ⟨a, h2⟩ <;> cases h2
    | double x => obtain ⟨h1, h2, C, h3⟩ := hrt; rcases h2 with h2 | ⟨a, h2⟩ <;> cases h2
    | retAddr x => obtain ⟨h1, h2, C, h3⟩ := hrt; rcases h2 with h2 | ⟨a, h2⟩ <;> cases h2
section GC
variable {E : gE} {X Y : gX} {pc pc' : Nat} {ls st : List Value} {T : gT} {gi : gI} {gr : gR} {k n : Nat} {Q Q1 : gQ}
theorem gws_good (X Y : gX) (h : Cond.code Y.1 Y.2.1 Y.2.2.1 Y.2.2.2.1 ∈ gTbl) : GoodIn gTbl (gws Y) := by
  intro w hw
  rcases List.mem_cons.mp hw with rfl | hw
  · exact ⟨h, gGood_or (List.mem_filter.mp h).2⟩
  · exact ⟨hw, gGood_or (List.mem_filter.mp hw).2⟩
def gCall (X Y : gX) (na : Nat) : Prop := Cond.code Y.1 Y.2.1 Y.2.2.1 Y.2.2.2.1 ∈ gTbl ∧ Cond.initialized Y.1.cls ∈ gTbl ∧ (Y.1.cls ≠ "java/lang/invoke/MethodHandle" ∧ Y.1.cls ≠ "java/lang/invoke/VarHandle" ∧ (parseMethodDescriptor Y.1.desc).map (fun d => d.parameters.length) = some na) ∧ Y.2.2.2.2.frames + 1 ≤ X.2.2.2.2.frames ∧ 8 + (Y.2.2.1 + 11) + Y.2.2.2.2.locals ≤ X.2.2.2.2.locals
theorem gBlind {As : List Value} : FrameBlind (fun a U => a = As.toArray ∧ gW E T gi gr U U.heap ∧ gK E U) := fun a U g mk h => ⟨h.1, gW_moved (u := U) (U := U.calling g mk a) (Vm.Alike.refl U.vm) h.2.1, gK_call h.2.2⟩
theorem gPre {s : State} {H : Heap} {As : List Value} (hw : gW E T gi gr s H) (hK : gK E s) : PreS s H (fun a U => a = As.toArray ∧ gW E T gi gr U U.heap ∧ gK E U) As := ⟨gBlind, fun U hU hW => ⟨rfl, by rw [hU]; exact gW_moved hW.alike hw, gK_warm hW hK⟩⟩
theorem G_after {rest : List Value} {p : Program} {e : Env} {s : State} {m : MethodId} {args : Array Value} {below : List Frame} {meth : Method} {c : Code} {Z : State → Prop} {H : Heap} {locs : List Loc} {lsA : Array Slot}
    (hr0 : va_Run p E.1 e X.2.2.2.2 s m args below meth c H locs k n Y.2.2.2.2.cells Y.2.2.2.2.slots (F0 m pc lsA st) rest (fun _ o t => ∃ (T' : gT) (gi' : gI) (gr' : gR) (v : Option Value), o = .returned v ∧ Q1 T' gi' gr' v ∧ gW E T' gi' gr' t t.heap ∧ gK E t) (fun q => gbase E ≤ q))
    (hc : gCx E X p s m args meth c) (hr : ∀ (T' : gT) (gi' : gI) (gr' : gR) (v : Option Value) (H' : Heap) (locs' : List Loc) (lsA : Array Slot) (pc' : Nat), Q T' gi' gr' v → gW E T' gi' gr' s H' → (∀ q ∈ locs', gbase E ≤ q.base) → gRt X pc' v → W p E.1 e X.2.2.2.2 s m args below meth c H' locs' X.2.2.2.2.cells X.2.2.2.2.slots Z (F0 m pc' lsA v.toList)) (hl : gL ls X.2.2.1 lsA) (hf : ∀ q ∈ locs, gbase E ≤ q.base)
    (kk : ∀ T' gi' gr' v, Q1 T' gi' gr' v → G E X (pc + 3) ls (v.toList ++ rest) T' gi' gr' (k + Y.2.2.2.2.cells) (n + Y.2.2.2.2.slots) Q) : W p E.1 e X.2.2.2.2 s m args below meth c H locs k n Z (F0 m pc lsA st) := by
  intro U hU X0
  obtain ⟨v, st₀, t, U', L, h0, X', hL, e1, e2, ⟨T', gi', gr', v', hv, hq, hw', hK'⟩, stp⟩ := hr0 U hU X0
  cases hv
  have hal : t.vm.Alike s.vm := by rw [← e2]; exact X'.warmed.alike.symm
  obtain ⟨t2, a1, b1⟩ := kk T' gi' gr' v hq p e s m args below meth c Z hc hr U'.heap (locs ++ L) lsA hl (by rw [e1]; exact gW_moved hal hw') (fun q hq => by
    rcases List.mem_append.mp hq with h | h
    · exact hf q h
    · exact hL q h) U' rfl X'
  exact ⟨t2, stp t2 a1, b1⟩
theorem G_callV {idx a ci : Nat} {As rest : List Value} {Tb : u_T} {N : Nat} (g : gCall X Y As.length) (w1 : Cond.methodLink X.1.cls idx Y.1 ∈ gTbl) (w2 : Cond.instanceMethod Y.1 ∈ gTbl) (w3 : Cond.selects Y.1.cls Y.1 Y.1 ∈ gTbl) (hcl : vwCl[ci]? = some (Y.1.cls, Tb, N)) (hd : gD X pc (.invokevirtual idx) 3 pc') (hst : st = As.reverse ++ .ref a :: rest) (hrest : (rest.map fun v => v.category).sum ≤ 8) (ht : T.1 a = ci + 1) (hk : k + Y.2.2.2.2.cells ≤ X.2.2.2.2.cells ∧ n + Y.2.2.2.2.slots ≤ X.2.2.2.2.slots) (hC : Ct E Y (.ref a :: As) T gi gr Q1)
    (kk : ∀ T' gi' gr' v, Q1 T' gi' gr' v → G E X pc' ls (v.toList ++ rest) T' gi' gr' (k + Y.2.2.2.2.cells) (n + Y.2.2.2.2.slots) Q) : G E X pc ls st T gi gr k n Q := by
  obtain ⟨g1, g2, g3, g4⟩ := g
  obtain ⟨hd, rfl⟩ := hd
  intro p e s m args below meth c Z hc hr H locs lsA hl hw hf
  have hts := hc.2.2.2.2.2.2.1
  have hK := hc.2.2.2.2.2.2.2.2
  obtain ⟨hb0, cell, hcell, hat⟩ := hw.1.2.2 a (by rw [ht]; exact Nat.succ_ne_zero _)
  obtain ⟨q2, q3, q4⟩ := hat.1 ci _ ht hcl
  refine G_after (Y := Y) (Q1 := Q1) (va_runV (As := As) (rest := rest) (Ts := gTbl) (C := Y.1.cls) ⟨hc.1, hc.2.1, hc.2.2.1, hc.2.2.2.2.2.1, hts⟩ hC ⟨callB_of (ws' := gTbl) As.length hts (gws_good X Y g1) rfl rfl rfl (hts _ g2) (hts _ w1) g3 g4, hts _ w2, hts _ w3⟩ ⟨gBlind, ⟨cell, hcell, by rw [q3]; rfl, by rw [q2]; exact (hK.1.1 ci _ hcl).2.1⟩, (gPre hw hK).2⟩ rfl rfl hl.1 hst (lv_room hrest) hd hk) hc hr hl hf kk
theorem G_callS {idx : Nat} {As rest : List Value} (g : gCall X Y As.length) (w1 : Cond.methodLink X.1.cls idx Y.1 ∈ gTbl) (w2 : Cond.static Y.1 ∈ gTbl) (hd : gD X pc (.invokestatic idx) 3 pc') (hst : st = As.reverse ++ rest) (hrest : (rest.map fun v => v.category).sum ≤ 8) (hk : k + Y.2.2.2.2.cells ≤ X.2.2.2.2.cells ∧ n + Y.2.2.2.2.slots ≤ X.2.2.2.2.slots) (hC : Ct E Y As T gi gr Q1)
    (kk : ∀ T' gi' gr' v, Q1 T' gi' gr' v → G E X pc' ls (v.toList ++ rest) T' gi' gr' (k + Y.2.2.2.2.cells) (n + Y.2.2.2.2.slots) Q) : G E X pc ls st T gi gr k n Q := by
  obtain ⟨g1, g2, g3, g4⟩ := g
  obtain ⟨hd, rfl⟩ := hd
  intro p e s m args below meth c Z hc hr H locs lsA hl hw hf
  have hts := hc.2.2.2.2.2.2.1
  have hK := hc.2.2.2.2.2.2.2.2
  refine G_after (Y := Y) (Q1 := Q1) (va_runS (As := As) (rest := rest) (Ts := gTbl) ⟨hc.1, hc.2.1, hc.2.2.1, hc.2.2.2.2.2.1, hts⟩ hC ⟨callB_of (ws' := gTbl) As.length hts (gws_good X Y g1) rfl rfl rfl (hts _ g2) (hts _ w1) g3 g4, hts _ w2⟩ (gPre hw hK) rfl rfl hl.1 hst (lv_room hrest) hd hk) hc hr hl hf kk
theorem G_callSN {idx : Nat} {host : String} {As rest : List Value} (g : gCall X Y As.length) (w1 : Cond.methodLinkNest X.1.cls idx Y.1 host ∈ gNest) (w2 : Cond.static Y.1 ∈ gTbl) (hd : gD X pc (.invokestatic idx) 3 pc') (hst : st = As.reverse ++ rest) (hrest : (rest.map fun v => v.category).sum ≤ 8) (hk : k + Y.2.2.2.2.cells ≤ X.2.2.2.2.cells ∧ n + Y.2.2.2.2.slots ≤ X.2.2.2.2.slots) (hC : Ct E Y As T gi gr Q1)
    (kk : ∀ T' gi' gr' v, Q1 T' gi' gr' v → G E X pc' ls (v.toList ++ rest) T' gi' gr' (k + Y.2.2.2.2.cells) (n + Y.2.2.2.2.slots) Q) : G E X pc ls st T gi gr k n Q := by
  obtain ⟨g1, g2, g3, g4⟩ := g
  obtain ⟨hd, rfl⟩ := hd
  intro p e s m args below meth c Z hc hr H locs lsA hl hw hf
  have hts := hc.2.2.2.2.2.2.1
  have hK := hc.2.2.2.2.2.2.2.2
  refine G_after (Y := Y) (Q1 := Q1) (va_runSN (As := As) (rest := rest) (Ts := gTbl) ⟨hc.1, hc.2.1, hc.2.2.1, hc.2.2.2.2.2.1, hts⟩ hC ⟨va_cnB (ws' := gTbl) As.length hts (gws_good X Y g1) rfl rfl rfl (hK.2.1 _ w1) (hts _ g2) g3 g4, hts _ w2, trivial⟩ (gPre hw hK) rfl rfl hl.1 hst (lv_room hrest) hd hk) hc hr hl hf kk
theorem G_callI {idx a : Nat} {As rest : List Value} (g : gCall X Y As.length) (w1 : Cond.methodLink X.1.cls idx Y.1 ∈ gTbl) (w2 : Cond.instanceMethod Y.1 ∈ gTbl) (hnm : Y.1.name = "<init>") (hret : Y.2.2.2.1 = none) (hd : gD X pc (.invokespecial idx) 3 pc') (hst : st = As.reverse ++ .ref a :: rest) (hrest : (rest.map fun v => v.category).sum ≤ 8) (hk : k + Y.2.2.2.2.cells ≤ X.2.2.2.2.cells ∧ n + Y.2.2.2.2.slots ≤ X.2.2.2.2.slots) (hC : Ct E Y (.ref a :: As) T gi gr Q1)
    (kk : ∀ T' gi' gr' v, Q1 T' gi' gr' v → G E X pc' ls (v.toList ++ rest) T' gi' gr' (k + Y.2.2.2.2.cells) (n + Y.2.2.2.2.slots) Q) : G E X pc ls st T gi gr k n Q := by
  obtain ⟨g1, g2, g3, g4⟩ := g
  obtain ⟨hd, rfl⟩ := hd
  intro p e s m args below meth c Z hc hr H locs lsA hl hw hf
  have hts := hc.2.2.2.2.2.2.1
  have hK := hc.2.2.2.2.2.2.2.2
  have g1' : Cond.code Y.1 Y.2.1 Y.2.2.1 none ∈ gTbl := by rw [← hret]; exact g1
  refine G_after (Y := Y) (Q1 := Q1) (va_runI (As := As) (rest := rest) (Ts := gTbl) (bytes := Y.2.1) (maxL := Y.2.2.1) ⟨hc.1, hc.2.1, hc.2.2.1, hc.2.2.2.2.2.1, hts⟩ hC ⟨callB_of (ws' := gTbl) As.length hts (gws_good X Y g1) (by unfold gws; rw [hret]) rfl rfl (hts _ g2) (hts _ w1) g3 g4, hnm, hts _ w2⟩ (gPre hw hK) rfl rfl hl.1 hst (lv_room hrest) hd hk) hc hr hl hf kk
theorem G_callIN {idx a : Nat} {host : String} {As rest : List Value} (g : gCall X Y As.length) (w1 : Cond.methodLinkNest X.1.cls idx Y.1 host ∈ gNest) (w2 : Cond.instanceMethod Y.1 ∈ gTbl) (hnm : Y.1.name = "<init>") (hret : Y.2.2.2.1 = none) (hd : gD X pc (.invokespecial idx) 3 pc') (hst : st = As.reverse ++ .ref a :: rest) (hrest : (rest.map fun v => v.category).sum ≤ 8) (hk : k + Y.2.2.2.2.cells ≤ X.2.2.2.2.cells ∧ n + Y.2.2.2.2.slots ≤ X.2.2.2.2.slots) (hC : Ct E Y (.ref a :: As) T gi gr Q1)
    (kk : ∀ T' gi' gr' v, Q1 T' gi' gr' v → G E X pc' ls (v.toList ++ rest) T' gi' gr' (k + Y.2.2.2.2.cells) (n + Y.2.2.2.2.slots) Q) : G E X pc ls st T gi gr k n Q := by
  obtain ⟨g1, g2, g3, g4⟩ := g
  obtain ⟨hd, rfl⟩ := hd
  intro p e s m args below meth c Z hc hr H locs lsA hl hw hf
  have hts := hc.2.2.2.2.2.2.1
  have hK := hc.2.2.2.2.2.2.2.2
  refine G_after (Y := Y) (Q1 := Q1) (va_runIN (As := As) (rest := rest) (Ts := gTbl) (bytes := Y.2.1) (maxL := Y.2.2.1) ⟨hc.1, hc.2.1, hc.2.2.1, hc.2.2.2.2.2.1, hts⟩ hC ⟨va_cnB (ws' := gTbl) As.length hts (gws_good X Y g1) (by unfold gws; rw [hret]) rfl rfl (hK.2.1 _ w1) (hts _ g2) g3 g4, hnm, hts _ w2⟩ (gPre hw hK) rfl rfl hl.1 hst (lv_room hrest) hd hk) hc hr hl hf kk
end GC
section GN
variable {E : gE} {X : gX} {pc pc' : Nat} {ls st st' : List Value} {T : gT} {gi : gI} {gr : gR} {k n : Nat} {Q : gQ}
theorem G_st (h : st = st') (kk : G E X pc ls st' T gi gr k n Q) : G E X pc ls st T gi gr k n Q := by
  subst h
  exact kk
theorem vp_inN {j len a : Nat} {T : gT} (hl : T.2.1 a = len) (hj : j < len) (hb : len < 2 ^ 31) : vp_in (nI j) (T.2.1 a) := by
  rw [hl]
  exact vp_in_nI hj hb
theorem G_ialdN {a j len : Nat} (hd : gD X pc .iaload 1 pc') (ht : T.1 a = 100) (hl : T.2.1 a = len) (hb : len < 2 ^ 31) (hj : j < len) (kk : G E X pc' ls (.int (gi a j) :: st) T gi gr k n Q) : G E X pc ls (.int (nI j) :: .ref a :: st) T gi gr k n Q := by
  refine G_iald hd ht (vp_inN hl hj hb) ?_
  rw [nI_clamp (Nat.lt_trans hj hb)]
  exact kk
theorem G_zaldN {a j len : Nat} (hd : gD X pc .baload 1 pc') (ht : T.1 a = 101) (hl : T.2.1 a = len) (hb : len < 2 ^ 31) (hj : j < len) (kk : G E X pc' ls (.int (gi a j) :: st) T gi gr k n Q) : G E X pc ls (.int (nI j) :: .ref a :: st) T gi gr k n Q := by
  refine G_zald hd ht (vp_inN hl hj hb) ?_
  rw [nI_clamp (Nat.lt_trans hj hb)]
  exact kk
theorem G_aaldN (t : Nat) {a j len : Nat} (hd : gD X pc .aaload 1 pc') (h2 : 2 ≤ t ∧ t < 5) (ht : T.1 a = 100 + t) (hl : T.2.1 a = len) (hb : len < 2 ^ 31) (hj : j < len) (kk : G E X pc' ls (va_rf (gr a j) :: st) T gi gr k n Q) : G E X pc ls (.int (nI j) :: .ref a :: st) T gi gr k n Q := by
  refine G_aald t hd h2 ht (vp_inN hl hj hb) ?_
  rw [nI_clamp (Nat.lt_trans hj hb)]
  exact kk
theorem G_aaldsN (t : Nat) {a j len q : Nat} (hd : gD X pc .aaload 1 pc') (h2 : 2 ≤ t ∧ t < 5) (ht : T.1 a = 100 + t) (hl : T.2.1 a = len) (hb : len < 2 ^ 31) (hj : j < len) (hq : gr a j = some q) (kk : G E X pc' ls (.ref q :: st) T gi gr k n Q) : G E X pc ls (.int (nI j) :: .ref a :: st) T gi gr k n Q := G_aaldN t hd h2 ht hl hb hj (by rw [hq]; exact kk)
theorem G_iastN {a j len : Nat} {x : Int32} (hd : gD X pc .iastore 1 pc') (ht : T.1 a = 100) (hl : T.2.1 a = len) (hb : len < 2 ^ 31) (hj : j < len) (kk : G E X pc' ls st T (gu gi a j x) gr k n Q) : G E X pc ls (.int x :: .int (nI j) :: .ref a :: st) T gi gr k n Q := by
  refine G_iast hd ht (vp_inN hl hj hb) ?_
  rw [nI_clamp (Nat.lt_trans hj hb)]
  exact kk
theorem G_zastN {a j len : Nat} {x : Int32} (hd : gD X pc .bastore 1 pc') (ht : T.1 a = 101) (hl : T.2.1 a = len) (hb : len < 2 ^ 31) (hj : j < len) (hx : x = 0 ∨ x = 1) (kk : G E X pc' ls st T (gu gi a j x) gr k n Q) : G E X pc ls (.int x :: .int (nI j) :: .ref a :: st) T gi gr k n Q := by
  refine G_zast hd ht (vp_inN hl hj hb) hx ?_
  rw [nI_clamp (Nat.lt_trans hj hb)]
  exact kk
theorem G_aastsN (t : Nat) {a v ci j len : Nat} {C : String} {Tb : u_T} {N : Nat} (hd : gD X pc .aastore 1 pc') (h2 : t = 2 ∨ t = 3) (ht : T.1 a = 100 + t) (hl : T.2.1 a = len) (hb : len < 2 ^ 31) (hj : j < len) (hv : T.1 v = ci + 1) (hcl : vwCl[ci]? = some (C, Tb, N)) (hC : gAT t = .object C) (kk : G E X pc' ls st T gi (gu gr a j (some v)) k n Q) : G E X pc ls (.ref v :: .int (nI j) :: .ref a :: st) T gi gr k n Q := by
  refine G_aast t hd h2 ht (vp_inN hl hj hb) hv hcl hC ?_
  rw [nI_clamp (Nat.lt_trans hj hb)]
  exact kk
theorem G_aastNN (t : Nat) {a j len : Nat} {C : String} (hd : gD X pc .aastore 1 pc') (h2 : t = 2 ∨ t = 3) (ht : T.1 a = 100 + t) (hl : T.2.1 a = len) (hb : len < 2 ^ 31) (hj : j < len) (hC : gAT t = .object C) (kk : G E X pc' ls st T gi (gu gr a j none) k n Q) : G E X pc ls (.null :: .int (nI j) :: .ref a :: st) T gi gr k n Q := by
  refine G_aastN t hd h2 ht (vp_inN hl hj hb) hC ?_
  rw [nI_clamp (Nat.lt_trans hj hb)]
  exact kk
end GN
end
section
def mDV_init : gX := (⟨"DamageView", "<init>", "(II)V"⟩, prog_1_method_1_code, 3, none, { frames := 4, cells := 37, slots := 1448, locals := 88 })
def mSC_init : gX := (⟨"DamageView$Screen", "<init>", "()V"⟩, prog_7_method_1_code, 1, none, { frames := 1, cells := 2, slots := 768, locals := 21 })
def mDV_nearest : gX := (⟨"DamageView", "nearest", "(III)I"⟩, prog_1_method_21_code, 3, some FieldType.int, { frames := 0, cells := 0, slots := 0, locals := 0 })
def mLA_init : gX := (⟨"DamageView$Layout", "<init>", "(II)V"⟩, prog_6_method_1_code, 3, none, { frames := 2, cells := 28, slots := 643, locals := 41 })
def mBD_init : gX := (⟨"DamageView$Bounds", "<init>", "()V"⟩, prog_3_method_1_code, 1, none, { frames := 1, cells := 25, slots := 600, locals := 21 })
def mDV_addBox : gX := (⟨"DamageView", "addBox", "(ILDamageView$Box;)I"⟩, prog_1_method_26_code, 5, some FieldType.int, { frames := 3, cells := 3, slots := 17, locals := 64 })
def mBX_init : gX := (⟨"DamageView$Box", "<init>", "(IILDamageView$Box;)V"⟩, prog_4_method_1_code, 4, none, { frames := 2, cells := 2, slots := 8, locals := 41 })
def mAR_init : gX := (⟨"DamageView$Area", "<init>", "()V"⟩, prog_2_method_1_code, 1, none, { frames := 1, cells := 0, slots := 0, locals := 21 })
def mDV_showChanges : gX := (⟨"DamageView", "showChanges", "()V"⟩, prog_1_method_33_code, 2, none, { frames := 3, cells := 0, slots := 0, locals := 67 })
def mBX_findArea : gX := (⟨"DamageView$Box", "findArea", "([I)V"⟩, prog_4_method_3_code, 2, none, { frames := 2, cells := 0, slots := 0, locals := 42 })
def mAR_copyFrom : gX := (⟨"DamageView$Area", "copyFrom", "(LDamageView$Area;)V"⟩, prog_2_method_6_code, 2, none, { frames := 0, cells := 0, slots := 0, locals := 0 })
def mAR_makeEmpty : gX := (⟨"DamageView$Area", "makeEmpty", "()V"⟩, prog_2_method_5_code, 1, none, { frames := 0, cells := 0, slots := 0, locals := 0 })
def mAR_takeEdges : gX := (⟨"DamageView$Area", "takeEdges", "([II)V"⟩, prog_2_method_7_code, 3, none, { frames := 0, cells := 0, slots := 0, locals := 0 })
def mAR_cutTo : gX := (⟨"DamageView$Area", "cutTo", "(LDamageView$Area;)V"⟩, prog_2_method_8_code, 2, none, { frames := 1, cells := 0, slots := 0, locals := 21 })
def mAR_isEmpty : gX := (⟨"DamageView$Area", "isEmpty", "()Z"⟩, prog_2_method_2_code, 1, some FieldType.boolean, { frames := 0, cells := 0, slots := 0, locals := 0 })
def mBX_canHaveAttention : gX := (⟨"DamageView$Box", "canHaveAttention", "()Z"⟩, prog_4_method_2_code, 1, some FieldType.boolean, { frames := 1, cells := 0, slots := 0, locals := 20 })
def mDV_showBox : gX := (⟨"DamageView", "showBox", "(LDamageView$Box;)V"⟩, prog_1_method_34_code, 3, none, { frames := 2, cells := 0, slots := 0, locals := 45 })
def mDV_colourOf : gX := (⟨"DamageView", "colourOf", "(LDamageView$Box;)I"⟩, prog_1_method_35_code, 2, some FieldType.int, { frames := 0, cells := 0, slots := 0, locals := 0 })
def mAR_isSameAs : gX := (⟨"DamageView$Area", "isSameAs", "(LDamageView$Area;)Z"⟩, prog_2_method_4_code, 2, some FieldType.boolean, { frames := 0, cells := 0, slots := 0, locals := 0 })
def mSC_damageArea : gX := (⟨"DamageView$Screen", "damageArea", "(LDamageView$Area;)V"⟩, prog_7_method_3_code, 4, none, { frames := 1, cells := 0, slots := 0, locals := 22 })
def mAR_has : gX := (⟨"DamageView$Area", "has", "(II)Z"⟩, prog_2_method_3_code, 3, some FieldType.boolean, { frames := 0, cells := 0, slots := 0, locals := 0 })
def mSC_pointOf : gX := (⟨"DamageView$Screen", "pointOf", "(II)I"⟩, prog_7_method_2_code, 2, some FieldType.int, { frames := 0, cells := 0, slots := 0, locals := 0 })
def mDV_box : gX := (⟨"DamageView", "box", "(II)I"⟩, prog_1_method_2_code, 3, some FieldType.int, { frames := 4, cells := 3, slots := 17, locals := 88 })
def mDV_isBox : gX := (⟨"DamageView", "isBox", "(I)Z"⟩, prog_1_method_24_code, 2, some FieldType.boolean, { frames := 0, cells := 0, slots := 0, locals := 0 })
def mDV_constrain : gX := (⟨"DamageView", "constrain", "(IIIII)I"⟩, prog_1_method_3_code, 7, some FieldType.int, { frames := 6, cells := 1, slots := 5, locals := 136 })
def mLA_canJoin : gX := (⟨"DamageView$Layout", "canJoin", "(II)Z"⟩, prog_6_method_3_code, 3, some FieldType.boolean, { frames := 1, cells := 0, slots := 0, locals := 21 })
def mLA_isEdge : gX := (⟨"DamageView$Layout", "isEdge", "(I)Z"⟩, prog_6_method_2_code, 2, some FieldType.boolean, { frames := 0, cells := 0, slots := 0, locals := 0 })
def mLA_isTopOrBottom : gX := (⟨"DamageView$Layout", "isTopOrBottom", "(I)Z"⟩, prog_6_method_4_code, 1, some FieldType.boolean, { frames := 0, cells := 0, slots := 0, locals := 0 })
def mDV_isNear : gX := (⟨"DamageView", "isNear", "(I)Z"⟩, prog_1_method_22_code, 1, some FieldType.boolean, { frames := 0, cells := 0, slots := 0, locals := 0 })
def mLA_freeNumber : gX := (⟨"DamageView$Layout", "freeNumber", "()I"⟩, prog_6_method_5_code, 2, some FieldType.int, { frames := 0, cells := 0, slots := 0, locals := 0 })
def mCN_init : gX := (⟨"DamageView$Constraint", "<init>", "(IIIII)V"⟩, prog_5_method_1_code, 6, none, { frames := 1, cells := 0, slots := 0, locals := 21 })
def mLA_add : gX := (⟨"DamageView$Layout", "add", "(ILDamageView$Constraint;)Z"⟩, prog_6_method_7_code, 4, some FieldType.boolean, { frames := 5, cells := 0, slots := 0, locals := 113 })
def mLA_solve : gX := (⟨"DamageView$Layout", "solve", "()Z"⟩, prog_6_method_10_code, 1, some FieldType.boolean, { frames := 4, cells := 0, slots := 0, locals := 93 })
def mLA_demandAll : gX := (⟨"DamageView$Layout", "demandAll", "()V"⟩, prog_6_method_12_code, 2, none, { frames := 3, cells := 0, slots := 0, locals := 70 })
def mBD_open : gX := (⟨"DamageView$Bounds", "open", "(I)V"⟩, prog_3_method_2_code, 3, none, { frames := 1, cells := 0, slots := 0, locals := 23 })
def mJF_fill : gX := (⟨"java/util/Arrays", "fill", "([II)V"⟩, prog_11_method_103_code, 4, none, { frames := 0, cells := 0, slots := 0, locals := 0 })
def mBD_fix : gX := (⟨"DamageView$Bounds", "fix", "(III)V"⟩, prog_3_method_5_code, 4, none, { frames := 1, cells := 0, slots := 0, locals := 26 })
def mBD_keepAtMost : gX := (⟨"DamageView$Bounds", "keepAtMost", "(III)V"⟩, prog_3_method_8_code, 7, none, { frames := 0, cells := 0, slots := 0, locals := 0 })
def mBD_keepAtLeast : gX := (⟨"DamageView$Bounds", "keepAtLeast", "(III)V"⟩, prog_3_method_7_code, 4, none, { frames := 1, cells := 0, slots := 0, locals := 26 })
def mCN_demandIn : gX := (⟨"DamageView$Constraint", "demandIn", "(LDamageView$Bounds;)V"⟩, prog_5_method_3_code, 2, none, { frames := 2, cells := 0, slots := 0, locals := 49 })
def mLA_chooseBest : gX := (⟨"DamageView$Layout", "chooseBest", "()V"⟩, prog_6_method_13_code, 3, none, { frames := 3, cells := 0, slots := 0, locals := 71 })
def mCN_leastErrorIn : gX := (⟨"DamageView$Constraint", "leastErrorIn", "(LDamageView$Bounds;)V"⟩, prog_5_method_4_code, 2, none, { frames := 2, cells := 0, slots := 0, locals := 50 })
def mBD_fixNear : gX := (⟨"DamageView$Bounds", "fixNear", "(III)I"⟩, prog_3_method_6_code, 5, some FieldType.int, { frames := 1, cells := 0, slots := 0, locals := 26 })
def mBD_lowest : gX := (⟨"DamageView$Bounds", "lowest", "(II)I"⟩, prog_3_method_4_code, 3, some FieldType.int, { frames := 0, cells := 0, slots := 0, locals := 0 })
def mBD_highest : gX := (⟨"DamageView$Bounds", "highest", "(II)I"⟩, prog_3_method_3_code, 3, some FieldType.int, { frames := 0, cells := 0, slots := 0, locals := 0 })
def mDV_remove : gX := (⟨"DamageView", "remove", "(I)Z"⟩, prog_1_method_4_code, 2, some FieldType.boolean, { frames := 6, cells := 0, slots := 0, locals := 134 })
def mLA_constraintAt : gX := (⟨"DamageView$Layout", "constraintAt", "(I)LDamageView$Constraint;"⟩, prog_6_method_6_code, 2, some (FieldType.object "DamageView$Constraint"), { frames := 0, cells := 0, slots := 0, locals := 0 })
def mLA_takeAway : gX := (⟨"DamageView$Layout", "takeAway", "(I)V"⟩, prog_6_method_8_code, 2, none, { frames := 5, cells := 0, slots := 0, locals := 113 })
def mDV_suggest : gX := (⟨"DamageView", "suggest", "(II)Z"⟩, prog_1_method_5_code, 3, some FieldType.boolean, { frames := 5, cells := 0, slots := 0, locals := 115 })
def mLA_solveNear : gX := (⟨"DamageView$Layout", "solveNear", "(II)V"⟩, prog_6_method_11_code, 3, none, { frames := 4, cells := 0, slots := 0, locals := 93 })
def mDV_resize : gX := (⟨"DamageView", "resize", "(II)Z"⟩, prog_1_method_6_code, 3, some FieldType.boolean, { frames := 6, cells := 0, slots := 0, locals := 138 })
def mLA_setSize : gX := (⟨"DamageView$Layout", "setSize", "(II)Z"⟩, prog_6_method_9_code, 6, some FieldType.boolean, { frames := 5, cells := 0, slots := 0, locals := 113 })
def mDV_place : gX := (⟨"DamageView", "place", "(I)I"⟩, prog_1_method_7_code, 2, some FieldType.int, { frames := 1, cells := 0, slots := 0, locals := 21 })
def mDV_error : gX := (⟨"DamageView", "error", "(I)I"⟩, prog_1_method_8_code, 3, some FieldType.int, { frames := 2, cells := 0, slots := 0, locals := 43 })
def mCN_errorIn : gX := (⟨"DamageView$Constraint", "errorIn", "([I)I"⟩, prog_5_method_2_code, 3, some FieldType.int, { frames := 1, cells := 0, slots := 0, locals := 21 })
def mDV_hide : gX := (⟨"DamageView", "hide", "(IZ)Z"⟩, prog_1_method_9_code, 3, some FieldType.boolean, { frames := 4, cells := 0, slots := 0, locals := 88 })
def mDV_isInnerBox : gX := (⟨"DamageView", "isInnerBox", "(I)Z"⟩, prog_1_method_25_code, 2, some FieldType.boolean, { frames := 0, cells := 0, slots := 0, locals := 0 })
def mDV_raise : gX := (⟨"DamageView", "raise", "(I)Z"⟩, prog_1_method_10_code, 2, some FieldType.boolean, { frames := 2, cells := 0, slots := 0, locals := 45 })
def mDV_isLastOfItsParent : gX := (⟨"DamageView", "isLastOfItsParent", "(LDamageView$Box;)Z"⟩, prog_1_method_27_code, 4, some FieldType.boolean, { frames := 0, cells := 0, slots := 0, locals := 0 })
def mDV_bringToFront : gX := (⟨"DamageView", "bringToFront", "(LDamageView$Box;)V"⟩, prog_1_method_28_code, 4, none, { frames := 0, cells := 0, slots := 0, locals := 0 })
def mDV_hit : gX := (⟨"DamageView", "hit", "(II)I"⟩, prog_1_method_11_code, 3, some FieldType.int, { frames := 3, cells := 0, slots := 0, locals := 71 })
def mDV_frontBox : gX := (⟨"DamageView", "frontBox", "(II)LDamageView$Box;"⟩, prog_1_method_29_code, 6, some (FieldType.object "DamageView$Box"), { frames := 2, cells := 0, slots := 0, locals := 46 })
def mDV_frontChild : gX := (⟨"DamageView", "frontChild", "(LDamageView$Box;II)LDamageView$Box;"⟩, prog_1_method_30_code, 5, some (FieldType.object "DamageView$Box"), { frames := 1, cells := 0, slots := 0, locals := 22 })
def mDV_numberOf : gX := (⟨"DamageView", "numberOf", "(LDamageView$Box;)I"⟩, prog_1_method_23_code, 1, some FieldType.int, { frames := 0, cells := 0, slots := 0, locals := 0 })
def mDV_press : gX := (⟨"DamageView", "press", "(II)I"⟩, prog_1_method_12_code, 4, some FieldType.int, { frames := 4, cells := 0, slots := 0, locals := 88 })
def mDV_release : gX := (⟨"DamageView", "release", "(II)I"⟩, prog_1_method_13_code, 4, some FieldType.int, { frames := 4, cells := 0, slots := 0, locals := 88 })
def mDV_activate : gX := (⟨"DamageView", "activate", "(LDamageView$Box;)V"⟩, prog_1_method_32_code, 3, none, { frames := 0, cells := 0, slots := 0, locals := 0 })
def mDV_step : gX := (⟨"DamageView", "step", "(Z)I"⟩, prog_1_method_14_code, 6, some FieldType.int, { frames := 4, cells := 0, slots := 0, locals := 88 })
def mJM_floorMod : gX := (⟨"java/lang/Math", "floorMod", "(II)I"⟩, prog_10_method_50_code, 3, some FieldType.int, { frames := 0, cells := 0, slots := 0, locals := 0 })
def mDV_key : gX := (⟨"DamageView", "key", "()I"⟩, prog_1_method_15_code, 1, some FieldType.int, { frames := 4, cells := 0, slots := 0, locals := 88 })
def mDV_attention : gX := (⟨"DamageView", "attention", "()I"⟩, prog_1_method_16_code, 1, some FieldType.int, { frames := 1, cells := 0, slots := 0, locals := 20 })
def mDV_count : gX := (⟨"DamageView", "count", "(I)I"⟩, prog_1_method_17_code, 2, some FieldType.int, { frames := 1, cells := 0, slots := 0, locals := 21 })
def mDV_damage : gX := (⟨"DamageView", "damage", "()I"⟩, prog_1_method_18_code, 1, some FieldType.int, { frames := 1, cells := 0, slots := 0, locals := 22 })
def mSC_damagedPoints : gX := (⟨"DamageView$Screen", "damagedPoints", "()I"⟩, prog_7_method_4_code, 3, some FieldType.int, { frames := 0, cells := 0, slots := 0, locals := 0 })
def mDV_paint : gX := (⟨"DamageView", "paint", "()I"⟩, prog_1_method_19_code, 4, some FieldType.int, { frames := 4, cells := 0, slots := 0, locals := 94 })
def mSC_isDamaged : gX := (⟨"DamageView$Screen", "isDamaged", "(II)Z"⟩, prog_7_method_5_code, 3, some FieldType.boolean, { frames := 1, cells := 0, slots := 0, locals := 21 })
def mDV_pictureAt : gX := (⟨"DamageView", "pictureAt", "(II)I"⟩, prog_1_method_31_code, 4, some FieldType.int, { frames := 3, cells := 0, slots := 0, locals := 71 })
def mSC_repair : gX := (⟨"DamageView$Screen", "repair", "(III)Z"⟩, prog_7_method_7_code, 6, some FieldType.boolean, { frames := 1, cells := 0, slots := 0, locals := 21 })
def mDV_pixel : gX := (⟨"DamageView", "pixel", "(II)I"⟩, prog_1_method_20_code, 4, some FieldType.int, { frames := 2, cells := 0, slots := 0, locals := 43 })
def mSC_frameAt : gX := (⟨"DamageView$Screen", "frameAt", "(II)I"⟩, prog_7_method_6_code, 3, some FieldType.int, { frames := 1, cells := 0, slots := 0, locals := 21 })
def mLW_cell : gX := (⟨"DamageViewLaw", "cell", "([II)I"⟩, method_2_code, 2, some FieldType.int, { frames := 0, cells := 0, slots := 0, locals := 0 })
def mMO_init : gX := (⟨"DamageViewModel", "<init>", "(II)V"⟩, prog_9_method_1_code, 3, none, { frames := 5, cells := 22, slots := 3642, locals := 117 })
def mMO_look : gX := (⟨"DamageViewModel", "look", "()V"⟩, prog_9_method_7_code, 5, none, { frames := 4, cells := 0, slots := 0, locals := 93 })
def mMO_can : gX := (⟨"DamageViewModel", "can", "(I)Z"⟩, prog_9_method_5_code, 2, some FieldType.boolean, { frames := 3, cells := 0, slots := 0, locals := 72 })
def mMO_someArea : gX := (⟨"DamageViewModel", "someArea", "(I)Z"⟩, prog_9_method_4_code, 4, some FieldType.boolean, { frames := 2, cells := 0, slots := 0, locals := 49 })
def mMO_inArea : gX := (⟨"DamageViewModel", "inArea", "(III)Z"⟩, prog_9_method_3_code, 7, some FieldType.boolean, { frames := 1, cells := 0, slots := 0, locals := 23 })
def mMO_covers : gX := (⟨"DamageViewModel", "covers", "(III)Z"⟩, prog_9_method_2_code, 4, some FieldType.boolean, { frames := 0, cells := 0, slots := 0, locals := 0 })
def mMO_colour : gX := (⟨"DamageViewModel", "colour", "(I)I"⟩, prog_9_method_6_code, 3, some FieldType.int, { frames := 0, cells := 0, slots := 0, locals := 0 })
def mMO_box : gX := (⟨"DamageViewModel", "box", "(II)I"⟩, prog_9_method_21_code, 3, some FieldType.int, { frames := 5, cells := 0, slots := 0, locals := 117 })
def mMO_isBox : gX := (⟨"DamageViewModel", "isBox", "(I)Z"⟩, prog_9_method_19_code, 2, some FieldType.boolean, { frames := 0, cells := 0, slots := 0, locals := 0 })
def mMO_constrain : gX := (⟨"DamageViewModel", "constrain", "(IIIII)I"⟩, prog_9_method_22_code, 7, some FieldType.int, { frames := 6, cells := 0, slots := 0, locals := 141 })
def mMO_isEdge : gX := (⟨"DamageViewModel", "isEdge", "(I)Z"⟩, prog_9_method_20_code, 2, some FieldType.boolean, { frames := 0, cells := 0, slots := 0, locals := 0 })
def mMO_origin : gX := (⟨"DamageViewModel", "origin", "(I)I"⟩, prog_9_method_17_code, 1, some FieldType.int, { frames := 0, cells := 0, slots := 0, locals := 0 })
def mMO_solve : gX := (⟨"DamageViewModel", "solve", "(II)Z"⟩, prog_9_method_18_code, 5, some FieldType.boolean, { frames := 5, cells := 0, slots := 0, locals := 117 })
def mMO_required : gX := (⟨"DamageViewModel", "required", "()V"⟩, prog_9_method_16_code, 2, none, { frames := 3, cells := 0, slots := 0, locals := 69 })
def mMO_exactly : gX := (⟨"DamageViewModel", "exactly", "(III)V"⟩, prog_9_method_10_code, 4, none, { frames := 2, cells := 0, slots := 0, locals := 46 })
def mMO_atLeast : gX := (⟨"DamageViewModel", "atLeast", "(III)V"⟩, prog_9_method_9_code, 4, none, { frames := 1, cells := 0, slots := 0, locals := 23 })
def mMO_row : gX := (⟨"DamageViewModel", "row", "(III)V"⟩, prog_9_method_8_code, 4, none, { frames := 0, cells := 0, slots := 0, locals := 0 })
def mMO_conflict : gX := (⟨"DamageViewModel", "conflict", "()Z"⟩, prog_9_method_12_code, 3, some FieldType.boolean, { frames := 1, cells := 0, slots := 0, locals := 23 })
def mMO_lower : gX := (⟨"DamageViewModel", "lower", "()Z"⟩, prog_9_method_11_code, 4, some FieldType.boolean, { frames := 0, cells := 0, slots := 0, locals := 0 })
def mMO_settle : gX := (⟨"DamageViewModel", "settle", "(III)I"⟩, prog_9_method_14_code, 7, some FieldType.int, { frames := 3, cells := 0, slots := 0, locals := 69 })
def mMO_most : gX := (⟨"DamageViewModel", "most", "(II)I"⟩, prog_9_method_13_code, 5, some FieldType.int, { frames := 1, cells := 0, slots := 0, locals := 23 })
def mMO_soft : gX := (⟨"DamageViewModel", "soft", "(I)V"⟩, prog_9_method_15_code, 3, none, { frames := 4, cells := 0, slots := 0, locals := 95 })
def mMO_remove : gX := (⟨"DamageViewModel", "remove", "(I)Z"⟩, prog_9_method_24_code, 3, some FieldType.boolean, { frames := 6, cells := 0, slots := 0, locals := 141 })
def mMO_isConstraint : gX := (⟨"DamageViewModel", "isConstraint", "(I)Z"⟩, prog_9_method_23_code, 2, some FieldType.boolean, { frames := 0, cells := 0, slots := 0, locals := 0 })
def mMO_suggest : gX := (⟨"DamageViewModel", "suggest", "(II)Z"⟩, prog_9_method_25_code, 4, some FieldType.boolean, { frames := 6, cells := 0, slots := 0, locals := 141 })
def mMO_resize : gX := (⟨"DamageViewModel", "resize", "(II)Z"⟩, prog_9_method_26_code, 6, some FieldType.boolean, { frames := 6, cells := 0, slots := 0, locals := 141 })
def mMO_place : gX := (⟨"DamageViewModel", "place", "(I)I"⟩, prog_9_method_27_code, 2, some FieldType.int, { frames := 1, cells := 0, slots := 0, locals := 21 })
def mMO_error : gX := (⟨"DamageViewModel", "error", "(I)I"⟩, prog_9_method_28_code, 3, some FieldType.int, { frames := 1, cells := 0, slots := 0, locals := 21 })
def mMO_hide : gX := (⟨"DamageViewModel", "hide", "(IZ)Z"⟩, prog_9_method_29_code, 3, some FieldType.boolean, { frames := 5, cells := 0, slots := 0, locals := 117 })
def mMO_raise : gX := (⟨"DamageViewModel", "raise", "(I)Z"⟩, prog_9_method_31_code, 3, some FieldType.boolean, { frames := 2, cells := 0, slots := 0, locals := 49 })
def mMO_isLast : gX := (⟨"DamageViewModel", "isLast", "(I)Z"⟩, prog_9_method_30_code, 4, some FieldType.boolean, { frames := 0, cells := 0, slots := 0, locals := 0 })
def mMO_hit : gX := (⟨"DamageViewModel", "hit", "(II)I"⟩, prog_9_method_33_code, 5, some FieldType.int, { frames := 2, cells := 0, slots := 0, locals := 49 })
def mMO_inFront : gX := (⟨"DamageViewModel", "inFront", "(II)Z"⟩, prog_9_method_32_code, 7, some FieldType.boolean, { frames := 0, cells := 0, slots := 0, locals := 0 })
def mMO_press : gX := (⟨"DamageViewModel", "press", "(II)I"⟩, prog_9_method_34_code, 5, some FieldType.int, { frames := 5, cells := 0, slots := 0, locals := 117 })
def mMO_release : gX := (⟨"DamageViewModel", "release", "(II)I"⟩, prog_9_method_36_code, 5, some FieldType.int, { frames := 5, cells := 0, slots := 0, locals := 117 })
def mMO_activate : gX := (⟨"DamageViewModel", "activate", "(I)V"⟩, prog_9_method_35_code, 4, none, { frames := 0, cells := 0, slots := 0, locals := 0 })
def mMO_step : gX := (⟨"DamageViewModel", "step", "(Z)I"⟩, prog_9_method_37_code, 5, some FieldType.int, { frames := 5, cells := 0, slots := 0, locals := 117 })
def mMO_key : gX := (⟨"DamageViewModel", "key", "()I"⟩, prog_9_method_38_code, 2, some FieldType.int, { frames := 5, cells := 0, slots := 0, locals := 117 })
def mMO_attention : gX := (⟨"DamageViewModel", "attention", "()I"⟩, prog_9_method_39_code, 1, some FieldType.int, { frames := 0, cells := 0, slots := 0, locals := 0 })
def mMO_count : gX := (⟨"DamageViewModel", "count", "(I)I"⟩, prog_9_method_40_code, 2, some FieldType.int, { frames := 1, cells := 0, slots := 0, locals := 21 })
def mMO_damage : gX := (⟨"DamageViewModel", "damage", "()I"⟩, prog_9_method_41_code, 3, some FieldType.int, { frames := 0, cells := 0, slots := 0, locals := 0 })
def mMO_paint : gX := (⟨"DamageViewModel", "paint", "()I"⟩, prog_9_method_42_code, 5, some FieldType.int, { frames := 3, cells := 0, slots := 0, locals := 73 })
def mMO_pixel : gX := (⟨"DamageViewModel", "pixel", "(II)I"⟩, prog_9_method_43_code, 3, some FieldType.int, { frames := 0, cells := 0, slots := 0, locals := 0 })
def mLW_law : gX := (x, code, 4, ret, room_1)
theorem kcDV_w : ∀ w ∈ u_ws "DamageView" TbDV 7, w ∈ gTbl := by
  intro w hw
  obtain ⟨k, hk, rfl⟩ := List.mem_map.mp hw
  have hk := List.mem_range.mp hk
  match k, hk with
  | 0, _ => exact gTbl_in (i := 256) (by decide +kernel) (by decide +kernel)
  | 1, _ => exact gTbl_in (i := 258) (by decide +kernel) (by decide +kernel)
  | 2, _ => exact gTbl_in (i := 260) (by decide +kernel) (by decide +kernel)
  | 3, _ => exact gTbl_in (i := 262) (by decide +kernel) (by decide +kernel)
  | 4, _ => exact gTbl_in (i := 264) (by decide +kernel) (by decide +kernel)
  | 5, _ => exact gTbl_in (i := 266) (by decide +kernel) (by decide +kernel)
  | 6, _ => exact gTbl_in (i := 268) (by decide +kernel) (by decide +kernel)
theorem kcDV : gCls 0 "DamageView" TbDV 7 tyDV := ⟨rfl, kcDV_w, by decide +kernel, by decide +kernel⟩
theorem kcSC_w : ∀ w ∈ u_ws "DamageView$Screen" TbSC 2, w ∈ gTbl := by
  intro w hw
  obtain ⟨k, hk, rfl⟩ := List.mem_map.mp hw
  have hk := List.mem_range.mp hk
  match k, hk with
  | 0, _ => exact gTbl_in (i := 63) (by decide +kernel) (by decide +kernel)
  | 1, _ => exact gTbl_in (i := 65) (by decide +kernel) (by decide +kernel)
theorem kcSC : gCls 1 "DamageView$Screen" TbSC 2 tySC := ⟨rfl, kcSC_w, by decide +kernel, by decide +kernel⟩
theorem kcLA_w : ∀ w ∈ u_ws "DamageView$Layout" TbLA 6, w ∈ gTbl := by
  intro w hw
  obtain ⟨k, hk, rfl⟩ := List.mem_map.mp hw
  have hk := List.mem_range.mp hk
  match k, hk with
  | 0, _ => exact gTbl_in (i := 110) (by decide +kernel) (by decide +kernel)
  | 1, _ => exact gTbl_in (i := 112) (by decide +kernel) (by decide +kernel)
  | 2, _ => exact gTbl_in (i := 114) (by decide +kernel) (by decide +kernel)
  | 3, _ => exact gTbl_in (i := 116) (by decide +kernel) (by decide +kernel)
  | 4, _ => exact gTbl_in (i := 118) (by decide +kernel) (by decide +kernel)
  | 5, _ => exact gTbl_in (i := 120) (by decide +kernel) (by decide +kernel)
theorem kcLA : gCls 2 "DamageView$Layout" TbLA 6 tyLA := ⟨rfl, kcLA_w, by decide +kernel, by decide +kernel⟩
theorem kcBD_w : ∀ w ∈ u_ws "DamageView$Bounds" TbBD 3, w ∈ gTbl := by
  intro w hw
  obtain ⟨k, hk, rfl⟩ := List.mem_map.mp hw
  have hk := List.mem_range.mp hk
  match k, hk with
  | 0, _ => exact gTbl_in (i := 95) (by decide +kernel) (by decide +kernel)
  | 1, _ => exact gTbl_in (i := 97) (by decide +kernel) (by decide +kernel)
  | 2, _ => exact gTbl_in (i := 99) (by decide +kernel) (by decide +kernel)
theorem kcBD : gCls 3 "DamageView$Bounds" TbBD 3 tyBD := ⟨rfl, kcBD_w, by decide +kernel, by decide +kernel⟩
theorem kcBX_w : ∀ w ∈ u_ws "DamageView$Box" TbBX 9, w ∈ gTbl := by
  intro w hw
  obtain ⟨k, hk, rfl⟩ := List.mem_map.mp hw
  have hk := List.mem_range.mp hk
  match k, hk with
  | 0, _ => exact gTbl_in (i := 167) (by decide +kernel) (by decide +kernel)
  | 1, _ => exact gTbl_in (i := 169) (by decide +kernel) (by decide +kernel)
  | 2, _ => exact gTbl_in (i := 171) (by decide +kernel) (by decide +kernel)
  | 3, _ => exact gTbl_in (i := 173) (by decide +kernel) (by decide +kernel)
  | 4, _ => exact gTbl_in (i := 175) (by decide +kernel) (by decide +kernel)
  | 5, _ => exact gTbl_in (i := 177) (by decide +kernel) (by decide +kernel)
  | 6, _ => exact gTbl_in (i := 179) (by decide +kernel) (by decide +kernel)
  | 7, _ => exact gTbl_in (i := 181) (by decide +kernel) (by decide +kernel)
  | 8, _ => exact gTbl_in (i := 183) (by decide +kernel) (by decide +kernel)
theorem kcBX : gCls 4 "DamageView$Box" TbBX 9 tyBX := ⟨rfl, kcBX_w, by decide +kernel, by decide +kernel⟩
theorem kcAR_w : ∀ w ∈ u_ws "DamageView$Area" TbAR 4, w ∈ gTbl := by
  intro w hw
  obtain ⟨k, hk, rfl⟩ := List.mem_map.mp hw
  have hk := List.mem_range.mp hk
  match k, hk with
  | 0, _ => exact gTbl_in (i := 142) (by decide +kernel) (by decide +kernel)
  | 1, _ => exact gTbl_in (i := 144) (by decide +kernel) (by decide +kernel)
  | 2, _ => exact gTbl_in (i := 146) (by decide +kernel) (by decide +kernel)
  | 3, _ => exact gTbl_in (i := 148) (by decide +kernel) (by decide +kernel)
theorem kcAR : gCls 5 "DamageView$Area" TbAR 4 tyAR := ⟨rfl, kcAR_w, by decide +kernel, by decide +kernel⟩
theorem kcCN_w : ∀ w ∈ u_ws "DamageView$Constraint" TbCN 5, w ∈ gTbl := by
  intro w hw
  obtain ⟨k, hk, rfl⟩ := List.mem_map.mp hw
  have hk := List.mem_range.mp hk
  match k, hk with
  | 0, _ => exact gTbl_in (i := 313) (by decide +kernel) (by decide +kernel)
  | 1, _ => exact gTbl_in (i := 315) (by decide +kernel) (by decide +kernel)
  | 2, _ => exact gTbl_in (i := 317) (by decide +kernel) (by decide +kernel)
  | 3, _ => exact gTbl_in (i := 319) (by decide +kernel) (by decide +kernel)
  | 4, _ => exact gTbl_in (i := 321) (by decide +kernel) (by decide +kernel)
theorem kcCN : gCls 6 "DamageView$Constraint" TbCN 5 tyCN := ⟨rfl, kcCN_w, by decide +kernel, by decide +kernel⟩
theorem kcMO_w : ∀ w ∈ u_ws "DamageViewModel" TbMO 29, w ∈ gTbl := by
  intro w hw
  obtain ⟨k, hk, rfl⟩ := List.mem_map.mp hw
  have hk := List.mem_range.mp hk
  match k, hk with
  | 0, _ => exact gTbl_in (i := 592) (by decide +kernel) (by decide +kernel)
  | 1, _ => exact gTbl_in (i := 594) (by decide +kernel) (by decide +kernel)
  | 2, _ => exact gTbl_in (i := 596) (by decide +kernel) (by decide +kernel)
  | 3, _ => exact gTbl_in (i := 598) (by decide +kernel) (by decide +kernel)
  | 4, _ => exact gTbl_in (i := 600) (by decide +kernel) (by decide +kernel)
  | 5, _ => exact gTbl_in (i := 602) (by decide +kernel) (by decide +kernel)
  | 6, _ => exact gTbl_in (i := 604) (by decide +kernel) (by decide +kernel)
  | 7, _ => exact gTbl_in (i := 606) (by decide +kernel) (by decide +kernel)
  | 8, _ => exact gTbl_in (i := 608) (by decide +kernel) (by decide +kernel)
  | 9, _ => exact gTbl_in (i := 610) (by decide +kernel) (by decide +kernel)
  | 10, _ => exact gTbl_in (i := 612) (by decide +kernel) (by decide +kernel)
  | 11, _ => exact gTbl_in (i := 614) (by decide +kernel) (by decide +kernel)
  | 12, _ => exact gTbl_in (i := 616) (by decide +kernel) (by decide +kernel)
  | 13, _ => exact gTbl_in (i := 618) (by decide +kernel) (by decide +kernel)
  | 14, _ => exact gTbl_in (i := 620) (by decide +kernel) (by decide +kernel)
  | 15, _ => exact gTbl_in (i := 622) (by decide +kernel) (by decide +kernel)
  | 16, _ => exact gTbl_in (i := 624) (by decide +kernel) (by decide +kernel)
  | 17, _ => exact gTbl_in (i := 626) (by decide +kernel) (by decide +kernel)
  | 18, _ => exact gTbl_in (i := 628) (by decide +kernel) (by decide +kernel)
  | 19, _ => exact gTbl_in (i := 630) (by decide +kernel) (by decide +kernel)
  | 20, _ => exact gTbl_in (i := 632) (by decide +kernel) (by decide +kernel)
  | 21, _ => exact gTbl_in (i := 634) (by decide +kernel) (by decide +kernel)
  | 22, _ => exact gTbl_in (i := 636) (by decide +kernel) (by decide +kernel)
  | 23, _ => exact gTbl_in (i := 638) (by decide +kernel) (by decide +kernel)
  | 24, _ => exact gTbl_in (i := 640) (by decide +kernel) (by decide +kernel)
  | 25, _ => exact gTbl_in (i := 642) (by decide +kernel) (by decide +kernel)
  | 26, _ => exact gTbl_in (i := 644) (by decide +kernel) (by decide +kernel)
  | 27, _ => exact gTbl_in (i := 646) (by decide +kernel) (by decide +kernel)
  | 28, _ => exact gTbl_in (i := 648) (by decide +kernel) (by decide +kernel)
  | k + 29, h => exact absurd h (by omega)
theorem kcMO : gCls 7 "DamageViewModel" TbMO 29 tyMO := ⟨rfl, kcMO_w, by decide +kernel, by decide +kernel⟩
theorem fAR_9 : gFld "DamageView$Area" 9 5 0 false := ⟨_, _, _, _, kcAR, by decide, by decide +kernel, gTbl_in (i := 138) (by decide +kernel) (by decide +kernel)⟩
theorem fAR_15 : gFld "DamageView$Area" 15 5 1 false := ⟨_, _, _, _, kcAR, by decide, by decide +kernel, gTbl_in (i := 139) (by decide +kernel) (by decide +kernel)⟩
theorem fAR_18 : gFld "DamageView$Area" 18 5 2 false := ⟨_, _, _, _, kcAR, by decide, by decide +kernel, gTbl_in (i := 140) (by decide +kernel) (by decide +kernel)⟩
theorem fAR_21 : gFld "DamageView$Area" 21 5 3 false := ⟨_, _, _, _, kcAR, by decide, by decide +kernel, gTbl_in (i := 141) (by decide +kernel) (by decide +kernel)⟩
theorem wAR_9 : gFldW "DamageView$Area" 9 5 0 false false (.int) := ⟨_, _, _, _, kcAR, by decide, by decide +kernel, gTbl_in (i := 138) (by decide +kernel) (by decide +kernel), rfl, rfl, fun h => by cases h⟩
theorem wAR_15 : gFldW "DamageView$Area" 15 5 1 false false (.int) := ⟨_, _, _, _, kcAR, by decide, by decide +kernel, gTbl_in (i := 139) (by decide +kernel) (by decide +kernel), rfl, rfl, fun h => by cases h⟩
theorem wAR_18 : gFldW "DamageView$Area" 18 5 2 false false (.int) := ⟨_, _, _, _, kcAR, by decide, by decide +kernel, gTbl_in (i := 140) (by decide +kernel) (by decide +kernel), rfl, rfl, fun h => by cases h⟩
theorem wAR_21 : gFldW "DamageView$Area" 21 5 3 false false (.int) := ⟨_, _, _, _, kcAR, by decide, by decide +kernel, gTbl_in (i := 141) (by decide +kernel) (by decide +kernel), rfl, rfl, fun h => by cases h⟩
theorem mnBD_9 : Cond.classLink "DamageView$Bounds" 9 "[[I" ∈ gTbl := gTbl_in (i := 89) (by decide +kernel) (by decide +kernel)
theorem wBD_11 : gFldW "DamageView$Bounds" 11 3 0 true true (.array (.array .int)) := ⟨_, _, _, _, kcBD, by decide, by decide +kernel, gTbl_in (i := 91) (by decide +kernel) (by decide +kernel), rfl, rfl, fun _ => rfl⟩
theorem wBD_22 : gFldW "DamageView$Bounds" 22 3 1 false false (.int) := ⟨_, _, _, _, kcBD, by decide, by decide +kernel, gTbl_in (i := 92) (by decide +kernel) (by decide +kernel), rfl, rfl, fun h => by cases h⟩
theorem wBD_26 : gFldW "DamageView$Bounds" 26 3 2 false false (.boolean) := ⟨_, _, _, _, kcBD, by decide, by decide +kernel, gTbl_in (i := 93) (by decide +kernel) (by decide +kernel), rfl, rfl, fun h => by cases h⟩
theorem fBD_22 : gFld "DamageView$Bounds" 22 3 1 false := ⟨_, _, _, _, kcBD, by decide, by decide +kernel, gTbl_in (i := 92) (by decide +kernel) (by decide +kernel)⟩
theorem fBD_11 : gFld "DamageView$Bounds" 11 3 0 true := ⟨_, _, _, _, kcBD, by decide, by decide +kernel, gTbl_in (i := 91) (by decide +kernel) (by decide +kernel)⟩
theorem kBD_30 : Cond.constant "DamageView$Bounds" 30 268435456 ∈ gTbl := gTbl_in (i := 341) (by decide +kernel) (by decide +kernel)
theorem nwBX_9 : gNw "DamageView$Box" 9 5 4 := ⟨_, _, _, kcAR, by decide +kernel, gTbl_in (i := 132) (by decide +kernel) (by decide +kernel), gTbl_in (i := 133) (by decide +kernel) (by decide +kernel), gTbl_in (i := 42) (by decide +kernel) (by decide +kernel)⟩
theorem wBX_12 : gFldW "DamageView$Box" 12 4 3 true true (.object "DamageView$Area") := ⟨_, _, _, _, kcBX, by decide, by decide +kernel, gTbl_in (i := 157) (by decide +kernel) (by decide +kernel), rfl, rfl, fun _ => rfl⟩
theorem wBX_18 : gFldW "DamageView$Box" 18 4 4 true true (.object "DamageView$Area") := ⟨_, _, _, _, kcBX, by decide, by decide +kernel, gTbl_in (i := 159) (by decide +kernel) (by decide +kernel), rfl, rfl, fun _ => rfl⟩
theorem wBX_21 : gFldW "DamageView$Box" 21 4 0 true false (.int) := ⟨_, _, _, _, kcBX, by decide, by decide +kernel, gTbl_in (i := 151) (by decide +kernel) (by decide +kernel), rfl, rfl, fun _ => rfl⟩
theorem wBX_25 : gFldW "DamageView$Box" 25 4 1 true false (.int) := ⟨_, _, _, _, kcBX, by decide, by decide +kernel, gTbl_in (i := 153) (by decide +kernel) (by decide +kernel), rfl, rfl, fun _ => rfl⟩
theorem wBX_28 : gFldW "DamageView$Box" 28 4 2 true true (.object "DamageView$Box") := ⟨_, _, _, _, kcBX, by decide, by decide +kernel, gTbl_in (i := 155) (by decide +kernel) (by decide +kernel), rfl, rfl, fun _ => rfl⟩
theorem wBX_32 : gFldW "DamageView$Box" 32 4 5 false false (.int) := ⟨_, _, _, _, kcBX, by decide, by decide +kernel, gTbl_in (i := 161) (by decide +kernel) (by decide +kernel), rfl, rfl, fun h => by cases h⟩
theorem fBX_25 : gFld "DamageView$Box" 25 4 1 false := ⟨_, _, _, _, kcBX, by decide, by decide +kernel, gTbl_in (i := 153) (by decide +kernel) (by decide +kernel)⟩
theorem fBX_12 : gFld "DamageView$Box" 12 4 3 true := ⟨_, _, _, _, kcBX, by decide, by decide +kernel, gTbl_in (i := 157) (by decide +kernel) (by decide +kernel)⟩
theorem fBX_18 : gFld "DamageView$Box" 18 4 4 true := ⟨_, _, _, _, kcBX, by decide, by decide +kernel, gTbl_in (i := 159) (by decide +kernel) (by decide +kernel)⟩
theorem fBX_43 : gFld "DamageView$Box" 43 4 7 false := ⟨_, _, _, _, kcBX, by decide, by decide +kernel, gTbl_in (i := 164) (by decide +kernel) (by decide +kernel)⟩
theorem fBX_21 : gFld "DamageView$Box" 21 4 0 false := ⟨_, _, _, _, kcBX, by decide, by decide +kernel, gTbl_in (i := 151) (by decide +kernel) (by decide +kernel)⟩
theorem fBX_28 : gFld "DamageView$Box" 28 4 2 true := ⟨_, _, _, _, kcBX, by decide, by decide +kernel, gTbl_in (i := 155) (by decide +kernel) (by decide +kernel)⟩
theorem wCN_9 : gFldW "DamageView$Constraint" 9 6 1 true false (.int) := ⟨_, _, _, _, kcCN, by decide, by decide +kernel, gTbl_in (i := 309) (by decide +kernel) (by decide +kernel), rfl, rfl, fun _ => rfl⟩
theorem wCN_15 : gFldW "DamageView$Constraint" 15 6 2 true false (.int) := ⟨_, _, _, _, kcCN, by decide, by decide +kernel, gTbl_in (i := 310) (by decide +kernel) (by decide +kernel), rfl, rfl, fun _ => rfl⟩
theorem wCN_18 : gFldW "DamageView$Constraint" 18 6 3 true false (.int) := ⟨_, _, _, _, kcCN, by decide, by decide +kernel, gTbl_in (i := 311) (by decide +kernel) (by decide +kernel), rfl, rfl, fun _ => rfl⟩
theorem wCN_21 : gFldW "DamageView$Constraint" 21 6 4 true false (.int) := ⟨_, _, _, _, kcCN, by decide, by decide +kernel, gTbl_in (i := 312) (by decide +kernel) (by decide +kernel), rfl, rfl, fun _ => rfl⟩
theorem wCN_24 : gFldW "DamageView$Constraint" 24 6 0 true false (.int) := ⟨_, _, _, _, kcCN, by decide, by decide +kernel, gTbl_in (i := 307) (by decide +kernel) (by decide +kernel), rfl, rfl, fun _ => rfl⟩
theorem fCN_18 : gFld "DamageView$Constraint" 18 6 3 false := ⟨_, _, _, _, kcCN, by decide, by decide +kernel, gTbl_in (i := 311) (by decide +kernel) (by decide +kernel)⟩
theorem fCN_9 : gFld "DamageView$Constraint" 9 6 1 false := ⟨_, _, _, _, kcCN, by decide, by decide +kernel, gTbl_in (i := 309) (by decide +kernel) (by decide +kernel)⟩
theorem fCN_15 : gFld "DamageView$Constraint" 15 6 2 false := ⟨_, _, _, _, kcCN, by decide, by decide +kernel, gTbl_in (i := 310) (by decide +kernel) (by decide +kernel)⟩
theorem fCN_21 : gFld "DamageView$Constraint" 21 6 4 false := ⟨_, _, _, _, kcCN, by decide, by decide +kernel, gTbl_in (i := 312) (by decide +kernel) (by decide +kernel)⟩
theorem wLA_9 : gFldW "DamageView$Layout" 9 2 0 true true (.array .int) := ⟨_, _, _, _, kcLA, by decide, by decide +kernel, gTbl_in (i := 102) (by decide +kernel) (by decide +kernel), rfl, rfl, fun _ => rfl⟩
theorem anLA_15 : Cond.classLink "DamageView$Layout" 15 "DamageView$Constraint" ∈ gTbl := gTbl_in (i := 81) (by decide +kernel) (by decide +kernel)
theorem wLA_17 : gFldW "DamageView$Layout" 17 2 2 true true (.array (.object "DamageView$Constraint")) := ⟨_, _, _, _, kcLA, by decide, by decide +kernel, gTbl_in (i := 106) (by decide +kernel) (by decide +kernel), rfl, rfl, fun _ => rfl⟩
theorem nwLA_21 : gNw "DamageView$Layout" 21 3 3 := ⟨_, _, _, kcBD, by decide +kernel, gTbl_in (i := 83) (by decide +kernel) (by decide +kernel), gTbl_in (i := 84) (by decide +kernel) (by decide +kernel), gTbl_in (i := 40) (by decide +kernel) (by decide +kernel)⟩
theorem wLA_24 : gFldW "DamageView$Layout" 24 2 3 true true (.object "DamageView$Bounds") := ⟨_, _, _, _, kcLA, by decide, by decide +kernel, gTbl_in (i := 107) (by decide +kernel) (by decide +kernel), rfl, rfl, fun _ => rfl⟩
theorem wLA_28 : gFldW "DamageView$Layout" 28 2 4 false false (.int) := ⟨_, _, _, _, kcLA, by decide, by decide +kernel, gTbl_in (i := 108) (by decide +kernel) (by decide +kernel), rfl, rfl, fun h => by cases h⟩
theorem wLA_32 : gFldW "DamageView$Layout" 32 2 5 false false (.int) := ⟨_, _, _, _, kcLA, by decide, by decide +kernel, gTbl_in (i := 109) (by decide +kernel) (by decide +kernel), rfl, rfl, fun h => by cases h⟩
theorem fLA_9 : gFld "DamageView$Layout" 9 2 0 true := ⟨_, _, _, _, kcLA, by decide, by decide +kernel, gTbl_in (i := 102) (by decide +kernel) (by decide +kernel)⟩
theorem fLA_35 : gFld "DamageView$Layout" 35 2 1 false := ⟨_, _, _, _, kcLA, by decide, by decide +kernel, gTbl_in (i := 104) (by decide +kernel) (by decide +kernel)⟩
theorem fLA_17 : gFld "DamageView$Layout" 17 2 2 true := ⟨_, _, _, _, kcLA, by decide, by decide +kernel, gTbl_in (i := 106) (by decide +kernel) (by decide +kernel)⟩
theorem fLA_28 : gFld "DamageView$Layout" 28 2 4 false := ⟨_, _, _, _, kcLA, by decide, by decide +kernel, gTbl_in (i := 108) (by decide +kernel) (by decide +kernel)⟩
theorem fLA_32 : gFld "DamageView$Layout" 32 2 5 false := ⟨_, _, _, _, kcLA, by decide, by decide +kernel, gTbl_in (i := 109) (by decide +kernel) (by decide +kernel)⟩
theorem fLA_24 : gFld "DamageView$Layout" 24 2 3 true := ⟨_, _, _, _, kcLA, by decide, by decide +kernel, gTbl_in (i := 107) (by decide +kernel) (by decide +kernel)⟩
theorem fLA_52 : gFld "DamageView$Layout" 52 3 2 false := ⟨_, _, _, _, kcBD, by decide, by decide +kernel, gTbl_in (i := 94) (by decide +kernel) (by decide +kernel)⟩
theorem fLA_74 : gFld "DamageView$Layout" 74 6 0 false := ⟨_, _, _, _, kcCN, by decide, by decide +kernel, gTbl_in (i := 308) (by decide +kernel) (by decide +kernel)⟩
theorem wSC_9 : gFldW "DamageView$Screen" 9 1 0 true true (.array .int) := ⟨_, _, _, _, kcSC, by decide, by decide +kernel, gTbl_in (i := 61) (by decide +kernel) (by decide +kernel), rfl, rfl, fun _ => rfl⟩
theorem wSC_15 : gFldW "DamageView$Screen" 15 1 1 true true (.array .boolean) := ⟨_, _, _, _, kcSC, by decide, by decide +kernel, gTbl_in (i := 62) (by decide +kernel) (by decide +kernel), rfl, rfl, fun _ => rfl⟩
theorem fSC_15 : gFld "DamageView$Screen" 15 1 1 true := ⟨_, _, _, _, kcSC, by decide, by decide +kernel, gTbl_in (i := 62) (by decide +kernel) (by decide +kernel)⟩
theorem fSC_9 : gFld "DamageView$Screen" 9 1 0 true := ⟨_, _, _, _, kcSC, by decide, by decide +kernel, gTbl_in (i := 61) (by decide +kernel) (by decide +kernel)⟩
theorem nwDV_9 : gNw "DamageView" 9 1 2 := ⟨_, _, _, kcSC, by decide +kernel, gTbl_in (i := 55) (by decide +kernel) (by decide +kernel), gTbl_in (i := 56) (by decide +kernel) (by decide +kernel), gTbl_in (i := 38) (by decide +kernel) (by decide +kernel)⟩
theorem wDV_12 : gFldW "DamageView" 12 0 1 true true (.object "DamageView$Screen") := ⟨_, _, _, _, kcDV, by decide, by decide +kernel, gTbl_in (i := 250) (by decide +kernel) (by decide +kernel), rfl, rfl, fun _ => rfl⟩
theorem anDV_16 : Cond.classLink "DamageView" 16 "DamageView$Box" ∈ gTbl := gTbl_in (i := 70) (by decide +kernel) (by decide +kernel)
theorem wDV_18 : gFldW "DamageView" 18 0 2 true true (.array (.object "DamageView$Box")) := ⟨_, _, _, _, kcDV, by decide, by decide +kernel, gTbl_in (i := 251) (by decide +kernel) (by decide +kernel), rfl, rfl, fun _ => rfl⟩
theorem wDV_22 : gFldW "DamageView" 22 0 3 true true (.array (.object "DamageView$Box")) := ⟨_, _, _, _, kcDV, by decide, by decide +kernel, gTbl_in (i := 252) (by decide +kernel) (by decide +kernel), rfl, rfl, fun _ => rfl⟩
theorem nwDV_25 : gNw "DamageView" 25 2 6 := ⟨_, _, _, kcLA, by decide +kernel, gTbl_in (i := 72) (by decide +kernel) (by decide +kernel), gTbl_in (i := 73) (by decide +kernel) (by decide +kernel), gTbl_in (i := 39) (by decide +kernel) (by decide +kernel)⟩
theorem wDV_34 : gFldW "DamageView" 34 0 0 true true (.object "DamageView$Layout") := ⟨_, _, _, _, kcDV, by decide, by decide +kernel, gTbl_in (i := 249) (by decide +kernel) (by decide +kernel), rfl, rfl, fun _ => rfl⟩
theorem fDV_45 : gFld "DamageView" 45 0 4 false := ⟨_, _, _, _, kcDV, by decide, by decide +kernel, gTbl_in (i := 253) (by decide +kernel) (by decide +kernel)⟩
theorem fDV_18 : gFld "DamageView" 18 0 2 true := ⟨_, _, _, _, kcDV, by decide, by decide +kernel, gTbl_in (i := 251) (by decide +kernel) (by decide +kernel)⟩
theorem fDV_34 : gFld "DamageView" 34 0 0 true := ⟨_, _, _, _, kcDV, by decide, by decide +kernel, gTbl_in (i := 249) (by decide +kernel) (by decide +kernel)⟩
theorem nwDV_64 : gNw "DamageView" 64 6 5 := ⟨_, _, _, kcCN, by decide +kernel, gTbl_in (i := 301) (by decide +kernel) (by decide +kernel), gTbl_in (i := 302) (by decide +kernel) (by decide +kernel), gTbl_in (i := 45) (by decide +kernel) (by decide +kernel)⟩
theorem fDV_90 : gFld "DamageView" 90 2 0 true := ⟨_, _, _, _, kcLA, by decide, by decide +kernel, gTbl_in (i := 103) (by decide +kernel) (by decide +kernel)⟩
theorem fDV_101 : gFld "DamageView" 101 4 7 false := ⟨_, _, _, _, kcBX, by decide, by decide +kernel, gTbl_in (i := 165) (by decide +kernel) (by decide +kernel)⟩
theorem wDV_101 : gFldW "DamageView" 101 4 7 false false (.boolean) := ⟨_, _, _, _, kcBX, by decide, by decide +kernel, gTbl_in (i := 165) (by decide +kernel) (by decide +kernel), rfl, rfl, fun h => by cases h⟩
theorem fDV_12 : gFld "DamageView" 12 0 1 true := ⟨_, _, _, _, kcDV, by decide, by decide +kernel, gTbl_in (i := 250) (by decide +kernel) (by decide +kernel)⟩
theorem fDV_113 : gFld "DamageView" 113 4 3 true := ⟨_, _, _, _, kcBX, by decide, by decide +kernel, gTbl_in (i := 158) (by decide +kernel) (by decide +kernel)⟩
theorem fDV_129 : gFld "DamageView" 129 0 6 true := ⟨_, _, _, _, kcDV, by decide, by decide +kernel, gTbl_in (i := 255) (by decide +kernel) (by decide +kernel)⟩
theorem wDV_137 : gFldW "DamageView" 137 0 5 false true (.object "DamageView$Box") := ⟨_, _, _, _, kcDV, by decide, by decide +kernel, gTbl_in (i := 254) (by decide +kernel) (by decide +kernel), rfl, rfl, fun h => by cases h⟩
theorem fDV_137 : gFld "DamageView" 137 0 5 true := ⟨_, _, _, _, kcDV, by decide, by decide +kernel, gTbl_in (i := 254) (by decide +kernel) (by decide +kernel)⟩
theorem wDV_129 : gFldW "DamageView" 129 0 6 false true (.object "DamageView$Box") := ⟨_, _, _, _, kcDV, by decide, by decide +kernel, gTbl_in (i := 255) (by decide +kernel) (by decide +kernel), rfl, rfl, fun h => by cases h⟩
theorem fDV_143 : gFld "DamageView" 143 4 0 false := ⟨_, _, _, _, kcBX, by decide, by decide +kernel, gTbl_in (i := 152) (by decide +kernel) (by decide +kernel)⟩
theorem fDV_152 : gFld "DamageView" 152 4 6 false := ⟨_, _, _, _, kcBX, by decide, by decide +kernel, gTbl_in (i := 163) (by decide +kernel) (by decide +kernel)⟩
theorem nwDV_16 : gNw "DamageView" 16 4 9 := ⟨_, _, _, kcBX, by decide +kernel, gTbl_in (i := 70) (by decide +kernel) (by decide +kernel), gTbl_in (i := 127) (by decide +kernel) (by decide +kernel), gTbl_in (i := 41) (by decide +kernel) (by decide +kernel)⟩
theorem fDV_22 : gFld "DamageView" 22 0 3 true := ⟨_, _, _, _, kcDV, by decide, by decide +kernel, gTbl_in (i := 252) (by decide +kernel) (by decide +kernel)⟩
theorem wDV_45 : gFldW "DamageView" 45 0 4 false false (.int) := ⟨_, _, _, _, kcDV, by decide, by decide +kernel, gTbl_in (i := 253) (by decide +kernel) (by decide +kernel), rfl, rfl, fun h => by cases h⟩
theorem wDV_174 : gFldW "DamageView" 174 2 1 false false (.int) := ⟨_, _, _, _, kcLA, by decide, by decide +kernel, gTbl_in (i := 105) (by decide +kernel) (by decide +kernel), rfl, rfl, fun h => by cases h⟩
theorem fDV_177 : gFld "DamageView" 177 4 2 true := ⟨_, _, _, _, kcBX, by decide, by decide +kernel, gTbl_in (i := 156) (by decide +kernel) (by decide +kernel)⟩
theorem fDV_189 : gFld "DamageView" 189 4 5 false := ⟨_, _, _, _, kcBX, by decide, by decide +kernel, gTbl_in (i := 162) (by decide +kernel) (by decide +kernel)⟩
theorem wDV_152 : gFldW "DamageView" 152 4 6 false false (.int) := ⟨_, _, _, _, kcBX, by decide, by decide +kernel, gTbl_in (i := 163) (by decide +kernel) (by decide +kernel), rfl, rfl, fun h => by cases h⟩
theorem fDV_192 : gFld "DamageView" 192 4 1 false := ⟨_, _, _, _, kcBX, by decide, by decide +kernel, gTbl_in (i := 154) (by decide +kernel) (by decide +kernel)⟩
theorem fDV_195 : gFld "DamageView" 195 4 8 false := ⟨_, _, _, _, kcBX, by decide, by decide +kernel, gTbl_in (i := 166) (by decide +kernel) (by decide +kernel)⟩
theorem wDV_195 : gFldW "DamageView" 195 4 8 false false (.boolean) := ⟨_, _, _, _, kcBX, by decide, by decide +kernel, gTbl_in (i := 166) (by decide +kernel) (by decide +kernel), rfl, rfl, fun h => by cases h⟩
theorem fDV_208 : gFld "DamageView" 208 4 4 true := ⟨_, _, _, _, kcBX, by decide, by decide +kernel, gTbl_in (i := 160) (by decide +kernel) (by decide +kernel)⟩
theorem wDV_189 : gFldW "DamageView" 189 4 5 false false (.int) := ⟨_, _, _, _, kcBX, by decide, by decide +kernel, gTbl_in (i := 162) (by decide +kernel) (by decide +kernel), rfl, rfl, fun h => by cases h⟩
theorem wMO_7 : gFldW "DamageViewModel" 7 7 0 false false (.int) := ⟨_, _, _, _, kcMO, by decide, by decide +kernel, gTbl_in (i := 563) (by decide +kernel) (by decide +kernel), rfl, rfl, fun h => by cases h⟩
theorem wMO_13 : gFldW "DamageViewModel" 13 7 1 true true (.array .int) := ⟨_, _, _, _, kcMO, by decide, by decide +kernel, gTbl_in (i := 564) (by decide +kernel) (by decide +kernel), rfl, rfl, fun _ => rfl⟩
theorem wMO_17 : gFldW "DamageViewModel" 17 7 2 true true (.array .int) := ⟨_, _, _, _, kcMO, by decide, by decide +kernel, gTbl_in (i := 565) (by decide +kernel) (by decide +kernel), rfl, rfl, fun _ => rfl⟩
theorem wMO_20 : gFldW "DamageViewModel" 20 7 3 true true (.array .boolean) := ⟨_, _, _, _, kcMO, by decide, by decide +kernel, gTbl_in (i := 566) (by decide +kernel) (by decide +kernel), rfl, rfl, fun _ => rfl⟩
theorem wMO_24 : gFldW "DamageViewModel" 24 7 4 true true (.array .boolean) := ⟨_, _, _, _, kcMO, by decide, by decide +kernel, gTbl_in (i := 567) (by decide +kernel) (by decide +kernel), rfl, rfl, fun _ => rfl⟩
theorem wMO_27 : gFldW "DamageViewModel" 27 7 5 true true (.array .int) := ⟨_, _, _, _, kcMO, by decide, by decide +kernel, gTbl_in (i := 568) (by decide +kernel) (by decide +kernel), rfl, rfl, fun _ => rfl⟩
theorem wMO_30 : gFldW "DamageViewModel" 30 7 6 true true (.array .int) := ⟨_, _, _, _, kcMO, by decide, by decide +kernel, gTbl_in (i := 569) (by decide +kernel) (by decide +kernel), rfl, rfl, fun _ => rfl⟩
theorem wMO_33 : gFldW "DamageViewModel" 33 7 10 true true (.array .int) := ⟨_, _, _, _, kcMO, by decide, by decide +kernel, gTbl_in (i := 573) (by decide +kernel) (by decide +kernel), rfl, rfl, fun _ => rfl⟩
theorem wMO_36 : gFldW "DamageViewModel" 36 7 11 true true (.array .int) := ⟨_, _, _, _, kcMO, by decide, by decide +kernel, gTbl_in (i := 574) (by decide +kernel) (by decide +kernel), rfl, rfl, fun _ => rfl⟩
theorem wMO_39 : gFldW "DamageViewModel" 39 7 12 true true (.array .boolean) := ⟨_, _, _, _, kcMO, by decide, by decide +kernel, gTbl_in (i := 575) (by decide +kernel) (by decide +kernel), rfl, rfl, fun _ => rfl⟩
theorem wMO_42 : gFldW "DamageViewModel" 42 7 13 true true (.array .int) := ⟨_, _, _, _, kcMO, by decide, by decide +kernel, gTbl_in (i := 576) (by decide +kernel) (by decide +kernel), rfl, rfl, fun _ => rfl⟩
theorem wMO_45 : gFldW "DamageViewModel" 45 7 14 true true (.array .int) := ⟨_, _, _, _, kcMO, by decide, by decide +kernel, gTbl_in (i := 577) (by decide +kernel) (by decide +kernel), rfl, rfl, fun _ => rfl⟩
theorem wMO_48 : gFldW "DamageViewModel" 48 7 15 true true (.array .int) := ⟨_, _, _, _, kcMO, by decide, by decide +kernel, gTbl_in (i := 578) (by decide +kernel) (by decide +kernel), rfl, rfl, fun _ => rfl⟩
theorem wMO_51 : gFldW "DamageViewModel" 51 7 16 true true (.array .int) := ⟨_, _, _, _, kcMO, by decide, by decide +kernel, gTbl_in (i := 579) (by decide +kernel) (by decide +kernel), rfl, rfl, fun _ => rfl⟩
theorem wMO_54 : gFldW "DamageViewModel" 54 7 17 true true (.array .int) := ⟨_, _, _, _, kcMO, by decide, by decide +kernel, gTbl_in (i := 580) (by decide +kernel) (by decide +kernel), rfl, rfl, fun _ => rfl⟩
theorem wMO_57 : gFldW "DamageViewModel" 57 7 19 true true (.array .int) := ⟨_, _, _, _, kcMO, by decide, by decide +kernel, gTbl_in (i := 582) (by decide +kernel) (by decide +kernel), rfl, rfl, fun _ => rfl⟩
theorem wMO_60 : gFldW "DamageViewModel" 60 7 20 true true (.array .int) := ⟨_, _, _, _, kcMO, by decide, by decide +kernel, gTbl_in (i := 583) (by decide +kernel) (by decide +kernel), rfl, rfl, fun _ => rfl⟩
theorem wMO_63 : gFldW "DamageViewModel" 63 7 21 true true (.array .int) := ⟨_, _, _, _, kcMO, by decide, by decide +kernel, gTbl_in (i := 584) (by decide +kernel) (by decide +kernel), rfl, rfl, fun _ => rfl⟩
theorem wMO_66 : gFldW "DamageViewModel" 66 7 22 true true (.array .int) := ⟨_, _, _, _, kcMO, by decide, by decide +kernel, gTbl_in (i := 585) (by decide +kernel) (by decide +kernel), rfl, rfl, fun _ => rfl⟩
theorem wMO_69 : gFldW "DamageViewModel" 69 7 23 false false (.int) := ⟨_, _, _, _, kcMO, by decide, by decide +kernel, gTbl_in (i := 586) (by decide +kernel) (by decide +kernel), rfl, rfl, fun h => by cases h⟩
theorem wMO_72 : gFldW "DamageViewModel" 72 7 24 false false (.int) := ⟨_, _, _, _, kcMO, by decide, by decide +kernel, gTbl_in (i := 587) (by decide +kernel) (by decide +kernel), rfl, rfl, fun h => by cases h⟩
theorem wMO_75 : gFldW "DamageViewModel" 75 7 25 true true (.array .boolean) := ⟨_, _, _, _, kcMO, by decide, by decide +kernel, gTbl_in (i := 588) (by decide +kernel) (by decide +kernel), rfl, rfl, fun _ => rfl⟩
theorem wMO_78 : gFldW "DamageViewModel" 78 7 26 true true (.array .int) := ⟨_, _, _, _, kcMO, by decide, by decide +kernel, gTbl_in (i := 589) (by decide +kernel) (by decide +kernel), rfl, rfl, fun _ => rfl⟩
theorem wMO_81 : gFldW "DamageViewModel" 81 7 27 true true (.array .boolean) := ⟨_, _, _, _, kcMO, by decide, by decide +kernel, gTbl_in (i := 590) (by decide +kernel) (by decide +kernel), rfl, rfl, fun _ => rfl⟩
theorem wMO_84 : gFldW "DamageViewModel" 84 7 28 true true (.array .int) := ⟨_, _, _, _, kcMO, by decide, by decide +kernel, gTbl_in (i := 591) (by decide +kernel) (by decide +kernel), rfl, rfl, fun _ => rfl⟩
theorem wMO_87 : gFldW "DamageViewModel" 87 7 8 false false (.int) := ⟨_, _, _, _, kcMO, by decide, by decide +kernel, gTbl_in (i := 571) (by decide +kernel) (by decide +kernel), rfl, rfl, fun h => by cases h⟩
theorem wMO_90 : gFldW "DamageViewModel" 90 7 9 false false (.int) := ⟨_, _, _, _, kcMO, by decide, by decide +kernel, gTbl_in (i := 572) (by decide +kernel) (by decide +kernel), rfl, rfl, fun h => by cases h⟩
theorem fMO_33 : gFld "DamageViewModel" 33 7 10 true := ⟨_, _, _, _, kcMO, by decide, by decide +kernel, gTbl_in (i := 573) (by decide +kernel) (by decide +kernel)⟩
theorem fMO_87 : gFld "DamageViewModel" 87 7 8 false := ⟨_, _, _, _, kcMO, by decide, by decide +kernel, gTbl_in (i := 571) (by decide +kernel) (by decide +kernel)⟩
theorem fMO_90 : gFld "DamageViewModel" 90 7 9 false := ⟨_, _, _, _, kcMO, by decide, by decide +kernel, gTbl_in (i := 572) (by decide +kernel) (by decide +kernel)⟩
theorem fMO_17 : gFld "DamageViewModel" 17 7 2 true := ⟨_, _, _, _, kcMO, by decide, by decide +kernel, gTbl_in (i := 565) (by decide +kernel) (by decide +kernel)⟩
theorem fMO_20 : gFld "DamageViewModel" 20 7 3 true := ⟨_, _, _, _, kcMO, by decide, by decide +kernel, gTbl_in (i := 566) (by decide +kernel) (by decide +kernel)⟩
theorem fMO_13 : gFld "DamageViewModel" 13 7 1 true := ⟨_, _, _, _, kcMO, by decide, by decide +kernel, gTbl_in (i := 564) (by decide +kernel) (by decide +kernel)⟩
theorem fMO_24 : gFld "DamageViewModel" 24 7 4 true := ⟨_, _, _, _, kcMO, by decide, by decide +kernel, gTbl_in (i := 567) (by decide +kernel) (by decide +kernel)⟩
theorem fMO_69 : gFld "DamageViewModel" 69 7 23 false := ⟨_, _, _, _, kcMO, by decide, by decide +kernel, gTbl_in (i := 586) (by decide +kernel) (by decide +kernel)⟩
theorem fMO_72 : gFld "DamageViewModel" 72 7 24 false := ⟨_, _, _, _, kcMO, by decide, by decide +kernel, gTbl_in (i := 587) (by decide +kernel) (by decide +kernel)⟩
theorem fMO_7 : gFld "DamageViewModel" 7 7 0 false := ⟨_, _, _, _, kcMO, by decide, by decide +kernel, gTbl_in (i := 563) (by decide +kernel) (by decide +kernel)⟩
theorem fMO_78 : gFld "DamageViewModel" 78 7 26 true := ⟨_, _, _, _, kcMO, by decide, by decide +kernel, gTbl_in (i := 589) (by decide +kernel) (by decide +kernel)⟩
theorem fMO_75 : gFld "DamageViewModel" 75 7 25 true := ⟨_, _, _, _, kcMO, by decide, by decide +kernel, gTbl_in (i := 588) (by decide +kernel) (by decide +kernel)⟩
theorem fMO_81 : gFld "DamageViewModel" 81 7 27 true := ⟨_, _, _, _, kcMO, by decide, by decide +kernel, gTbl_in (i := 590) (by decide +kernel) (by decide +kernel)⟩
theorem fMO_57 : gFld "DamageViewModel" 57 7 19 true := ⟨_, _, _, _, kcMO, by decide, by decide +kernel, gTbl_in (i := 582) (by decide +kernel) (by decide +kernel)⟩
theorem fMO_114 : gFld "DamageViewModel" 114 7 18 false := ⟨_, _, _, _, kcMO, by decide, by decide +kernel, gTbl_in (i := 581) (by decide +kernel) (by decide +kernel)⟩
theorem fMO_60 : gFld "DamageViewModel" 60 7 20 true := ⟨_, _, _, _, kcMO, by decide, by decide +kernel, gTbl_in (i := 583) (by decide +kernel) (by decide +kernel)⟩
theorem fMO_63 : gFld "DamageViewModel" 63 7 21 true := ⟨_, _, _, _, kcMO, by decide, by decide +kernel, gTbl_in (i := 584) (by decide +kernel) (by decide +kernel)⟩
theorem wMO_114 : gFldW "DamageViewModel" 114 7 18 false false (.int) := ⟨_, _, _, _, kcMO, by decide, by decide +kernel, gTbl_in (i := 581) (by decide +kernel) (by decide +kernel), rfl, rfl, fun h => by cases h⟩
theorem fMO_66 : gFld "DamageViewModel" 66 7 22 true := ⟨_, _, _, _, kcMO, by decide, by decide +kernel, gTbl_in (i := 585) (by decide +kernel) (by decide +kernel)⟩
theorem kMO_124 : Cond.constant "DamageViewModel" 124 268435456 ∈ gTbl := gTbl_in (i := 698) (by decide +kernel) (by decide +kernel)
theorem fMO_45 : gFld "DamageViewModel" 45 7 14 true := ⟨_, _, _, _, kcMO, by decide, by decide +kernel, gTbl_in (i := 577) (by decide +kernel) (by decide +kernel)⟩
theorem fMO_42 : gFld "DamageViewModel" 42 7 13 true := ⟨_, _, _, _, kcMO, by decide, by decide +kernel, gTbl_in (i := 576) (by decide +kernel) (by decide +kernel)⟩
theorem fMO_51 : gFld "DamageViewModel" 51 7 16 true := ⟨_, _, _, _, kcMO, by decide, by decide +kernel, gTbl_in (i := 579) (by decide +kernel) (by decide +kernel)⟩
theorem fMO_48 : gFld "DamageViewModel" 48 7 15 true := ⟨_, _, _, _, kcMO, by decide, by decide +kernel, gTbl_in (i := 578) (by decide +kernel) (by decide +kernel)⟩
theorem fMO_39 : gFld "DamageViewModel" 39 7 12 true := ⟨_, _, _, _, kcMO, by decide, by decide +kernel, gTbl_in (i := 575) (by decide +kernel) (by decide +kernel)⟩
theorem fMO_54 : gFld "DamageViewModel" 54 7 17 true := ⟨_, _, _, _, kcMO, by decide, by decide +kernel, gTbl_in (i := 580) (by decide +kernel) (by decide +kernel)⟩
theorem fMO_36 : gFld "DamageViewModel" 36 7 11 true := ⟨_, _, _, _, kcMO, by decide, by decide +kernel, gTbl_in (i := 574) (by decide +kernel) (by decide +kernel)⟩
theorem fMO_156 : gFld "DamageViewModel" 156 7 7 false := ⟨_, _, _, _, kcMO, by decide, by decide +kernel, gTbl_in (i := 570) (by decide +kernel) (by decide +kernel)⟩
theorem wMO_156 : gFldW "DamageViewModel" 156 7 7 false false (.int) := ⟨_, _, _, _, kcMO, by decide, by decide +kernel, gTbl_in (i := 570) (by decide +kernel) (by decide +kernel), rfl, rfl, fun h => by cases h⟩
theorem fMO_30 : gFld "DamageViewModel" 30 7 6 true := ⟨_, _, _, _, kcMO, by decide, by decide +kernel, gTbl_in (i := 569) (by decide +kernel) (by decide +kernel)⟩
theorem fMO_27 : gFld "DamageViewModel" 27 7 5 true := ⟨_, _, _, _, kcMO, by decide, by decide +kernel, gTbl_in (i := 568) (by decide +kernel) (by decide +kernel)⟩
theorem fMO_84 : gFld "DamageViewModel" 84 7 28 true := ⟨_, _, _, _, kcMO, by decide, by decide +kernel, gTbl_in (i := 591) (by decide +kernel) (by decide +kernel)⟩
theorem nwLW_7 : gNw "DamageViewLaw" 7 0 7 := ⟨_, _, _, kcDV, by decide +kernel, gTbl_in (i := 47) (by decide +kernel) (by decide +kernel), gTbl_in (i := 48) (by decide +kernel) (by decide +kernel), gTbl_in (i := 37) (by decide +kernel) (by decide +kernel)⟩
theorem nwLW_18 : gNw "DamageViewLaw" 18 7 29 := ⟨_, _, _, kcMO, by decide +kernel, gTbl_in (i := 533) (by decide +kernel) (by decide +kernel), gTbl_in (i := 534) (by decide +kernel) (by decide +kernel), gTbl_in (i := 44) (by decide +kernel) (by decide +kernel)⟩
theorem aI : Cond.arrayClass FieldType.int ∈ gTbl := gTbl_in (i := 68) (by decide +kernel) (by decide +kernel)
theorem aZ : Cond.arrayClass FieldType.boolean ∈ gTbl := gTbl_in (i := 69) (by decide +kernel) (by decide +kernel)
theorem qDV_init : Cond.code mDV_init.1 mDV_init.2.1 mDV_init.2.2.1 mDV_init.2.2.2.1 ∈ gTbl ∧ Cond.initialized mDV_init.1.cls ∈ gTbl := ⟨gTbl_in (i := 51) (by decide +kernel) (by decide +kernel), gTbl_in (i := 37) (by decide +kernel) (by decide +kernel)⟩
theorem qSC_init : Cond.code mSC_init.1 mSC_init.2.1 mSC_init.2.2.1 mSC_init.2.2.2.1 ∈ gTbl ∧ Cond.initialized mSC_init.1.cls ∈ gTbl := ⟨gTbl_in (i := 59) (by decide +kernel) (by decide +kernel), gTbl_in (i := 38) (by decide +kernel) (by decide +kernel)⟩
theorem qDV_nearest : Cond.code mDV_nearest.1 mDV_nearest.2.1 mDV_nearest.2.2.1 mDV_nearest.2.2.2.1 ∈ gTbl ∧ Cond.initialized mDV_nearest.1.cls ∈ gTbl := ⟨gTbl_in (i := 76) (by decide +kernel) (by decide +kernel), gTbl_in (i := 37) (by decide +kernel) (by decide +kernel)⟩
theorem qLA_init : Cond.code mLA_init.1 mLA_init.2.1 mLA_init.2.2.1 mLA_init.2.2.2.1 ∈ gTbl ∧ Cond.initialized mLA_init.1.cls ∈ gTbl := ⟨gTbl_in (i := 79) (by decide +kernel) (by decide +kernel), gTbl_in (i := 39) (by decide +kernel) (by decide +kernel)⟩
theorem qBD_init : Cond.code mBD_init.1 mBD_init.2.1 mBD_init.2.2.1 mBD_init.2.2.2.1 ∈ gTbl ∧ Cond.initialized mBD_init.1.cls ∈ gTbl := ⟨gTbl_in (i := 87) (by decide +kernel) (by decide +kernel), gTbl_in (i := 40) (by decide +kernel) (by decide +kernel)⟩
theorem qDV_addBox : Cond.code mDV_addBox.1 mDV_addBox.2.1 mDV_addBox.2.2.1 mDV_addBox.2.2.2.1 ∈ gTbl ∧ Cond.initialized mDV_addBox.1.cls ∈ gTbl := ⟨gTbl_in (i := 126) (by decide +kernel) (by decide +kernel), gTbl_in (i := 37) (by decide +kernel) (by decide +kernel)⟩
theorem qBX_init : Cond.code mBX_init.1 mBX_init.2.1 mBX_init.2.2.1 mBX_init.2.2.2.1 ∈ gTbl ∧ Cond.initialized mBX_init.1.cls ∈ gTbl := ⟨gTbl_in (i := 130) (by decide +kernel) (by decide +kernel), gTbl_in (i := 41) (by decide +kernel) (by decide +kernel)⟩
theorem qAR_init : Cond.code mAR_init.1 mAR_init.2.1 mAR_init.2.2.1 mAR_init.2.2.2.1 ∈ gTbl ∧ Cond.initialized mAR_init.1.cls ∈ gTbl := ⟨gTbl_in (i := 136) (by decide +kernel) (by decide +kernel), gTbl_in (i := 42) (by decide +kernel) (by decide +kernel)⟩
theorem qDV_showChanges : Cond.code mDV_showChanges.1 mDV_showChanges.2.1 mDV_showChanges.2.2.1 mDV_showChanges.2.2.2.1 ∈ gTbl ∧ Cond.initialized mDV_showChanges.1.cls ∈ gTbl := ⟨gTbl_in (i := 189) (by decide +kernel) (by decide +kernel), gTbl_in (i := 37) (by decide +kernel) (by decide +kernel)⟩
theorem qBX_findArea : Cond.code mBX_findArea.1 mBX_findArea.2.1 mBX_findArea.2.2.1 mBX_findArea.2.2.2.1 ∈ gTbl ∧ Cond.initialized mBX_findArea.1.cls ∈ gTbl := ⟨gTbl_in (i := 193) (by decide +kernel) (by decide +kernel), gTbl_in (i := 41) (by decide +kernel) (by decide +kernel)⟩
theorem qAR_copyFrom : Cond.code mAR_copyFrom.1 mAR_copyFrom.2.1 mAR_copyFrom.2.2.1 mAR_copyFrom.2.2.2.1 ∈ gTbl ∧ Cond.initialized mAR_copyFrom.1.cls ∈ gTbl := ⟨gTbl_in (i := 197) (by decide +kernel) (by decide +kernel), gTbl_in (i := 42) (by decide +kernel) (by decide +kernel)⟩
theorem qAR_makeEmpty : Cond.code mAR_makeEmpty.1 mAR_makeEmpty.2.1 mAR_makeEmpty.2.2.1 mAR_makeEmpty.2.2.2.1 ∈ gTbl ∧ Cond.initialized mAR_makeEmpty.1.cls ∈ gTbl := ⟨gTbl_in (i := 201) (by decide +kernel) (by decide +kernel), gTbl_in (i := 42) (by decide +kernel) (by decide +kernel)⟩
theorem qAR_takeEdges : Cond.code mAR_takeEdges.1 mAR_takeEdges.2.1 mAR_takeEdges.2.2.1 mAR_takeEdges.2.2.2.1 ∈ gTbl ∧ Cond.initialized mAR_takeEdges.1.cls ∈ gTbl := ⟨gTbl_in (i := 205) (by decide +kernel) (by decide +kernel), gTbl_in (i := 42) (by decide +kernel) (by decide +kernel)⟩
theorem qAR_cutTo : Cond.code mAR_cutTo.1 mAR_cutTo.2.1 mAR_cutTo.2.2.1 mAR_cutTo.2.2.2.1 ∈ gTbl ∧ Cond.initialized mAR_cutTo.1.cls ∈ gTbl := ⟨gTbl_in (i := 209) (by decide +kernel) (by decide +kernel), gTbl_in (i := 42) (by decide +kernel) (by decide +kernel)⟩
theorem qAR_isEmpty : Cond.code mAR_isEmpty.1 mAR_isEmpty.2.1 mAR_isEmpty.2.2.1 mAR_isEmpty.2.2.2.1 ∈ gTbl ∧ Cond.initialized mAR_isEmpty.1.cls ∈ gTbl := ⟨gTbl_in (i := 219) (by decide +kernel) (by decide +kernel), gTbl_in (i := 42) (by decide +kernel) (by decide +kernel)⟩
theorem qBX_canHaveAttention : Cond.code mBX_canHaveAttention.1 mBX_canHaveAttention.2.1 mBX_canHaveAttention.2.2.1 mBX_canHaveAttention.2.2.2.1 ∈ gTbl ∧ Cond.initialized mBX_canHaveAttention.1.cls ∈ gTbl := ⟨gTbl_in (i := 224) (by decide +kernel) (by decide +kernel), gTbl_in (i := 41) (by decide +kernel) (by decide +kernel)⟩
theorem qDV_showBox : Cond.code mDV_showBox.1 mDV_showBox.2.1 mDV_showBox.2.2.1 mDV_showBox.2.2.2.1 ∈ gTbl ∧ Cond.initialized mDV_showBox.1.cls ∈ gTbl := ⟨gTbl_in (i := 229) (by decide +kernel) (by decide +kernel), gTbl_in (i := 37) (by decide +kernel) (by decide +kernel)⟩
theorem qDV_colourOf : Cond.code mDV_colourOf.1 mDV_colourOf.2.1 mDV_colourOf.2.2.1 mDV_colourOf.2.2.2.1 ∈ gTbl ∧ Cond.initialized mDV_colourOf.1.cls ∈ gTbl := ⟨gTbl_in (i := 233) (by decide +kernel) (by decide +kernel), gTbl_in (i := 37) (by decide +kernel) (by decide +kernel)⟩
theorem qAR_isSameAs : Cond.code mAR_isSameAs.1 mAR_isSameAs.2.1 mAR_isSameAs.2.2.1 mAR_isSameAs.2.2.2.1 ∈ gTbl ∧ Cond.initialized mAR_isSameAs.1.cls ∈ gTbl := ⟨gTbl_in (i := 237) (by decide +kernel) (by decide +kernel), gTbl_in (i := 42) (by decide +kernel) (by decide +kernel)⟩
theorem qSC_damageArea : Cond.code mSC_damageArea.1 mSC_damageArea.2.1 mSC_damageArea.2.2.1 mSC_damageArea.2.2.2.1 ∈ gTbl ∧ Cond.initialized mSC_damageArea.1.cls ∈ gTbl := ⟨gTbl_in (i := 241) (by decide +kernel) (by decide +kernel), gTbl_in (i := 38) (by decide +kernel) (by decide +kernel)⟩
theorem qAR_has : Cond.code mAR_has.1 mAR_has.2.1 mAR_has.2.2.1 mAR_has.2.2.2.1 ∈ gTbl ∧ Cond.initialized mAR_has.1.cls ∈ gTbl := ⟨gTbl_in (i := 245) (by decide +kernel) (by decide +kernel), gTbl_in (i := 42) (by decide +kernel) (by decide +kernel)⟩
theorem qSC_pointOf : Cond.code mSC_pointOf.1 mSC_pointOf.2.1 mSC_pointOf.2.2.1 mSC_pointOf.2.2.2.1 ∈ gTbl ∧ Cond.initialized mSC_pointOf.1.cls ∈ gTbl := ⟨gTbl_in (i := 248) (by decide +kernel) (by decide +kernel), gTbl_in (i := 38) (by decide +kernel) (by decide +kernel)⟩
theorem qDV_box : Cond.code mDV_box.1 mDV_box.2.1 mDV_box.2.2.1 mDV_box.2.2.2.1 ∈ gTbl ∧ Cond.initialized mDV_box.1.cls ∈ gTbl := ⟨gTbl_in (i := 274) (by decide +kernel) (by decide +kernel), gTbl_in (i := 37) (by decide +kernel) (by decide +kernel)⟩
theorem qDV_isBox : Cond.code mDV_isBox.1 mDV_isBox.2.1 mDV_isBox.2.2.1 mDV_isBox.2.2.2.1 ∈ gTbl ∧ Cond.initialized mDV_isBox.1.cls ∈ gTbl := ⟨gTbl_in (i := 278) (by decide +kernel) (by decide +kernel), gTbl_in (i := 37) (by decide +kernel) (by decide +kernel)⟩
theorem qDV_constrain : Cond.code mDV_constrain.1 mDV_constrain.2.1 mDV_constrain.2.2.1 mDV_constrain.2.2.2.1 ∈ gTbl ∧ Cond.initialized mDV_constrain.1.cls ∈ gTbl := ⟨gTbl_in (i := 282) (by decide +kernel) (by decide +kernel), gTbl_in (i := 37) (by decide +kernel) (by decide +kernel)⟩
theorem qLA_canJoin : Cond.code mLA_canJoin.1 mLA_canJoin.2.1 mLA_canJoin.2.2.1 mLA_canJoin.2.2.2.1 ∈ gTbl ∧ Cond.initialized mLA_canJoin.1.cls ∈ gTbl := ⟨gTbl_in (i := 286) (by decide +kernel) (by decide +kernel), gTbl_in (i := 39) (by decide +kernel) (by decide +kernel)⟩
theorem qLA_isEdge : Cond.code mLA_isEdge.1 mLA_isEdge.2.1 mLA_isEdge.2.2.1 mLA_isEdge.2.2.2.1 ∈ gTbl ∧ Cond.initialized mLA_isEdge.1.cls ∈ gTbl := ⟨gTbl_in (i := 290) (by decide +kernel) (by decide +kernel), gTbl_in (i := 39) (by decide +kernel) (by decide +kernel)⟩
theorem qLA_isTopOrBottom : Cond.code mLA_isTopOrBottom.1 mLA_isTopOrBottom.2.1 mLA_isTopOrBottom.2.2.1 mLA_isTopOrBottom.2.2.2.1 ∈ gTbl ∧ Cond.initialized mLA_isTopOrBottom.1.cls ∈ gTbl := ⟨gTbl_in (i := 293) (by decide +kernel) (by decide +kernel), gTbl_in (i := 39) (by decide +kernel) (by decide +kernel)⟩
theorem qDV_isNear : Cond.code mDV_isNear.1 mDV_isNear.2.1 mDV_isNear.2.2.1 mDV_isNear.2.2.2.1 ∈ gTbl ∧ Cond.initialized mDV_isNear.1.cls ∈ gTbl := ⟨gTbl_in (i := 296) (by decide +kernel) (by decide +kernel), gTbl_in (i := 37) (by decide +kernel) (by decide +kernel)⟩
theorem qLA_freeNumber : Cond.code mLA_freeNumber.1 mLA_freeNumber.2.1 mLA_freeNumber.2.2.1 mLA_freeNumber.2.2.2.1 ∈ gTbl ∧ Cond.initialized mLA_freeNumber.1.cls ∈ gTbl := ⟨gTbl_in (i := 300) (by decide +kernel) (by decide +kernel), gTbl_in (i := 39) (by decide +kernel) (by decide +kernel)⟩
theorem qCN_init : Cond.code mCN_init.1 mCN_init.2.1 mCN_init.2.2.1 mCN_init.2.2.2.1 ∈ gTbl ∧ Cond.initialized mCN_init.1.cls ∈ gTbl := ⟨gTbl_in (i := 305) (by decide +kernel) (by decide +kernel), gTbl_in (i := 45) (by decide +kernel) (by decide +kernel)⟩
theorem qLA_add : Cond.code mLA_add.1 mLA_add.2.1 mLA_add.2.2.1 mLA_add.2.2.2.1 ∈ gTbl ∧ Cond.initialized mLA_add.1.cls ∈ gTbl := ⟨gTbl_in (i := 327) (by decide +kernel) (by decide +kernel), gTbl_in (i := 39) (by decide +kernel) (by decide +kernel)⟩
theorem qLA_solve : Cond.code mLA_solve.1 mLA_solve.2.1 mLA_solve.2.2.1 mLA_solve.2.2.2.1 ∈ gTbl ∧ Cond.initialized mLA_solve.1.cls ∈ gTbl := ⟨gTbl_in (i := 331) (by decide +kernel) (by decide +kernel), gTbl_in (i := 39) (by decide +kernel) (by decide +kernel)⟩
theorem qLA_demandAll : Cond.code mLA_demandAll.1 mLA_demandAll.2.1 mLA_demandAll.2.2.1 mLA_demandAll.2.2.2.1 ∈ gTbl ∧ Cond.initialized mLA_demandAll.1.cls ∈ gTbl := ⟨gTbl_in (i := 335) (by decide +kernel) (by decide +kernel), gTbl_in (i := 39) (by decide +kernel) (by decide +kernel)⟩
theorem qBD_open : Cond.code mBD_open.1 mBD_open.2.1 mBD_open.2.2.1 mBD_open.2.2.2.1 ∈ gTbl ∧ Cond.initialized mBD_open.1.cls ∈ gTbl := ⟨gTbl_in (i := 339) (by decide +kernel) (by decide +kernel), gTbl_in (i := 40) (by decide +kernel) (by decide +kernel)⟩
theorem qJF_fill : Cond.code mJF_fill.1 mJF_fill.2.1 mJF_fill.2.2.1 mJF_fill.2.2.2.1 ∈ gTbl ∧ Cond.initialized mJF_fill.1.cls ∈ gTbl := ⟨gTbl_in (i := 344) (by decide +kernel) (by decide +kernel), gTbl_in (i := 46) (by decide +kernel) (by decide +kernel)⟩
theorem qBD_fix : Cond.code mBD_fix.1 mBD_fix.2.1 mBD_fix.2.2.1 mBD_fix.2.2.2.1 ∈ gTbl ∧ Cond.initialized mBD_fix.1.cls ∈ gTbl := ⟨gTbl_in (i := 348) (by decide +kernel) (by decide +kernel), gTbl_in (i := 40) (by decide +kernel) (by decide +kernel)⟩
theorem qBD_keepAtMost : Cond.code mBD_keepAtMost.1 mBD_keepAtMost.2.1 mBD_keepAtMost.2.2.1 mBD_keepAtMost.2.2.2.1 ∈ gTbl ∧ Cond.initialized mBD_keepAtMost.1.cls ∈ gTbl := ⟨gTbl_in (i := 352) (by decide +kernel) (by decide +kernel), gTbl_in (i := 40) (by decide +kernel) (by decide +kernel)⟩
theorem qBD_keepAtLeast : Cond.code mBD_keepAtLeast.1 mBD_keepAtLeast.2.1 mBD_keepAtLeast.2.2.1 mBD_keepAtLeast.2.2.2.1 ∈ gTbl ∧ Cond.initialized mBD_keepAtLeast.1.cls ∈ gTbl := ⟨gTbl_in (i := 356) (by decide +kernel) (by decide +kernel), gTbl_in (i := 40) (by decide +kernel) (by decide +kernel)⟩
theorem qCN_demandIn : Cond.code mCN_demandIn.1 mCN_demandIn.2.1 mCN_demandIn.2.2.1 mCN_demandIn.2.2.2.1 ∈ gTbl ∧ Cond.initialized mCN_demandIn.1.cls ∈ gTbl := ⟨gTbl_in (i := 360) (by decide +kernel) (by decide +kernel), gTbl_in (i := 45) (by decide +kernel) (by decide +kernel)⟩
theorem qLA_chooseBest : Cond.code mLA_chooseBest.1 mLA_chooseBest.2.1 mLA_chooseBest.2.2.1 mLA_chooseBest.2.2.2.1 ∈ gTbl ∧ Cond.initialized mLA_chooseBest.1.cls ∈ gTbl := ⟨gTbl_in (i := 366) (by decide +kernel) (by decide +kernel), gTbl_in (i := 39) (by decide +kernel) (by decide +kernel)⟩
theorem qCN_leastErrorIn : Cond.code mCN_leastErrorIn.1 mCN_leastErrorIn.2.1 mCN_leastErrorIn.2.2.1 mCN_leastErrorIn.2.2.2.1 ∈ gTbl ∧ Cond.initialized mCN_leastErrorIn.1.cls ∈ gTbl := ⟨gTbl_in (i := 370) (by decide +kernel) (by decide +kernel), gTbl_in (i := 45) (by decide +kernel) (by decide +kernel)⟩
theorem qBD_fixNear : Cond.code mBD_fixNear.1 mBD_fixNear.2.1 mBD_fixNear.2.2.1 mBD_fixNear.2.2.2.1 ∈ gTbl ∧ Cond.initialized mBD_fixNear.1.cls ∈ gTbl := ⟨gTbl_in (i := 374) (by decide +kernel) (by decide +kernel), gTbl_in (i := 40) (by decide +kernel) (by decide +kernel)⟩
theorem qBD_lowest : Cond.code mBD_lowest.1 mBD_lowest.2.1 mBD_lowest.2.2.1 mBD_lowest.2.2.2.1 ∈ gTbl ∧ Cond.initialized mBD_lowest.1.cls ∈ gTbl := ⟨gTbl_in (i := 378) (by decide +kernel) (by decide +kernel), gTbl_in (i := 40) (by decide +kernel) (by decide +kernel)⟩
theorem qBD_highest : Cond.code mBD_highest.1 mBD_highest.2.1 mBD_highest.2.2.1 mBD_highest.2.2.2.1 ∈ gTbl ∧ Cond.initialized mBD_highest.1.cls ∈ gTbl := ⟨gTbl_in (i := 382) (by decide +kernel) (by decide +kernel), gTbl_in (i := 40) (by decide +kernel) (by decide +kernel)⟩
theorem qDV_remove : Cond.code mDV_remove.1 mDV_remove.2.1 mDV_remove.2.2.1 mDV_remove.2.2.2.1 ∈ gTbl ∧ Cond.initialized mDV_remove.1.cls ∈ gTbl := ⟨gTbl_in (i := 390) (by decide +kernel) (by decide +kernel), gTbl_in (i := 37) (by decide +kernel) (by decide +kernel)⟩
theorem qLA_constraintAt : Cond.code mLA_constraintAt.1 mLA_constraintAt.2.1 mLA_constraintAt.2.2.1 mLA_constraintAt.2.2.2.1 ∈ gTbl ∧ Cond.initialized mLA_constraintAt.1.cls ∈ gTbl := ⟨gTbl_in (i := 394) (by decide +kernel) (by decide +kernel), gTbl_in (i := 39) (by decide +kernel) (by decide +kernel)⟩
theorem qLA_takeAway : Cond.code mLA_takeAway.1 mLA_takeAway.2.1 mLA_takeAway.2.2.1 mLA_takeAway.2.2.2.1 ∈ gTbl ∧ Cond.initialized mLA_takeAway.1.cls ∈ gTbl := ⟨gTbl_in (i := 398) (by decide +kernel) (by decide +kernel), gTbl_in (i := 39) (by decide +kernel) (by decide +kernel)⟩
theorem qDV_suggest : Cond.code mDV_suggest.1 mDV_suggest.2.1 mDV_suggest.2.2.1 mDV_suggest.2.2.2.1 ∈ gTbl ∧ Cond.initialized mDV_suggest.1.cls ∈ gTbl := ⟨gTbl_in (i := 402) (by decide +kernel) (by decide +kernel), gTbl_in (i := 37) (by decide +kernel) (by decide +kernel)⟩
theorem qLA_solveNear : Cond.code mLA_solveNear.1 mLA_solveNear.2.1 mLA_solveNear.2.2.1 mLA_solveNear.2.2.2.1 ∈ gTbl ∧ Cond.initialized mLA_solveNear.1.cls ∈ gTbl := ⟨gTbl_in (i := 407) (by decide +kernel) (by decide +kernel), gTbl_in (i := 39) (by decide +kernel) (by decide +kernel)⟩
theorem qDV_resize : Cond.code mDV_resize.1 mDV_resize.2.1 mDV_resize.2.2.1 mDV_resize.2.2.2.1 ∈ gTbl ∧ Cond.initialized mDV_resize.1.cls ∈ gTbl := ⟨gTbl_in (i := 411) (by decide +kernel) (by decide +kernel), gTbl_in (i := 37) (by decide +kernel) (by decide +kernel)⟩
theorem qLA_setSize : Cond.code mLA_setSize.1 mLA_setSize.2.1 mLA_setSize.2.2.1 mLA_setSize.2.2.2.1 ∈ gTbl ∧ Cond.initialized mLA_setSize.1.cls ∈ gTbl := ⟨gTbl_in (i := 415) (by decide +kernel) (by decide +kernel), gTbl_in (i := 39) (by decide +kernel) (by decide +kernel)⟩
theorem qDV_place : Cond.code mDV_place.1 mDV_place.2.1 mDV_place.2.2.1 mDV_place.2.2.2.1 ∈ gTbl ∧ Cond.initialized mDV_place.1.cls ∈ gTbl := ⟨gTbl_in (i := 419) (by decide +kernel) (by decide +kernel), gTbl_in (i := 37) (by decide +kernel) (by decide +kernel)⟩
theorem qDV_error : Cond.code mDV_error.1 mDV_error.2.1 mDV_error.2.2.1 mDV_error.2.2.2.1 ∈ gTbl ∧ Cond.initialized mDV_error.1.cls ∈ gTbl := ⟨gTbl_in (i := 423) (by decide +kernel) (by decide +kernel), gTbl_in (i := 37) (by decide +kernel) (by decide +kernel)⟩
theorem qCN_errorIn : Cond.code mCN_errorIn.1 mCN_errorIn.2.1 mCN_errorIn.2.2.1 mCN_errorIn.2.2.2.1 ∈ gTbl ∧ Cond.initialized mCN_errorIn.1.cls ∈ gTbl := ⟨gTbl_in (i := 427) (by decide +kernel) (by decide +kernel), gTbl_in (i := 45) (by decide +kernel) (by decide +kernel)⟩
theorem qDV_hide : Cond.code mDV_hide.1 mDV_hide.2.1 mDV_hide.2.2.1 mDV_hide.2.2.2.1 ∈ gTbl ∧ Cond.initialized mDV_hide.1.cls ∈ gTbl := ⟨gTbl_in (i := 435) (by decide +kernel) (by decide +kernel), gTbl_in (i := 37) (by decide +kernel) (by decide +kernel)⟩
theorem qDV_isInnerBox : Cond.code mDV_isInnerBox.1 mDV_isInnerBox.2.1 mDV_isInnerBox.2.2.1 mDV_isInnerBox.2.2.2.1 ∈ gTbl ∧ Cond.initialized mDV_isInnerBox.1.cls ∈ gTbl := ⟨gTbl_in (i := 439) (by decide +kernel) (by decide +kernel), gTbl_in (i := 37) (by decide +kernel) (by decide +kernel)⟩
theorem qDV_raise : Cond.code mDV_raise.1 mDV_raise.2.1 mDV_raise.2.2.1 mDV_raise.2.2.2.1 ∈ gTbl ∧ Cond.initialized mDV_raise.1.cls ∈ gTbl := ⟨gTbl_in (i := 443) (by decide +kernel) (by decide +kernel), gTbl_in (i := 37) (by decide +kernel) (by decide +kernel)⟩
theorem qDV_isLastOfItsParent : Cond.code mDV_isLastOfItsParent.1 mDV_isLastOfItsParent.2.1 mDV_isLastOfItsParent.2.2.1 mDV_isLastOfItsParent.2.2.2.1 ∈ gTbl ∧ Cond.initialized mDV_isLastOfItsParent.1.cls ∈ gTbl := ⟨gTbl_in (i := 447) (by decide +kernel) (by decide +kernel), gTbl_in (i := 37) (by decide +kernel) (by decide +kernel)⟩
theorem qDV_bringToFront : Cond.code mDV_bringToFront.1 mDV_bringToFront.2.1 mDV_bringToFront.2.2.1 mDV_bringToFront.2.2.2.1 ∈ gTbl ∧ Cond.initialized mDV_bringToFront.1.cls ∈ gTbl := ⟨gTbl_in (i := 451) (by decide +kernel) (by decide +kernel), gTbl_in (i := 37) (by decide +kernel) (by decide +kernel)⟩
theorem qDV_hit : Cond.code mDV_hit.1 mDV_hit.2.1 mDV_hit.2.2.1 mDV_hit.2.2.2.1 ∈ gTbl ∧ Cond.initialized mDV_hit.1.cls ∈ gTbl := ⟨gTbl_in (i := 455) (by decide +kernel) (by decide +kernel), gTbl_in (i := 37) (by decide +kernel) (by decide +kernel)⟩
theorem qDV_frontBox : Cond.code mDV_frontBox.1 mDV_frontBox.2.1 mDV_frontBox.2.2.1 mDV_frontBox.2.2.2.1 ∈ gTbl ∧ Cond.initialized mDV_frontBox.1.cls ∈ gTbl := ⟨gTbl_in (i := 459) (by decide +kernel) (by decide +kernel), gTbl_in (i := 37) (by decide +kernel) (by decide +kernel)⟩
theorem qDV_frontChild : Cond.code mDV_frontChild.1 mDV_frontChild.2.1 mDV_frontChild.2.2.1 mDV_frontChild.2.2.2.1 ∈ gTbl ∧ Cond.initialized mDV_frontChild.1.cls ∈ gTbl := ⟨gTbl_in (i := 463) (by decide +kernel) (by decide +kernel), gTbl_in (i := 37) (by decide +kernel) (by decide +kernel)⟩
theorem qDV_numberOf : Cond.code mDV_numberOf.1 mDV_numberOf.2.1 mDV_numberOf.2.2.1 mDV_numberOf.2.2.2.1 ∈ gTbl ∧ Cond.initialized mDV_numberOf.1.cls ∈ gTbl := ⟨gTbl_in (i := 467) (by decide +kernel) (by decide +kernel), gTbl_in (i := 37) (by decide +kernel) (by decide +kernel)⟩
theorem qDV_press : Cond.code mDV_press.1 mDV_press.2.1 mDV_press.2.2.1 mDV_press.2.2.2.1 ∈ gTbl ∧ Cond.initialized mDV_press.1.cls ∈ gTbl := ⟨gTbl_in (i := 471) (by decide +kernel) (by decide +kernel), gTbl_in (i := 37) (by decide +kernel) (by decide +kernel)⟩
theorem qDV_release : Cond.code mDV_release.1 mDV_release.2.1 mDV_release.2.2.1 mDV_release.2.2.2.1 ∈ gTbl ∧ Cond.initialized mDV_release.1.cls ∈ gTbl := ⟨gTbl_in (i := 475) (by decide +kernel) (by decide +kernel), gTbl_in (i := 37) (by decide +kernel) (by decide +kernel)⟩
theorem qDV_activate : Cond.code mDV_activate.1 mDV_activate.2.1 mDV_activate.2.2.1 mDV_activate.2.2.2.1 ∈ gTbl ∧ Cond.initialized mDV_activate.1.cls ∈ gTbl := ⟨gTbl_in (i := 478) (by decide +kernel) (by decide +kernel), gTbl_in (i := 37) (by decide +kernel) (by decide +kernel)⟩
theorem qDV_step : Cond.code mDV_step.1 mDV_step.2.1 mDV_step.2.2.1 mDV_step.2.2.2.1 ∈ gTbl ∧ Cond.initialized mDV_step.1.cls ∈ gTbl := ⟨gTbl_in (i := 482) (by decide +kernel) (by decide +kernel), gTbl_in (i := 37) (by decide +kernel) (by decide +kernel)⟩
theorem qJM_floorMod : Cond.code mJM_floorMod.1 mJM_floorMod.2.1 mJM_floorMod.2.2.1 mJM_floorMod.2.2.2.1 ∈ gTbl ∧ Cond.initialized mJM_floorMod.1.cls ∈ gTbl := ⟨gTbl_in (i := 485) (by decide +kernel) (by decide +kernel), gTbl_in (i := 43) (by decide +kernel) (by decide +kernel)⟩
theorem qDV_key : Cond.code mDV_key.1 mDV_key.2.1 mDV_key.2.2.1 mDV_key.2.2.2.1 ∈ gTbl ∧ Cond.initialized mDV_key.1.cls ∈ gTbl := ⟨gTbl_in (i := 489) (by decide +kernel) (by decide +kernel), gTbl_in (i := 37) (by decide +kernel) (by decide +kernel)⟩
theorem qDV_attention : Cond.code mDV_attention.1 mDV_attention.2.1 mDV_attention.2.2.1 mDV_attention.2.2.2.1 ∈ gTbl ∧ Cond.initialized mDV_attention.1.cls ∈ gTbl := ⟨gTbl_in (i := 493) (by decide +kernel) (by decide +kernel), gTbl_in (i := 37) (by decide +kernel) (by decide +kernel)⟩
theorem qDV_count : Cond.code mDV_count.1 mDV_count.2.1 mDV_count.2.2.1 mDV_count.2.2.2.1 ∈ gTbl ∧ Cond.initialized mDV_count.1.cls ∈ gTbl := ⟨gTbl_in (i := 497) (by decide +kernel) (by decide +kernel), gTbl_in (i := 37) (by decide +kernel) (by decide +kernel)⟩
theorem qDV_damage : Cond.code mDV_damage.1 mDV_damage.2.1 mDV_damage.2.2.1 mDV_damage.2.2.2.1 ∈ gTbl ∧ Cond.initialized mDV_damage.1.cls ∈ gTbl := ⟨gTbl_in (i := 501) (by decide +kernel) (by decide +kernel), gTbl_in (i := 37) (by decide +kernel) (by decide +kernel)⟩
theorem qSC_damagedPoints : Cond.code mSC_damagedPoints.1 mSC_damagedPoints.2.1 mSC_damagedPoints.2.2.1 mSC_damagedPoints.2.2.2.1 ∈ gTbl ∧ Cond.initialized mSC_damagedPoints.1.cls ∈ gTbl := ⟨gTbl_in (i := 505) (by decide +kernel) (by decide +kernel), gTbl_in (i := 38) (by decide +kernel) (by decide +kernel)⟩
theorem qDV_paint : Cond.code mDV_paint.1 mDV_paint.2.1 mDV_paint.2.2.1 mDV_paint.2.2.2.1 ∈ gTbl ∧ Cond.initialized mDV_paint.1.cls ∈ gTbl := ⟨gTbl_in (i := 509) (by decide +kernel) (by decide +kernel), gTbl_in (i := 37) (by decide +kernel) (by decide +kernel)⟩
theorem qSC_isDamaged : Cond.code mSC_isDamaged.1 mSC_isDamaged.2.1 mSC_isDamaged.2.2.1 mSC_isDamaged.2.2.2.1 ∈ gTbl ∧ Cond.initialized mSC_isDamaged.1.cls ∈ gTbl := ⟨gTbl_in (i := 513) (by decide +kernel) (by decide +kernel), gTbl_in (i := 38) (by decide +kernel) (by decide +kernel)⟩
theorem qDV_pictureAt : Cond.code mDV_pictureAt.1 mDV_pictureAt.2.1 mDV_pictureAt.2.2.1 mDV_pictureAt.2.2.2.1 ∈ gTbl ∧ Cond.initialized mDV_pictureAt.1.cls ∈ gTbl := ⟨gTbl_in (i := 517) (by decide +kernel) (by decide +kernel), gTbl_in (i := 37) (by decide +kernel) (by decide +kernel)⟩
theorem qSC_repair : Cond.code mSC_repair.1 mSC_repair.2.1 mSC_repair.2.2.1 mSC_repair.2.2.2.1 ∈ gTbl ∧ Cond.initialized mSC_repair.1.cls ∈ gTbl := ⟨gTbl_in (i := 521) (by decide +kernel) (by decide +kernel), gTbl_in (i := 38) (by decide +kernel) (by decide +kernel)⟩
theorem qDV_pixel : Cond.code mDV_pixel.1 mDV_pixel.2.1 mDV_pixel.2.2.1 mDV_pixel.2.2.2.1 ∈ gTbl ∧ Cond.initialized mDV_pixel.1.cls ∈ gTbl := ⟨gTbl_in (i := 525) (by decide +kernel) (by decide +kernel), gTbl_in (i := 37) (by decide +kernel) (by decide +kernel)⟩
theorem qSC_frameAt : Cond.code mSC_frameAt.1 mSC_frameAt.2.1 mSC_frameAt.2.2.1 mSC_frameAt.2.2.2.1 ∈ gTbl ∧ Cond.initialized mSC_frameAt.1.cls ∈ gTbl := ⟨gTbl_in (i := 529) (by decide +kernel) (by decide +kernel), gTbl_in (i := 38) (by decide +kernel) (by decide +kernel)⟩
theorem qLW_cell : Cond.code mLW_cell.1 mLW_cell.2.1 mLW_cell.2.2.1 mLW_cell.2.2.2.1 ∈ gTbl ∧ Cond.initialized mLW_cell.1.cls ∈ gTbl := ⟨gTbl_in (i := 532) (by decide +kernel) (by decide +kernel), gTbl_in (i := 36) (by decide +kernel) (by decide +kernel)⟩
theorem qMO_init : Cond.code mMO_init.1 mMO_init.2.1 mMO_init.2.2.1 mMO_init.2.2.2.1 ∈ gTbl ∧ Cond.initialized mMO_init.1.cls ∈ gTbl := ⟨gTbl_in (i := 537) (by decide +kernel) (by decide +kernel), gTbl_in (i := 44) (by decide +kernel) (by decide +kernel)⟩
theorem qMO_look : Cond.code mMO_look.1 mMO_look.2.1 mMO_look.2.2.1 mMO_look.2.2.2.1 ∈ gTbl ∧ Cond.initialized mMO_look.1.cls ∈ gTbl := ⟨gTbl_in (i := 542) (by decide +kernel) (by decide +kernel), gTbl_in (i := 44) (by decide +kernel) (by decide +kernel)⟩
theorem qMO_can : Cond.code mMO_can.1 mMO_can.2.1 mMO_can.2.2.1 mMO_can.2.2.2.1 ∈ gTbl ∧ Cond.initialized mMO_can.1.cls ∈ gTbl := ⟨gTbl_in (i := 546) (by decide +kernel) (by decide +kernel), gTbl_in (i := 44) (by decide +kernel) (by decide +kernel)⟩
theorem qMO_someArea : Cond.code mMO_someArea.1 mMO_someArea.2.1 mMO_someArea.2.2.1 mMO_someArea.2.2.2.1 ∈ gTbl ∧ Cond.initialized mMO_someArea.1.cls ∈ gTbl := ⟨gTbl_in (i := 550) (by decide +kernel) (by decide +kernel), gTbl_in (i := 44) (by decide +kernel) (by decide +kernel)⟩
theorem qMO_inArea : Cond.code mMO_inArea.1 mMO_inArea.2.1 mMO_inArea.2.2.1 mMO_inArea.2.2.2.1 ∈ gTbl ∧ Cond.initialized mMO_inArea.1.cls ∈ gTbl := ⟨gTbl_in (i := 554) (by decide +kernel) (by decide +kernel), gTbl_in (i := 44) (by decide +kernel) (by decide +kernel)⟩
theorem qMO_covers : Cond.code mMO_covers.1 mMO_covers.2.1 mMO_covers.2.2.1 mMO_covers.2.2.2.1 ∈ gTbl ∧ Cond.initialized mMO_covers.1.cls ∈ gTbl := ⟨gTbl_in (i := 558) (by decide +kernel) (by decide +kernel), gTbl_in (i := 44) (by decide +kernel) (by decide +kernel)⟩
theorem qMO_colour : Cond.code mMO_colour.1 mMO_colour.2.1 mMO_colour.2.2.1 mMO_colour.2.2.2.1 ∈ gTbl ∧ Cond.initialized mMO_colour.1.cls ∈ gTbl := ⟨gTbl_in (i := 562) (by decide +kernel) (by decide +kernel), gTbl_in (i := 44) (by decide +kernel) (by decide +kernel)⟩
theorem qMO_box : Cond.code mMO_box.1 mMO_box.2.1 mMO_box.2.2.1 mMO_box.2.2.2.1 ∈ gTbl ∧ Cond.initialized mMO_box.1.cls ∈ gTbl := ⟨gTbl_in (i := 654) (by decide +kernel) (by decide +kernel), gTbl_in (i := 44) (by decide +kernel) (by decide +kernel)⟩
theorem qMO_isBox : Cond.code mMO_isBox.1 mMO_isBox.2.1 mMO_isBox.2.2.1 mMO_isBox.2.2.2.1 ∈ gTbl ∧ Cond.initialized mMO_isBox.1.cls ∈ gTbl := ⟨gTbl_in (i := 658) (by decide +kernel) (by decide +kernel), gTbl_in (i := 44) (by decide +kernel) (by decide +kernel)⟩
theorem qMO_constrain : Cond.code mMO_constrain.1 mMO_constrain.2.1 mMO_constrain.2.2.1 mMO_constrain.2.2.2.1 ∈ gTbl ∧ Cond.initialized mMO_constrain.1.cls ∈ gTbl := ⟨gTbl_in (i := 662) (by decide +kernel) (by decide +kernel), gTbl_in (i := 44) (by decide +kernel) (by decide +kernel)⟩
theorem qMO_isEdge : Cond.code mMO_isEdge.1 mMO_isEdge.2.1 mMO_isEdge.2.2.1 mMO_isEdge.2.2.2.1 ∈ gTbl ∧ Cond.initialized mMO_isEdge.1.cls ∈ gTbl := ⟨gTbl_in (i := 666) (by decide +kernel) (by decide +kernel), gTbl_in (i := 44) (by decide +kernel) (by decide +kernel)⟩
theorem qMO_origin : Cond.code mMO_origin.1 mMO_origin.2.1 mMO_origin.2.2.1 mMO_origin.2.2.2.1 ∈ gTbl ∧ Cond.initialized mMO_origin.1.cls ∈ gTbl := ⟨gTbl_in (i := 669) (by decide +kernel) (by decide +kernel), gTbl_in (i := 44) (by decide +kernel) (by decide +kernel)⟩
theorem qMO_solve : Cond.code mMO_solve.1 mMO_solve.2.1 mMO_solve.2.2.1 mMO_solve.2.2.2.1 ∈ gTbl ∧ Cond.initialized mMO_solve.1.cls ∈ gTbl := ⟨gTbl_in (i := 673) (by decide +kernel) (by decide +kernel), gTbl_in (i := 44) (by decide +kernel) (by decide +kernel)⟩
theorem qMO_required : Cond.code mMO_required.1 mMO_required.2.1 mMO_required.2.2.1 mMO_required.2.2.2.1 ∈ gTbl ∧ Cond.initialized mMO_required.1.cls ∈ gTbl := ⟨gTbl_in (i := 677) (by decide +kernel) (by decide +kernel), gTbl_in (i := 44) (by decide +kernel) (by decide +kernel)⟩
theorem qMO_exactly : Cond.code mMO_exactly.1 mMO_exactly.2.1 mMO_exactly.2.2.1 mMO_exactly.2.2.2.1 ∈ gTbl ∧ Cond.initialized mMO_exactly.1.cls ∈ gTbl := ⟨gTbl_in (i := 681) (by decide +kernel) (by decide +kernel), gTbl_in (i := 44) (by decide +kernel) (by decide +kernel)⟩
theorem qMO_atLeast : Cond.code mMO_atLeast.1 mMO_atLeast.2.1 mMO_atLeast.2.2.1 mMO_atLeast.2.2.2.1 ∈ gTbl ∧ Cond.initialized mMO_atLeast.1.cls ∈ gTbl := ⟨gTbl_in (i := 685) (by decide +kernel) (by decide +kernel), gTbl_in (i := 44) (by decide +kernel) (by decide +kernel)⟩
theorem qMO_row : Cond.code mMO_row.1 mMO_row.2.1 mMO_row.2.2.1 mMO_row.2.2.2.1 ∈ gTbl ∧ Cond.initialized mMO_row.1.cls ∈ gTbl := ⟨gTbl_in (i := 689) (by decide +kernel) (by decide +kernel), gTbl_in (i := 44) (by decide +kernel) (by decide +kernel)⟩
theorem qMO_conflict : Cond.code mMO_conflict.1 mMO_conflict.2.1 mMO_conflict.2.2.1 mMO_conflict.2.2.2.1 ∈ gTbl ∧ Cond.initialized mMO_conflict.1.cls ∈ gTbl := ⟨gTbl_in (i := 693) (by decide +kernel) (by decide +kernel), gTbl_in (i := 44) (by decide +kernel) (by decide +kernel)⟩
theorem qMO_lower : Cond.code mMO_lower.1 mMO_lower.2.1 mMO_lower.2.2.1 mMO_lower.2.2.2.1 ∈ gTbl ∧ Cond.initialized mMO_lower.1.cls ∈ gTbl := ⟨gTbl_in (i := 697) (by decide +kernel) (by decide +kernel), gTbl_in (i := 44) (by decide +kernel) (by decide +kernel)⟩
theorem qMO_settle : Cond.code mMO_settle.1 mMO_settle.2.1 mMO_settle.2.2.1 mMO_settle.2.2.2.1 ∈ gTbl ∧ Cond.initialized mMO_settle.1.cls ∈ gTbl := ⟨gTbl_in (i := 702) (by decide +kernel) (by decide +kernel), gTbl_in (i := 44) (by decide +kernel) (by decide +kernel)⟩
theorem qMO_most : Cond.code mMO_most.1 mMO_most.2.1 mMO_most.2.2.1 mMO_most.2.2.2.1 ∈ gTbl ∧ Cond.initialized mMO_most.1.cls ∈ gTbl := ⟨gTbl_in (i := 706) (by decide +kernel) (by decide +kernel), gTbl_in (i := 44) (by decide +kernel) (by decide +kernel)⟩
theorem qMO_soft : Cond.code mMO_soft.1 mMO_soft.2.1 mMO_soft.2.2.1 mMO_soft.2.2.2.1 ∈ gTbl ∧ Cond.initialized mMO_soft.1.cls ∈ gTbl := ⟨gTbl_in (i := 710) (by decide +kernel) (by decide +kernel), gTbl_in (i := 44) (by decide +kernel) (by decide +kernel)⟩
theorem qMO_remove : Cond.code mMO_remove.1 mMO_remove.2.1 mMO_remove.2.2.1 mMO_remove.2.2.2.1 ∈ gTbl ∧ Cond.initialized mMO_remove.1.cls ∈ gTbl := ⟨gTbl_in (i := 714) (by decide +kernel) (by decide +kernel), gTbl_in (i := 44) (by decide +kernel) (by decide +kernel)⟩
theorem qMO_isConstraint : Cond.code mMO_isConstraint.1 mMO_isConstraint.2.1 mMO_isConstraint.2.2.1 mMO_isConstraint.2.2.2.1 ∈ gTbl ∧ Cond.initialized mMO_isConstraint.1.cls ∈ gTbl := ⟨gTbl_in (i := 718) (by decide +kernel) (by decide +kernel), gTbl_in (i := 44) (by decide +kernel) (by decide +kernel)⟩
theorem qMO_suggest : Cond.code mMO_suggest.1 mMO_suggest.2.1 mMO_suggest.2.2.1 mMO_suggest.2.2.2.1 ∈ gTbl ∧ Cond.initialized mMO_suggest.1.cls ∈ gTbl := ⟨gTbl_in (i := 722) (by decide +kernel) (by decide +kernel), gTbl_in (i := 44) (by decide +kernel) (by decide +kernel)⟩
theorem qMO_resize : Cond.code mMO_resize.1 mMO_resize.2.1 mMO_resize.2.2.1 mMO_resize.2.2.2.1 ∈ gTbl ∧ Cond.initialized mMO_resize.1.cls ∈ gTbl := ⟨gTbl_in (i := 726) (by decide +kernel) (by decide +kernel), gTbl_in (i := 44) (by decide +kernel) (by decide +kernel)⟩
theorem qMO_place : Cond.code mMO_place.1 mMO_place.2.1 mMO_place.2.2.1 mMO_place.2.2.2.1 ∈ gTbl ∧ Cond.initialized mMO_place.1.cls ∈ gTbl := ⟨gTbl_in (i := 730) (by decide +kernel) (by decide +kernel), gTbl_in (i := 44) (by decide +kernel) (by decide +kernel)⟩
theorem qMO_error : Cond.code mMO_error.1 mMO_error.2.1 mMO_error.2.2.1 mMO_error.2.2.2.1 ∈ gTbl ∧ Cond.initialized mMO_error.1.cls ∈ gTbl := ⟨gTbl_in (i := 734) (by decide +kernel) (by decide +kernel), gTbl_in (i := 44) (by decide +kernel) (by decide +kernel)⟩
theorem qMO_hide : Cond.code mMO_hide.1 mMO_hide.2.1 mMO_hide.2.2.1 mMO_hide.2.2.2.1 ∈ gTbl ∧ Cond.initialized mMO_hide.1.cls ∈ gTbl := ⟨gTbl_in (i := 738) (by decide +kernel) (by decide +kernel), gTbl_in (i := 44) (by decide +kernel) (by decide +kernel)⟩
theorem qMO_raise : Cond.code mMO_raise.1 mMO_raise.2.1 mMO_raise.2.2.1 mMO_raise.2.2.2.1 ∈ gTbl ∧ Cond.initialized mMO_raise.1.cls ∈ gTbl := ⟨gTbl_in (i := 742) (by decide +kernel) (by decide +kernel), gTbl_in (i := 44) (by decide +kernel) (by decide +kernel)⟩
theorem qMO_isLast : Cond.code mMO_isLast.1 mMO_isLast.2.1 mMO_isLast.2.2.1 mMO_isLast.2.2.2.1 ∈ gTbl ∧ Cond.initialized mMO_isLast.1.cls ∈ gTbl := ⟨gTbl_in (i := 746) (by decide +kernel) (by decide +kernel), gTbl_in (i := 44) (by decide +kernel) (by decide +kernel)⟩
theorem qMO_hit : Cond.code mMO_hit.1 mMO_hit.2.1 mMO_hit.2.2.1 mMO_hit.2.2.2.1 ∈ gTbl ∧ Cond.initialized mMO_hit.1.cls ∈ gTbl := ⟨gTbl_in (i := 750) (by decide +kernel) (by decide +kernel), gTbl_in (i := 44) (by decide +kernel) (by decide +kernel)⟩
theorem qMO_inFront : Cond.code mMO_inFront.1 mMO_inFront.2.1 mMO_inFront.2.2.1 mMO_inFront.2.2.2.1 ∈ gTbl ∧ Cond.initialized mMO_inFront.1.cls ∈ gTbl := ⟨gTbl_in (i := 754) (by decide +kernel) (by decide +kernel), gTbl_in (i := 44) (by decide +kernel) (by decide +kernel)⟩
theorem qMO_press : Cond.code mMO_press.1 mMO_press.2.1 mMO_press.2.2.1 mMO_press.2.2.2.1 ∈ gTbl ∧ Cond.initialized mMO_press.1.cls ∈ gTbl := ⟨gTbl_in (i := 758) (by decide +kernel) (by decide +kernel), gTbl_in (i := 44) (by decide +kernel) (by decide +kernel)⟩
theorem qMO_release : Cond.code mMO_release.1 mMO_release.2.1 mMO_release.2.2.1 mMO_release.2.2.2.1 ∈ gTbl ∧ Cond.initialized mMO_release.1.cls ∈ gTbl := ⟨gTbl_in (i := 763) (by decide +kernel) (by decide +kernel), gTbl_in (i := 44) (by decide +kernel) (by decide +kernel)⟩
theorem qMO_activate : Cond.code mMO_activate.1 mMO_activate.2.1 mMO_activate.2.2.1 mMO_activate.2.2.2.1 ∈ gTbl ∧ Cond.initialized mMO_activate.1.cls ∈ gTbl := ⟨gTbl_in (i := 767) (by decide +kernel) (by decide +kernel), gTbl_in (i := 44) (by decide +kernel) (by decide +kernel)⟩
theorem qMO_step : Cond.code mMO_step.1 mMO_step.2.1 mMO_step.2.2.1 mMO_step.2.2.2.1 ∈ gTbl ∧ Cond.initialized mMO_step.1.cls ∈ gTbl := ⟨gTbl_in (i := 771) (by decide +kernel) (by decide +kernel), gTbl_in (i := 44) (by decide +kernel) (by decide +kernel)⟩
theorem qMO_key : Cond.code mMO_key.1 mMO_key.2.1 mMO_key.2.2.1 mMO_key.2.2.2.1 ∈ gTbl ∧ Cond.initialized mMO_key.1.cls ∈ gTbl := ⟨gTbl_in (i := 775) (by decide +kernel) (by decide +kernel), gTbl_in (i := 44) (by decide +kernel) (by decide +kernel)⟩
theorem qMO_attention : Cond.code mMO_attention.1 mMO_attention.2.1 mMO_attention.2.2.1 mMO_attention.2.2.2.1 ∈ gTbl ∧ Cond.initialized mMO_attention.1.cls ∈ gTbl := ⟨gTbl_in (i := 779) (by decide +kernel) (by decide +kernel), gTbl_in (i := 44) (by decide +kernel) (by decide +kernel)⟩
theorem qMO_count : Cond.code mMO_count.1 mMO_count.2.1 mMO_count.2.2.1 mMO_count.2.2.2.1 ∈ gTbl ∧ Cond.initialized mMO_count.1.cls ∈ gTbl := ⟨gTbl_in (i := 783) (by decide +kernel) (by decide +kernel), gTbl_in (i := 44) (by decide +kernel) (by decide +kernel)⟩
theorem qMO_damage : Cond.code mMO_damage.1 mMO_damage.2.1 mMO_damage.2.2.1 mMO_damage.2.2.2.1 ∈ gTbl ∧ Cond.initialized mMO_damage.1.cls ∈ gTbl := ⟨gTbl_in (i := 787) (by decide +kernel) (by decide +kernel), gTbl_in (i := 44) (by decide +kernel) (by decide +kernel)⟩
theorem qMO_paint : Cond.code mMO_paint.1 mMO_paint.2.1 mMO_paint.2.2.1 mMO_paint.2.2.2.1 ∈ gTbl ∧ Cond.initialized mMO_paint.1.cls ∈ gTbl := ⟨gTbl_in (i := 791) (by decide +kernel) (by decide +kernel), gTbl_in (i := 44) (by decide +kernel) (by decide +kernel)⟩
theorem qMO_pixel : Cond.code mMO_pixel.1 mMO_pixel.2.1 mMO_pixel.2.2.1 mMO_pixel.2.2.2.1 ∈ gTbl ∧ Cond.initialized mMO_pixel.1.cls ∈ gTbl := ⟨gTbl_in (i := 795) (by decide +kernel) (by decide +kernel), gTbl_in (i := 44) (by decide +kernel) (by decide +kernel)⟩
theorem oAR_3 : Cond.methodLink "DamageView$Area" 3 objectInit ∈ gTbl ∧ Cond.instanceMethod objectInit ∈ gTbl ∧ Cond.code objectInit ⟨#[0xb1]⟩ 1 none ∈ gTbl := ⟨gTbl_in (i := 137) (by decide +kernel) (by decide +kernel), gTbl_in (i := 53) (by decide +kernel) (by decide +kernel), gTbl_in (i := 54) (by decide +kernel) (by decide +kernel)⟩
theorem jAR_24 : Cond.methodLink "DamageView$Area" 24 Lib.Math.max.name ∈ gTbl ∧ Cond.static Lib.Math.max.name ∈ gTbl ∧ Cond.initialized "java/lang/Math" ∈ gTbl ∧ Cond.code Lib.Math.max.name Lib.Math.max.code 2 (some .int) ∈ gTbl := ⟨gTbl_in (i := 210) (by decide +kernel) (by decide +kernel), gTbl_in (i := 211) (by decide +kernel) (by decide +kernel), gTbl_in (i := 43) (by decide +kernel) (by decide +kernel), gTbl_in (i := 212) (by decide +kernel) (by decide +kernel)⟩
theorem jAR_30 : Cond.methodLink "DamageView$Area" 30 Lib.Math.min.name ∈ gTbl ∧ Cond.static Lib.Math.min.name ∈ gTbl ∧ Cond.initialized "java/lang/Math" ∈ gTbl ∧ Cond.code Lib.Math.min.name Lib.Math.min.code 2 (some .int) ∈ gTbl := ⟨gTbl_in (i := 213) (by decide +kernel) (by decide +kernel), gTbl_in (i := 214) (by decide +kernel) (by decide +kernel), gTbl_in (i := 43) (by decide +kernel) (by decide +kernel), gTbl_in (i := 215) (by decide +kernel) (by decide +kernel)⟩
theorem lAR_33 : Cond.methodLink "DamageView$Area" 33 mAR_isEmpty.1 ∈ gTbl ∧ Cond.instanceMethod mAR_isEmpty.1 ∈ gTbl ∧ Cond.selects mAR_isEmpty.1.cls mAR_isEmpty.1 mAR_isEmpty.1 ∈ gTbl ∧ vwCl[5]? = some (mAR_isEmpty.1.cls, TbAR, 4) := ⟨gTbl_in (i := 216) (by decide +kernel) (by decide +kernel), gTbl_in (i := 217) (by decide +kernel) (by decide +kernel), gTbl_in (i := 218) (by decide +kernel) (by decide +kernel), rfl⟩
theorem lAR_37 : Cond.methodLink "DamageView$Area" 37 mAR_makeEmpty.1 ∈ gTbl ∧ Cond.instanceMethod mAR_makeEmpty.1 ∈ gTbl ∧ Cond.selects mAR_makeEmpty.1.cls mAR_makeEmpty.1 mAR_makeEmpty.1 ∈ gTbl ∧ vwCl[5]? = some (mAR_makeEmpty.1.cls, TbAR, 4) := ⟨gTbl_in (i := 220) (by decide +kernel) (by decide +kernel), gTbl_in (i := 199) (by decide +kernel) (by decide +kernel), gTbl_in (i := 200) (by decide +kernel) (by decide +kernel), rfl⟩
theorem oBD_3 : Cond.methodLink "DamageView$Bounds" 3 objectInit ∈ gTbl ∧ Cond.instanceMethod objectInit ∈ gTbl ∧ Cond.code objectInit ⟨#[0xb1]⟩ 1 none ∈ gTbl := ⟨gTbl_in (i := 88) (by decide +kernel) (by decide +kernel), gTbl_in (i := 53) (by decide +kernel) (by decide +kernel), gTbl_in (i := 54) (by decide +kernel) (by decide +kernel)⟩
theorem jBD_16 : Cond.methodLink "DamageView$Bounds" 16 Lib.Math.min.name ∈ gTbl ∧ Cond.static Lib.Math.min.name ∈ gTbl ∧ Cond.initialized "java/lang/Math" ∈ gTbl ∧ Cond.code Lib.Math.min.name Lib.Math.min.code 2 (some .int) ∈ gTbl := ⟨gTbl_in (i := 340) (by decide +kernel) (by decide +kernel), gTbl_in (i := 214) (by decide +kernel) (by decide +kernel), gTbl_in (i := 43) (by decide +kernel) (by decide +kernel), gTbl_in (i := 215) (by decide +kernel) (by decide +kernel)⟩
theorem lBD_31 : Cond.methodLink "DamageView$Bounds" 31 mJF_fill.1 ∈ gTbl ∧ Cond.static mJF_fill.1 ∈ gTbl := ⟨gTbl_in (i := 342) (by decide +kernel) (by decide +kernel), gTbl_in (i := 343) (by decide +kernel) (by decide +kernel)⟩
theorem lBD_37 : Cond.methodLink "DamageView$Bounds" 37 mBD_keepAtMost.1 ∈ gTbl ∧ Cond.instanceMethod mBD_keepAtMost.1 ∈ gTbl ∧ Cond.selects mBD_keepAtMost.1.cls mBD_keepAtMost.1 mBD_keepAtMost.1 ∈ gTbl ∧ vwCl[3]? = some (mBD_keepAtMost.1.cls, TbBD, 3) := ⟨gTbl_in (i := 349) (by decide +kernel) (by decide +kernel), gTbl_in (i := 350) (by decide +kernel) (by decide +kernel), gTbl_in (i := 351) (by decide +kernel) (by decide +kernel), rfl⟩
theorem lBD_41 : Cond.methodLink "DamageView$Bounds" 41 mBD_lowest.1 ∈ gTbl ∧ Cond.instanceMethod mBD_lowest.1 ∈ gTbl ∧ Cond.selects mBD_lowest.1.cls mBD_lowest.1 mBD_lowest.1 ∈ gTbl ∧ vwCl[3]? = some (mBD_lowest.1.cls, TbBD, 3) := ⟨gTbl_in (i := 375) (by decide +kernel) (by decide +kernel), gTbl_in (i := 376) (by decide +kernel) (by decide +kernel), gTbl_in (i := 377) (by decide +kernel) (by decide +kernel), rfl⟩
theorem lBD_44 : Cond.methodLink "DamageView$Bounds" 44 mBD_highest.1 ∈ gTbl ∧ Cond.instanceMethod mBD_highest.1 ∈ gTbl ∧ Cond.selects mBD_highest.1.cls mBD_highest.1 mBD_highest.1 ∈ gTbl ∧ vwCl[3]? = some (mBD_highest.1.cls, TbBD, 3) := ⟨gTbl_in (i := 379) (by decide +kernel) (by decide +kernel), gTbl_in (i := 380) (by decide +kernel) (by decide +kernel), gTbl_in (i := 381) (by decide +kernel) (by decide +kernel), rfl⟩
theorem lBD_47 : Cond.methodLinkNest "DamageView$Bounds" 47 mDV_nearest.1 "DamageView" ∈ gNest ∧ Cond.static mDV_nearest.1 ∈ gTbl := ⟨List.mem_of_getElem? (i := 3) rfl, gTbl_in (i := 75) (by decide +kernel) (by decide +kernel)⟩
theorem oBX_3 : Cond.methodLink "DamageView$Box" 3 objectInit ∈ gTbl ∧ Cond.instanceMethod objectInit ∈ gTbl ∧ Cond.code objectInit ⟨#[0xb1]⟩ 1 none ∈ gTbl := ⟨gTbl_in (i := 131) (by decide +kernel) (by decide +kernel), gTbl_in (i := 53) (by decide +kernel) (by decide +kernel), gTbl_in (i := 54) (by decide +kernel) (by decide +kernel)⟩
theorem lBX_11 : Cond.methodLinkNest "DamageView$Box" 11 mAR_init.1 "DamageView" ∈ gNest ∧ Cond.instanceMethod mAR_init.1 ∈ gTbl := ⟨List.mem_of_getElem? (i := 2) rfl, gTbl_in (i := 135) (by decide +kernel) (by decide +kernel)⟩
theorem lBX_35 : Cond.methodLink "DamageView$Box" 35 mAR_isEmpty.1 ∈ gTbl ∧ Cond.instanceMethod mAR_isEmpty.1 ∈ gTbl ∧ Cond.selects mAR_isEmpty.1.cls mAR_isEmpty.1 mAR_isEmpty.1 ∈ gTbl ∧ vwCl[5]? = some (mAR_isEmpty.1.cls, TbAR, 4) := ⟨gTbl_in (i := 225) (by decide +kernel) (by decide +kernel), gTbl_in (i := 217) (by decide +kernel) (by decide +kernel), gTbl_in (i := 218) (by decide +kernel) (by decide +kernel), rfl⟩
theorem lBX_39 : Cond.methodLink "DamageView$Box" 39 mAR_copyFrom.1 ∈ gTbl ∧ Cond.instanceMethod mAR_copyFrom.1 ∈ gTbl ∧ Cond.selects mAR_copyFrom.1.cls mAR_copyFrom.1 mAR_copyFrom.1 ∈ gTbl ∧ vwCl[5]? = some (mAR_copyFrom.1.cls, TbAR, 4) := ⟨gTbl_in (i := 194) (by decide +kernel) (by decide +kernel), gTbl_in (i := 195) (by decide +kernel) (by decide +kernel), gTbl_in (i := 196) (by decide +kernel) (by decide +kernel), rfl⟩
theorem lBX_47 : Cond.methodLink "DamageView$Box" 47 mAR_makeEmpty.1 ∈ gTbl ∧ Cond.instanceMethod mAR_makeEmpty.1 ∈ gTbl ∧ Cond.selects mAR_makeEmpty.1.cls mAR_makeEmpty.1 mAR_makeEmpty.1 ∈ gTbl ∧ vwCl[5]? = some (mAR_makeEmpty.1.cls, TbAR, 4) := ⟨gTbl_in (i := 198) (by decide +kernel) (by decide +kernel), gTbl_in (i := 199) (by decide +kernel) (by decide +kernel), gTbl_in (i := 200) (by decide +kernel) (by decide +kernel), rfl⟩
theorem lBX_50 : Cond.methodLink "DamageView$Box" 50 mAR_takeEdges.1 ∈ gTbl ∧ Cond.instanceMethod mAR_takeEdges.1 ∈ gTbl ∧ Cond.selects mAR_takeEdges.1.cls mAR_takeEdges.1 mAR_takeEdges.1 ∈ gTbl ∧ vwCl[5]? = some (mAR_takeEdges.1.cls, TbAR, 4) := ⟨gTbl_in (i := 202) (by decide +kernel) (by decide +kernel), gTbl_in (i := 203) (by decide +kernel) (by decide +kernel), gTbl_in (i := 204) (by decide +kernel) (by decide +kernel), rfl⟩
theorem lBX_54 : Cond.methodLink "DamageView$Box" 54 mAR_cutTo.1 ∈ gTbl ∧ Cond.instanceMethod mAR_cutTo.1 ∈ gTbl ∧ Cond.selects mAR_cutTo.1.cls mAR_cutTo.1 mAR_cutTo.1 ∈ gTbl ∧ vwCl[5]? = some (mAR_cutTo.1.cls, TbAR, 4) := ⟨gTbl_in (i := 206) (by decide +kernel) (by decide +kernel), gTbl_in (i := 207) (by decide +kernel) (by decide +kernel), gTbl_in (i := 208) (by decide +kernel) (by decide +kernel), rfl⟩
theorem oCN_3 : Cond.methodLink "DamageView$Constraint" 3 objectInit ∈ gTbl ∧ Cond.instanceMethod objectInit ∈ gTbl ∧ Cond.code objectInit ⟨#[0xb1]⟩ 1 none ∈ gTbl := ⟨gTbl_in (i := 306) (by decide +kernel) (by decide +kernel), gTbl_in (i := 53) (by decide +kernel) (by decide +kernel), gTbl_in (i := 54) (by decide +kernel) (by decide +kernel)⟩
theorem jCN_27 : Cond.methodLink "DamageView$Constraint" 27 Lib.Math.abs.name ∈ gTbl ∧ Cond.static Lib.Math.abs.name ∈ gTbl ∧ Cond.initialized "java/lang/Math" ∈ gTbl ∧ Cond.code Lib.Math.abs.name Lib.Math.abs.code 1 (some .int) ∈ gTbl := ⟨gTbl_in (i := 428) (by decide +kernel) (by decide +kernel), gTbl_in (i := 429) (by decide +kernel) (by decide +kernel), gTbl_in (i := 43) (by decide +kernel) (by decide +kernel), gTbl_in (i := 430) (by decide +kernel) (by decide +kernel)⟩
theorem jCN_33 : Cond.methodLink "DamageView$Constraint" 33 Lib.Math.max.name ∈ gTbl ∧ Cond.static Lib.Math.max.name ∈ gTbl ∧ Cond.initialized "java/lang/Math" ∈ gTbl ∧ Cond.code Lib.Math.max.name Lib.Math.max.code 2 (some .int) ∈ gTbl := ⟨gTbl_in (i := 431) (by decide +kernel) (by decide +kernel), gTbl_in (i := 211) (by decide +kernel) (by decide +kernel), gTbl_in (i := 43) (by decide +kernel) (by decide +kernel), gTbl_in (i := 212) (by decide +kernel) (by decide +kernel)⟩
theorem lCN_37 : Cond.methodLink "DamageView$Constraint" 37 mBD_fix.1 ∈ gTbl ∧ Cond.instanceMethod mBD_fix.1 ∈ gTbl ∧ Cond.selects mBD_fix.1.cls mBD_fix.1 mBD_fix.1 ∈ gTbl ∧ vwCl[3]? = some (mBD_fix.1.cls, TbBD, 3) := ⟨gTbl_in (i := 361) (by decide +kernel) (by decide +kernel), gTbl_in (i := 346) (by decide +kernel) (by decide +kernel), gTbl_in (i := 347) (by decide +kernel) (by decide +kernel), rfl⟩
theorem lCN_43 : Cond.methodLink "DamageView$Constraint" 43 mBD_keepAtLeast.1 ∈ gTbl ∧ Cond.instanceMethod mBD_keepAtLeast.1 ∈ gTbl ∧ Cond.selects mBD_keepAtLeast.1.cls mBD_keepAtLeast.1 mBD_keepAtLeast.1 ∈ gTbl ∧ vwCl[3]? = some (mBD_keepAtLeast.1.cls, TbBD, 3) := ⟨gTbl_in (i := 362) (by decide +kernel) (by decide +kernel), gTbl_in (i := 354) (by decide +kernel) (by decide +kernel), gTbl_in (i := 355) (by decide +kernel) (by decide +kernel), rfl⟩
theorem lCN_46 : Cond.methodLink "DamageView$Constraint" 46 mBD_fixNear.1 ∈ gTbl ∧ Cond.instanceMethod mBD_fixNear.1 ∈ gTbl ∧ Cond.selects mBD_fixNear.1.cls mBD_fixNear.1 mBD_fixNear.1 ∈ gTbl ∧ vwCl[3]? = some (mBD_fixNear.1.cls, TbBD, 3) := ⟨gTbl_in (i := 371) (by decide +kernel) (by decide +kernel), gTbl_in (i := 372) (by decide +kernel) (by decide +kernel), gTbl_in (i := 373) (by decide +kernel) (by decide +kernel), rfl⟩
theorem lCN_50 : Cond.methodLink "DamageView$Constraint" 50 mBD_highest.1 ∈ gTbl ∧ Cond.instanceMethod mBD_highest.1 ∈ gTbl ∧ Cond.selects mBD_highest.1.cls mBD_highest.1 mBD_highest.1 ∈ gTbl ∧ vwCl[3]? = some (mBD_highest.1.cls, TbBD, 3) := ⟨gTbl_in (i := 384) (by decide +kernel) (by decide +kernel), gTbl_in (i := 380) (by decide +kernel) (by decide +kernel), gTbl_in (i := 381) (by decide +kernel) (by decide +kernel), rfl⟩
theorem jCN_53 : Cond.methodLink "DamageView$Constraint" 53 Lib.Math.min.name ∈ gTbl ∧ Cond.static Lib.Math.min.name ∈ gTbl ∧ Cond.initialized "java/lang/Math" ∈ gTbl ∧ Cond.code Lib.Math.min.name Lib.Math.min.code 2 (some .int) ∈ gTbl := ⟨gTbl_in (i := 385) (by decide +kernel) (by decide +kernel), gTbl_in (i := 214) (by decide +kernel) (by decide +kernel), gTbl_in (i := 43) (by decide +kernel) (by decide +kernel), gTbl_in (i := 215) (by decide +kernel) (by decide +kernel)⟩
theorem oLA_3 : Cond.methodLink "DamageView$Layout" 3 objectInit ∈ gTbl ∧ Cond.instanceMethod objectInit ∈ gTbl ∧ Cond.code objectInit ⟨#[0xb1]⟩ 1 none ∈ gTbl := ⟨gTbl_in (i := 80) (by decide +kernel) (by decide +kernel), gTbl_in (i := 53) (by decide +kernel) (by decide +kernel), gTbl_in (i := 54) (by decide +kernel) (by decide +kernel)⟩
theorem lLA_23 : Cond.methodLinkNest "DamageView$Layout" 23 mBD_init.1 "DamageView" ∈ gNest ∧ Cond.instanceMethod mBD_init.1 ∈ gTbl := ⟨List.mem_of_getElem? (i := 1) rfl, gTbl_in (i := 86) (by decide +kernel) (by decide +kernel)⟩
theorem lLA_38 : Cond.methodLink "DamageView$Layout" 38 mLA_isEdge.1 ∈ gTbl ∧ Cond.instanceMethod mLA_isEdge.1 ∈ gTbl ∧ Cond.selects mLA_isEdge.1.cls mLA_isEdge.1 mLA_isEdge.1 ∈ gTbl ∧ vwCl[2]? = some (mLA_isEdge.1.cls, TbLA, 6) := ⟨gTbl_in (i := 287) (by decide +kernel) (by decide +kernel), gTbl_in (i := 288) (by decide +kernel) (by decide +kernel), gTbl_in (i := 289) (by decide +kernel) (by decide +kernel), rfl⟩
theorem lLA_42 : Cond.methodLink "DamageView$Layout" 42 mLA_isTopOrBottom.1 ∈ gTbl ∧ Cond.static mLA_isTopOrBottom.1 ∈ gTbl := ⟨gTbl_in (i := 291) (by decide +kernel) (by decide +kernel), gTbl_in (i := 292) (by decide +kernel) (by decide +kernel)⟩
theorem lLA_45 : Cond.methodLink "DamageView$Layout" 45 mLA_solve.1 ∈ gTbl ∧ Cond.instanceMethod mLA_solve.1 ∈ gTbl ∧ Cond.selects mLA_solve.1.cls mLA_solve.1 mLA_solve.1 ∈ gTbl ∧ vwCl[2]? = some (mLA_solve.1.cls, TbLA, 6) := ⟨gTbl_in (i := 328) (by decide +kernel) (by decide +kernel), gTbl_in (i := 330) (by decide +kernel) (by decide +kernel), gTbl_in (i := 5) (by decide +kernel) (by decide +kernel), rfl⟩
theorem lLA_49 : Cond.methodLink "DamageView$Layout" 49 mLA_demandAll.1 ∈ gTbl ∧ Cond.instanceMethod mLA_demandAll.1 ∈ gTbl ∧ Cond.selects mLA_demandAll.1.cls mLA_demandAll.1 mLA_demandAll.1 ∈ gTbl ∧ vwCl[2]? = some (mLA_demandAll.1.cls, TbLA, 6) := ⟨gTbl_in (i := 332) (by decide +kernel) (by decide +kernel), gTbl_in (i := 334) (by decide +kernel) (by decide +kernel), gTbl_in (i := 6) (by decide +kernel) (by decide +kernel), rfl⟩
theorem lLA_56 : Cond.methodLink "DamageView$Layout" 56 mLA_chooseBest.1 ∈ gTbl ∧ Cond.instanceMethod mLA_chooseBest.1 ∈ gTbl ∧ Cond.selects mLA_chooseBest.1.cls mLA_chooseBest.1 mLA_chooseBest.1 ∈ gTbl ∧ vwCl[2]? = some (mLA_chooseBest.1.cls, TbLA, 6) := ⟨gTbl_in (i := 363) (by decide +kernel) (by decide +kernel), gTbl_in (i := 365) (by decide +kernel) (by decide +kernel), gTbl_in (i := 7) (by decide +kernel) (by decide +kernel), rfl⟩
theorem lLA_59 : Cond.methodLink "DamageView$Layout" 59 mBD_fixNear.1 ∈ gTbl ∧ Cond.instanceMethod mBD_fixNear.1 ∈ gTbl ∧ Cond.selects mBD_fixNear.1.cls mBD_fixNear.1 mBD_fixNear.1 ∈ gTbl ∧ vwCl[3]? = some (mBD_fixNear.1.cls, TbBD, 3) := ⟨gTbl_in (i := 386) (by decide +kernel) (by decide +kernel), gTbl_in (i := 372) (by decide +kernel) (by decide +kernel), gTbl_in (i := 373) (by decide +kernel) (by decide +kernel), rfl⟩
theorem lLA_63 : Cond.methodLink "DamageView$Layout" 63 mBD_open.1 ∈ gTbl ∧ Cond.instanceMethod mBD_open.1 ∈ gTbl ∧ Cond.selects mBD_open.1.cls mBD_open.1 mBD_open.1 ∈ gTbl ∧ vwCl[3]? = some (mBD_open.1.cls, TbBD, 3) := ⟨gTbl_in (i := 336) (by decide +kernel) (by decide +kernel), gTbl_in (i := 337) (by decide +kernel) (by decide +kernel), gTbl_in (i := 338) (by decide +kernel) (by decide +kernel), rfl⟩
theorem lLA_67 : Cond.methodLink "DamageView$Layout" 67 mBD_fix.1 ∈ gTbl ∧ Cond.instanceMethod mBD_fix.1 ∈ gTbl ∧ Cond.selects mBD_fix.1.cls mBD_fix.1 mBD_fix.1 ∈ gTbl ∧ vwCl[3]? = some (mBD_fix.1.cls, TbBD, 3) := ⟨gTbl_in (i := 345) (by decide +kernel) (by decide +kernel), gTbl_in (i := 346) (by decide +kernel) (by decide +kernel), gTbl_in (i := 347) (by decide +kernel) (by decide +kernel), rfl⟩
theorem lLA_71 : Cond.methodLink "DamageView$Layout" 71 mBD_keepAtLeast.1 ∈ gTbl ∧ Cond.instanceMethod mBD_keepAtLeast.1 ∈ gTbl ∧ Cond.selects mBD_keepAtLeast.1.cls mBD_keepAtLeast.1 mBD_keepAtLeast.1 ∈ gTbl ∧ vwCl[3]? = some (mBD_keepAtLeast.1.cls, TbBD, 3) := ⟨gTbl_in (i := 353) (by decide +kernel) (by decide +kernel), gTbl_in (i := 354) (by decide +kernel) (by decide +kernel), gTbl_in (i := 355) (by decide +kernel) (by decide +kernel), rfl⟩
theorem lLA_77 : Cond.methodLink "DamageView$Layout" 77 mCN_demandIn.1 ∈ gTbl ∧ Cond.instanceMethod mCN_demandIn.1 ∈ gTbl ∧ Cond.selects mCN_demandIn.1.cls mCN_demandIn.1 mCN_demandIn.1 ∈ gTbl ∧ vwCl[6]? = some (mCN_demandIn.1.cls, TbCN, 5) := ⟨gTbl_in (i := 357) (by decide +kernel) (by decide +kernel), gTbl_in (i := 358) (by decide +kernel) (by decide +kernel), gTbl_in (i := 359) (by decide +kernel) (by decide +kernel), rfl⟩
theorem lLA_81 : Cond.methodLink "DamageView$Layout" 81 mCN_leastErrorIn.1 ∈ gTbl ∧ Cond.instanceMethod mCN_leastErrorIn.1 ∈ gTbl ∧ Cond.selects mCN_leastErrorIn.1.cls mCN_leastErrorIn.1 mCN_leastErrorIn.1 ∈ gTbl ∧ vwCl[6]? = some (mCN_leastErrorIn.1.cls, TbCN, 5) := ⟨gTbl_in (i := 367) (by decide +kernel) (by decide +kernel), gTbl_in (i := 368) (by decide +kernel) (by decide +kernel), gTbl_in (i := 369) (by decide +kernel) (by decide +kernel), rfl⟩
theorem oSC_3 : Cond.methodLink "DamageView$Screen" 3 objectInit ∈ gTbl ∧ Cond.instanceMethod objectInit ∈ gTbl ∧ Cond.code objectInit ⟨#[0xb1]⟩ 1 none ∈ gTbl := ⟨gTbl_in (i := 60) (by decide +kernel) (by decide +kernel), gTbl_in (i := 53) (by decide +kernel) (by decide +kernel), gTbl_in (i := 54) (by decide +kernel) (by decide +kernel)⟩
theorem lSC_19 : Cond.methodLink "DamageView$Screen" 19 mAR_has.1 ∈ gTbl ∧ Cond.instanceMethod mAR_has.1 ∈ gTbl ∧ Cond.selects mAR_has.1.cls mAR_has.1 mAR_has.1 ∈ gTbl ∧ vwCl[5]? = some (mAR_has.1.cls, TbAR, 4) := ⟨gTbl_in (i := 242) (by decide +kernel) (by decide +kernel), gTbl_in (i := 243) (by decide +kernel) (by decide +kernel), gTbl_in (i := 244) (by decide +kernel) (by decide +kernel), rfl⟩
theorem lSC_25 : Cond.methodLink "DamageView$Screen" 25 mSC_pointOf.1 ∈ gTbl ∧ Cond.static mSC_pointOf.1 ∈ gTbl := ⟨gTbl_in (i := 246) (by decide +kernel) (by decide +kernel), gTbl_in (i := 247) (by decide +kernel) (by decide +kernel)⟩
theorem oDV_3 : Cond.methodLink "DamageView" 3 objectInit ∈ gTbl ∧ Cond.instanceMethod objectInit ∈ gTbl ∧ Cond.code objectInit ⟨#[0xb1]⟩ 1 none ∈ gTbl := ⟨gTbl_in (i := 52) (by decide +kernel) (by decide +kernel), gTbl_in (i := 53) (by decide +kernel) (by decide +kernel), gTbl_in (i := 54) (by decide +kernel) (by decide +kernel)⟩
theorem lDV_11 : Cond.methodLinkNest "DamageView" 11 mSC_init.1 "DamageView" ∈ gNest ∧ Cond.instanceMethod mSC_init.1 ∈ gTbl := ⟨List.mem_of_getElem? (i := 0) rfl, gTbl_in (i := 58) (by decide +kernel) (by decide +kernel)⟩
theorem lDV_27 : Cond.methodLink "DamageView" 27 mDV_nearest.1 ∈ gTbl ∧ Cond.static mDV_nearest.1 ∈ gTbl := ⟨gTbl_in (i := 74) (by decide +kernel) (by decide +kernel), gTbl_in (i := 75) (by decide +kernel) (by decide +kernel)⟩
theorem lDV_31 : Cond.methodLink "DamageView" 31 mLA_init.1 ∈ gTbl ∧ Cond.instanceMethod mLA_init.1 ∈ gTbl := ⟨gTbl_in (i := 77) (by decide +kernel) (by decide +kernel), gTbl_in (i := 78) (by decide +kernel) (by decide +kernel)⟩
theorem lDV_38 : Cond.methodLink "DamageView" 38 mDV_addBox.1 ∈ gTbl ∧ Cond.instanceMethod mDV_addBox.1 ∈ gTbl ∧ Cond.selects mDV_addBox.1.cls mDV_addBox.1 mDV_addBox.1 ∈ gTbl ∧ vwCl[0]? = some (mDV_addBox.1.cls, TbDV, 7) := ⟨gTbl_in (i := 123) (by decide +kernel) (by decide +kernel), gTbl_in (i := 125) (by decide +kernel) (by decide +kernel), gTbl_in (i := 0) (by decide +kernel) (by decide +kernel), rfl⟩
theorem lDV_42 : Cond.methodLink "DamageView" 42 mDV_showChanges.1 ∈ gTbl ∧ Cond.instanceMethod mDV_showChanges.1 ∈ gTbl ∧ Cond.selects mDV_showChanges.1.cls mDV_showChanges.1 mDV_showChanges.1 ∈ gTbl ∧ vwCl[0]? = some (mDV_showChanges.1.cls, TbDV, 7) := ⟨gTbl_in (i := 186) (by decide +kernel) (by decide +kernel), gTbl_in (i := 188) (by decide +kernel) (by decide +kernel), gTbl_in (i := 1) (by decide +kernel) (by decide +kernel), rfl⟩
theorem lDV_49 : Cond.methodLink "DamageView" 49 mDV_isBox.1 ∈ gTbl ∧ Cond.instanceMethod mDV_isBox.1 ∈ gTbl ∧ Cond.selects mDV_isBox.1.cls mDV_isBox.1 mDV_isBox.1 ∈ gTbl ∧ vwCl[0]? = some (mDV_isBox.1.cls, TbDV, 7) := ⟨gTbl_in (i := 275) (by decide +kernel) (by decide +kernel), gTbl_in (i := 277) (by decide +kernel) (by decide +kernel), gTbl_in (i := 4) (by decide +kernel) (by decide +kernel), rfl⟩
theorem lDV_53 : Cond.methodLink "DamageView" 53 mLA_canJoin.1 ∈ gTbl ∧ Cond.instanceMethod mLA_canJoin.1 ∈ gTbl ∧ Cond.selects mLA_canJoin.1.cls mLA_canJoin.1 mLA_canJoin.1 ∈ gTbl ∧ vwCl[2]? = some (mLA_canJoin.1.cls, TbLA, 6) := ⟨gTbl_in (i := 283) (by decide +kernel) (by decide +kernel), gTbl_in (i := 284) (by decide +kernel) (by decide +kernel), gTbl_in (i := 285) (by decide +kernel) (by decide +kernel), rfl⟩
theorem lDV_57 : Cond.methodLink "DamageView" 57 mDV_isNear.1 ∈ gTbl ∧ Cond.static mDV_isNear.1 ∈ gTbl := ⟨gTbl_in (i := 294) (by decide +kernel) (by decide +kernel), gTbl_in (i := 295) (by decide +kernel) (by decide +kernel)⟩
theorem lDV_60 : Cond.methodLink "DamageView" 60 mLA_freeNumber.1 ∈ gTbl ∧ Cond.instanceMethod mLA_freeNumber.1 ∈ gTbl ∧ Cond.selects mLA_freeNumber.1.cls mLA_freeNumber.1 mLA_freeNumber.1 ∈ gTbl ∧ vwCl[2]? = some (mLA_freeNumber.1.cls, TbLA, 6) := ⟨gTbl_in (i := 297) (by decide +kernel) (by decide +kernel), gTbl_in (i := 298) (by decide +kernel) (by decide +kernel), gTbl_in (i := 299) (by decide +kernel) (by decide +kernel), rfl⟩
theorem lDV_66 : Cond.methodLink "DamageView" 66 mCN_init.1 ∈ gTbl ∧ Cond.instanceMethod mCN_init.1 ∈ gTbl := ⟨gTbl_in (i := 303) (by decide +kernel) (by decide +kernel), gTbl_in (i := 304) (by decide +kernel) (by decide +kernel)⟩
theorem lDV_69 : Cond.methodLink "DamageView" 69 mLA_add.1 ∈ gTbl ∧ Cond.instanceMethod mLA_add.1 ∈ gTbl ∧ Cond.selects mLA_add.1.cls mLA_add.1 mLA_add.1 ∈ gTbl ∧ vwCl[2]? = some (mLA_add.1.cls, TbLA, 6) := ⟨gTbl_in (i := 324) (by decide +kernel) (by decide +kernel), gTbl_in (i := 325) (by decide +kernel) (by decide +kernel), gTbl_in (i := 326) (by decide +kernel) (by decide +kernel), rfl⟩
theorem lDV_73 : Cond.methodLink "DamageView" 73 mLA_constraintAt.1 ∈ gTbl ∧ Cond.instanceMethod mLA_constraintAt.1 ∈ gTbl ∧ Cond.selects mLA_constraintAt.1.cls mLA_constraintAt.1 mLA_constraintAt.1 ∈ gTbl ∧ vwCl[2]? = some (mLA_constraintAt.1.cls, TbLA, 6) := ⟨gTbl_in (i := 391) (by decide +kernel) (by decide +kernel), gTbl_in (i := 392) (by decide +kernel) (by decide +kernel), gTbl_in (i := 393) (by decide +kernel) (by decide +kernel), rfl⟩
theorem lDV_77 : Cond.methodLink "DamageView" 77 mLA_takeAway.1 ∈ gTbl ∧ Cond.instanceMethod mLA_takeAway.1 ∈ gTbl ∧ Cond.selects mLA_takeAway.1.cls mLA_takeAway.1 mLA_takeAway.1 ∈ gTbl ∧ vwCl[2]? = some (mLA_takeAway.1.cls, TbLA, 6) := ⟨gTbl_in (i := 395) (by decide +kernel) (by decide +kernel), gTbl_in (i := 396) (by decide +kernel) (by decide +kernel), gTbl_in (i := 397) (by decide +kernel) (by decide +kernel), rfl⟩
theorem lDV_81 : Cond.methodLink "DamageView" 81 mLA_isEdge.1 ∈ gTbl ∧ Cond.instanceMethod mLA_isEdge.1 ∈ gTbl ∧ Cond.selects mLA_isEdge.1.cls mLA_isEdge.1 mLA_isEdge.1 ∈ gTbl ∧ vwCl[2]? = some (mLA_isEdge.1.cls, TbLA, 6) := ⟨gTbl_in (i := 403) (by decide +kernel) (by decide +kernel), gTbl_in (i := 288) (by decide +kernel) (by decide +kernel), gTbl_in (i := 289) (by decide +kernel) (by decide +kernel), rfl⟩
theorem lDV_84 : Cond.methodLink "DamageView" 84 mLA_solveNear.1 ∈ gTbl ∧ Cond.instanceMethod mLA_solveNear.1 ∈ gTbl ∧ Cond.selects mLA_solveNear.1.cls mLA_solveNear.1 mLA_solveNear.1 ∈ gTbl ∧ vwCl[2]? = some (mLA_solveNear.1.cls, TbLA, 6) := ⟨gTbl_in (i := 404) (by decide +kernel) (by decide +kernel), gTbl_in (i := 405) (by decide +kernel) (by decide +kernel), gTbl_in (i := 406) (by decide +kernel) (by decide +kernel), rfl⟩
theorem lDV_87 : Cond.methodLink "DamageView" 87 mLA_setSize.1 ∈ gTbl ∧ Cond.instanceMethod mLA_setSize.1 ∈ gTbl ∧ Cond.selects mLA_setSize.1.cls mLA_setSize.1 mLA_setSize.1 ∈ gTbl ∧ vwCl[2]? = some (mLA_setSize.1.cls, TbLA, 6) := ⟨gTbl_in (i := 412) (by decide +kernel) (by decide +kernel), gTbl_in (i := 413) (by decide +kernel) (by decide +kernel), gTbl_in (i := 414) (by decide +kernel) (by decide +kernel), rfl⟩
theorem lDV_94 : Cond.methodLink "DamageView" 94 mCN_errorIn.1 ∈ gTbl ∧ Cond.instanceMethod mCN_errorIn.1 ∈ gTbl ∧ Cond.selects mCN_errorIn.1.cls mCN_errorIn.1 mCN_errorIn.1 ∈ gTbl ∧ vwCl[6]? = some (mCN_errorIn.1.cls, TbCN, 5) := ⟨gTbl_in (i := 424) (by decide +kernel) (by decide +kernel), gTbl_in (i := 425) (by decide +kernel) (by decide +kernel), gTbl_in (i := 426) (by decide +kernel) (by decide +kernel), rfl⟩
theorem lDV_98 : Cond.methodLink "DamageView" 98 mDV_isInnerBox.1 ∈ gTbl ∧ Cond.instanceMethod mDV_isInnerBox.1 ∈ gTbl ∧ Cond.selects mDV_isInnerBox.1.cls mDV_isInnerBox.1 mDV_isInnerBox.1 ∈ gTbl ∧ vwCl[0]? = some (mDV_isInnerBox.1.cls, TbDV, 7) := ⟨gTbl_in (i := 436) (by decide +kernel) (by decide +kernel), gTbl_in (i := 438) (by decide +kernel) (by decide +kernel), gTbl_in (i := 8) (by decide +kernel) (by decide +kernel), rfl⟩
theorem lDV_105 : Cond.methodLink "DamageView" 105 mDV_isLastOfItsParent.1 ∈ gTbl ∧ Cond.instanceMethod mDV_isLastOfItsParent.1 ∈ gTbl ∧ Cond.selects mDV_isLastOfItsParent.1.cls mDV_isLastOfItsParent.1 mDV_isLastOfItsParent.1 ∈ gTbl ∧ vwCl[0]? = some (mDV_isLastOfItsParent.1.cls, TbDV, 7) := ⟨gTbl_in (i := 444) (by decide +kernel) (by decide +kernel), gTbl_in (i := 446) (by decide +kernel) (by decide +kernel), gTbl_in (i := 9) (by decide +kernel) (by decide +kernel), rfl⟩
theorem lDV_109 : Cond.methodLink "DamageView" 109 mDV_bringToFront.1 ∈ gTbl ∧ Cond.instanceMethod mDV_bringToFront.1 ∈ gTbl ∧ Cond.selects mDV_bringToFront.1.cls mDV_bringToFront.1 mDV_bringToFront.1 ∈ gTbl ∧ vwCl[0]? = some (mDV_bringToFront.1.cls, TbDV, 7) := ⟨gTbl_in (i := 448) (by decide +kernel) (by decide +kernel), gTbl_in (i := 450) (by decide +kernel) (by decide +kernel), gTbl_in (i := 10) (by decide +kernel) (by decide +kernel), rfl⟩
theorem lDV_117 : Cond.methodLink "DamageView" 117 mSC_damageArea.1 ∈ gTbl ∧ Cond.instanceMethod mSC_damageArea.1 ∈ gTbl ∧ Cond.selects mSC_damageArea.1.cls mSC_damageArea.1 mSC_damageArea.1 ∈ gTbl ∧ vwCl[1]? = some (mSC_damageArea.1.cls, TbSC, 2) := ⟨gTbl_in (i := 238) (by decide +kernel) (by decide +kernel), gTbl_in (i := 239) (by decide +kernel) (by decide +kernel), gTbl_in (i := 240) (by decide +kernel) (by decide +kernel), rfl⟩
theorem lDV_121 : Cond.methodLink "DamageView" 121 mDV_frontBox.1 ∈ gTbl ∧ Cond.instanceMethod mDV_frontBox.1 ∈ gTbl ∧ Cond.selects mDV_frontBox.1.cls mDV_frontBox.1 mDV_frontBox.1 ∈ gTbl ∧ vwCl[0]? = some (mDV_frontBox.1.cls, TbDV, 7) := ⟨gTbl_in (i := 456) (by decide +kernel) (by decide +kernel), gTbl_in (i := 458) (by decide +kernel) (by decide +kernel), gTbl_in (i := 11) (by decide +kernel) (by decide +kernel), rfl⟩
theorem lDV_125 : Cond.methodLink "DamageView" 125 mDV_numberOf.1 ∈ gTbl ∧ Cond.static mDV_numberOf.1 ∈ gTbl := ⟨gTbl_in (i := 465) (by decide +kernel) (by decide +kernel), gTbl_in (i := 466) (by decide +kernel) (by decide +kernel)⟩
theorem lDV_133 : Cond.methodLink "DamageView" 133 mBX_canHaveAttention.1 ∈ gTbl ∧ Cond.instanceMethod mBX_canHaveAttention.1 ∈ gTbl ∧ Cond.selects mBX_canHaveAttention.1.cls mBX_canHaveAttention.1 mBX_canHaveAttention.1 ∈ gTbl ∧ vwCl[4]? = some (mBX_canHaveAttention.1.cls, TbBX, 9) := ⟨gTbl_in (i := 221) (by decide +kernel) (by decide +kernel), gTbl_in (i := 222) (by decide +kernel) (by decide +kernel), gTbl_in (i := 223) (by decide +kernel) (by decide +kernel), rfl⟩
theorem lDV_140 : Cond.methodLink "DamageView" 140 mDV_activate.1 ∈ gTbl ∧ Cond.static mDV_activate.1 ∈ gTbl := ⟨gTbl_in (i := 476) (by decide +kernel) (by decide +kernel), gTbl_in (i := 477) (by decide +kernel) (by decide +kernel)⟩
theorem lDV_146 : Cond.methodLink "DamageView" 146 mJM_floorMod.1 ∈ gTbl ∧ Cond.static mJM_floorMod.1 ∈ gTbl := ⟨gTbl_in (i := 483) (by decide +kernel) (by decide +kernel), gTbl_in (i := 484) (by decide +kernel) (by decide +kernel)⟩
theorem lDV_155 : Cond.methodLink "DamageView" 155 mSC_damagedPoints.1 ∈ gTbl ∧ Cond.instanceMethod mSC_damagedPoints.1 ∈ gTbl ∧ Cond.selects mSC_damagedPoints.1.cls mSC_damagedPoints.1 mSC_damagedPoints.1 ∈ gTbl ∧ vwCl[1]? = some (mSC_damagedPoints.1.cls, TbSC, 2) := ⟨gTbl_in (i := 502) (by decide +kernel) (by decide +kernel), gTbl_in (i := 503) (by decide +kernel) (by decide +kernel), gTbl_in (i := 504) (by decide +kernel) (by decide +kernel), rfl⟩
theorem lDV_158 : Cond.methodLink "DamageView" 158 mSC_isDamaged.1 ∈ gTbl ∧ Cond.instanceMethod mSC_isDamaged.1 ∈ gTbl ∧ Cond.selects mSC_isDamaged.1.cls mSC_isDamaged.1 mSC_isDamaged.1 ∈ gTbl ∧ vwCl[1]? = some (mSC_isDamaged.1.cls, TbSC, 2) := ⟨gTbl_in (i := 510) (by decide +kernel) (by decide +kernel), gTbl_in (i := 511) (by decide +kernel) (by decide +kernel), gTbl_in (i := 512) (by decide +kernel) (by decide +kernel), rfl⟩
theorem lDV_161 : Cond.methodLink "DamageView" 161 mDV_pictureAt.1 ∈ gTbl ∧ Cond.instanceMethod mDV_pictureAt.1 ∈ gTbl ∧ Cond.selects mDV_pictureAt.1.cls mDV_pictureAt.1 mDV_pictureAt.1 ∈ gTbl ∧ vwCl[0]? = some (mDV_pictureAt.1.cls, TbDV, 7) := ⟨gTbl_in (i := 514) (by decide +kernel) (by decide +kernel), gTbl_in (i := 516) (by decide +kernel) (by decide +kernel), gTbl_in (i := 13) (by decide +kernel) (by decide +kernel), rfl⟩
theorem lDV_164 : Cond.methodLink "DamageView" 164 mSC_repair.1 ∈ gTbl ∧ Cond.instanceMethod mSC_repair.1 ∈ gTbl ∧ Cond.selects mSC_repair.1.cls mSC_repair.1 mSC_repair.1 ∈ gTbl ∧ vwCl[1]? = some (mSC_repair.1.cls, TbSC, 2) := ⟨gTbl_in (i := 518) (by decide +kernel) (by decide +kernel), gTbl_in (i := 519) (by decide +kernel) (by decide +kernel), gTbl_in (i := 520) (by decide +kernel) (by decide +kernel), rfl⟩
theorem lDV_168 : Cond.methodLink "DamageView" 168 mSC_frameAt.1 ∈ gTbl ∧ Cond.instanceMethod mSC_frameAt.1 ∈ gTbl ∧ Cond.selects mSC_frameAt.1.cls mSC_frameAt.1 mSC_frameAt.1 ∈ gTbl ∧ vwCl[1]? = some (mSC_frameAt.1.cls, TbSC, 2) := ⟨gTbl_in (i := 526) (by decide +kernel) (by decide +kernel), gTbl_in (i := 527) (by decide +kernel) (by decide +kernel), gTbl_in (i := 528) (by decide +kernel) (by decide +kernel), rfl⟩
theorem lDV_171 : Cond.methodLink "DamageView" 171 mBX_init.1 ∈ gTbl ∧ Cond.instanceMethod mBX_init.1 ∈ gTbl := ⟨gTbl_in (i := 128) (by decide +kernel) (by decide +kernel), gTbl_in (i := 129) (by decide +kernel) (by decide +kernel)⟩
theorem lDV_180 : Cond.methodLink "DamageView" 180 mDV_frontChild.1 ∈ gTbl ∧ Cond.instanceMethod mDV_frontChild.1 ∈ gTbl ∧ Cond.selects mDV_frontChild.1.cls mDV_frontChild.1 mDV_frontChild.1 ∈ gTbl ∧ vwCl[0]? = some (mDV_frontChild.1.cls, TbDV, 7) := ⟨gTbl_in (i := 460) (by decide +kernel) (by decide +kernel), gTbl_in (i := 462) (by decide +kernel) (by decide +kernel), gTbl_in (i := 12) (by decide +kernel) (by decide +kernel), rfl⟩
theorem lDV_184 : Cond.methodLink "DamageView" 184 mAR_has.1 ∈ gTbl ∧ Cond.instanceMethod mAR_has.1 ∈ gTbl ∧ Cond.selects mAR_has.1.cls mAR_has.1 mAR_has.1 ∈ gTbl ∧ vwCl[5]? = some (mAR_has.1.cls, TbAR, 4) := ⟨gTbl_in (i := 464) (by decide +kernel) (by decide +kernel), gTbl_in (i := 243) (by decide +kernel) (by decide +kernel), gTbl_in (i := 244) (by decide +kernel) (by decide +kernel), rfl⟩
theorem lDV_198 : Cond.methodLink "DamageView" 198 mBX_findArea.1 ∈ gTbl ∧ Cond.instanceMethod mBX_findArea.1 ∈ gTbl ∧ Cond.selects mBX_findArea.1.cls mBX_findArea.1 mBX_findArea.1 ∈ gTbl ∧ vwCl[4]? = some (mBX_findArea.1.cls, TbBX, 9) := ⟨gTbl_in (i := 190) (by decide +kernel) (by decide +kernel), gTbl_in (i := 191) (by decide +kernel) (by decide +kernel), gTbl_in (i := 192) (by decide +kernel) (by decide +kernel), rfl⟩
theorem lDV_202 : Cond.methodLink "DamageView" 202 mDV_showBox.1 ∈ gTbl ∧ Cond.instanceMethod mDV_showBox.1 ∈ gTbl ∧ Cond.selects mDV_showBox.1.cls mDV_showBox.1 mDV_showBox.1 ∈ gTbl ∧ vwCl[0]? = some (mDV_showBox.1.cls, TbDV, 7) := ⟨gTbl_in (i := 226) (by decide +kernel) (by decide +kernel), gTbl_in (i := 228) (by decide +kernel) (by decide +kernel), gTbl_in (i := 2) (by decide +kernel) (by decide +kernel), rfl⟩
theorem lDV_205 : Cond.methodLink "DamageView" 205 mDV_colourOf.1 ∈ gTbl ∧ Cond.instanceMethod mDV_colourOf.1 ∈ gTbl ∧ Cond.selects mDV_colourOf.1.cls mDV_colourOf.1 mDV_colourOf.1 ∈ gTbl ∧ vwCl[0]? = some (mDV_colourOf.1.cls, TbDV, 7) := ⟨gTbl_in (i := 230) (by decide +kernel) (by decide +kernel), gTbl_in (i := 232) (by decide +kernel) (by decide +kernel), gTbl_in (i := 3) (by decide +kernel) (by decide +kernel), rfl⟩
theorem lDV_211 : Cond.methodLink "DamageView" 211 mAR_isSameAs.1 ∈ gTbl ∧ Cond.instanceMethod mAR_isSameAs.1 ∈ gTbl ∧ Cond.selects mAR_isSameAs.1.cls mAR_isSameAs.1 mAR_isSameAs.1 ∈ gTbl ∧ vwCl[5]? = some (mAR_isSameAs.1.cls, TbAR, 4) := ⟨gTbl_in (i := 234) (by decide +kernel) (by decide +kernel), gTbl_in (i := 235) (by decide +kernel) (by decide +kernel), gTbl_in (i := 236) (by decide +kernel) (by decide +kernel), rfl⟩
theorem oMO_1 : Cond.methodLink "DamageViewModel" 1 objectInit ∈ gTbl ∧ Cond.instanceMethod objectInit ∈ gTbl ∧ Cond.code objectInit ⟨#[0xb1]⟩ 1 none ∈ gTbl := ⟨gTbl_in (i := 538) (by decide +kernel) (by decide +kernel), gTbl_in (i := 53) (by decide +kernel) (by decide +kernel), gTbl_in (i := 54) (by decide +kernel) (by decide +kernel)⟩
theorem lMO_93 : Cond.methodLink "DamageViewModel" 93 mMO_look.1 ∈ gTbl ∧ Cond.instanceMethod mMO_look.1 ∈ gTbl ∧ Cond.selects mMO_look.1.cls mMO_look.1 mMO_look.1 ∈ gTbl ∧ vwCl[7]? = some (mMO_look.1.cls, TbMO, 29) := ⟨gTbl_in (i := 539) (by decide +kernel) (by decide +kernel), gTbl_in (i := 541) (by decide +kernel) (by decide +kernel), gTbl_in (i := 14) (by decide +kernel) (by decide +kernel), rfl⟩
theorem lMO_96 : Cond.methodLink "DamageViewModel" 96 mMO_covers.1 ∈ gTbl ∧ Cond.instanceMethod mMO_covers.1 ∈ gTbl ∧ Cond.selects mMO_covers.1.cls mMO_covers.1 mMO_covers.1 ∈ gTbl ∧ vwCl[7]? = some (mMO_covers.1.cls, TbMO, 29) := ⟨gTbl_in (i := 555) (by decide +kernel) (by decide +kernel), gTbl_in (i := 557) (by decide +kernel) (by decide +kernel), gTbl_in (i := 18) (by decide +kernel) (by decide +kernel), rfl⟩
theorem lMO_100 : Cond.methodLink "DamageViewModel" 100 mMO_inArea.1 ∈ gTbl ∧ Cond.instanceMethod mMO_inArea.1 ∈ gTbl ∧ Cond.selects mMO_inArea.1.cls mMO_inArea.1 mMO_inArea.1 ∈ gTbl ∧ vwCl[7]? = some (mMO_inArea.1.cls, TbMO, 29) := ⟨gTbl_in (i := 551) (by decide +kernel) (by decide +kernel), gTbl_in (i := 553) (by decide +kernel) (by decide +kernel), gTbl_in (i := 17) (by decide +kernel) (by decide +kernel), rfl⟩
theorem lMO_103 : Cond.methodLink "DamageViewModel" 103 mMO_someArea.1 ∈ gTbl ∧ Cond.instanceMethod mMO_someArea.1 ∈ gTbl ∧ Cond.selects mMO_someArea.1.cls mMO_someArea.1 mMO_someArea.1 ∈ gTbl ∧ vwCl[7]? = some (mMO_someArea.1.cls, TbMO, 29) := ⟨gTbl_in (i := 547) (by decide +kernel) (by decide +kernel), gTbl_in (i := 549) (by decide +kernel) (by decide +kernel), gTbl_in (i := 16) (by decide +kernel) (by decide +kernel), rfl⟩
theorem lMO_107 : Cond.methodLink "DamageViewModel" 107 mMO_can.1 ∈ gTbl ∧ Cond.instanceMethod mMO_can.1 ∈ gTbl ∧ Cond.selects mMO_can.1.cls mMO_can.1 mMO_can.1 ∈ gTbl ∧ vwCl[7]? = some (mMO_can.1.cls, TbMO, 29) := ⟨gTbl_in (i := 543) (by decide +kernel) (by decide +kernel), gTbl_in (i := 545) (by decide +kernel) (by decide +kernel), gTbl_in (i := 15) (by decide +kernel) (by decide +kernel), rfl⟩
theorem lMO_110 : Cond.methodLink "DamageViewModel" 110 mMO_colour.1 ∈ gTbl ∧ Cond.instanceMethod mMO_colour.1 ∈ gTbl ∧ Cond.selects mMO_colour.1.cls mMO_colour.1 mMO_colour.1 ∈ gTbl ∧ vwCl[7]? = some (mMO_colour.1.cls, TbMO, 29) := ⟨gTbl_in (i := 559) (by decide +kernel) (by decide +kernel), gTbl_in (i := 561) (by decide +kernel) (by decide +kernel), gTbl_in (i := 19) (by decide +kernel) (by decide +kernel), rfl⟩
theorem lMO_117 : Cond.methodLink "DamageViewModel" 117 mMO_row.1 ∈ gTbl ∧ Cond.instanceMethod mMO_row.1 ∈ gTbl ∧ Cond.selects mMO_row.1.cls mMO_row.1 mMO_row.1 ∈ gTbl ∧ vwCl[7]? = some (mMO_row.1.cls, TbMO, 29) := ⟨gTbl_in (i := 686) (by decide +kernel) (by decide +kernel), gTbl_in (i := 688) (by decide +kernel) (by decide +kernel), gTbl_in (i := 26) (by decide +kernel) (by decide +kernel), rfl⟩
theorem lMO_121 : Cond.methodLink "DamageViewModel" 121 mMO_atLeast.1 ∈ gTbl ∧ Cond.instanceMethod mMO_atLeast.1 ∈ gTbl ∧ Cond.selects mMO_atLeast.1.cls mMO_atLeast.1 mMO_atLeast.1 ∈ gTbl ∧ vwCl[7]? = some (mMO_atLeast.1.cls, TbMO, 29) := ⟨gTbl_in (i := 682) (by decide +kernel) (by decide +kernel), gTbl_in (i := 684) (by decide +kernel) (by decide +kernel), gTbl_in (i := 25) (by decide +kernel) (by decide +kernel), rfl⟩
theorem lMO_125 : Cond.methodLink "DamageViewModel" 125 mMO_lower.1 ∈ gTbl ∧ Cond.instanceMethod mMO_lower.1 ∈ gTbl ∧ Cond.selects mMO_lower.1.cls mMO_lower.1 mMO_lower.1 ∈ gTbl ∧ vwCl[7]? = some (mMO_lower.1.cls, TbMO, 29) := ⟨gTbl_in (i := 694) (by decide +kernel) (by decide +kernel), gTbl_in (i := 696) (by decide +kernel) (by decide +kernel), gTbl_in (i := 28) (by decide +kernel) (by decide +kernel), rfl⟩
theorem lMO_129 : Cond.methodLink "DamageViewModel" 129 mMO_most.1 ∈ gTbl ∧ Cond.instanceMethod mMO_most.1 ∈ gTbl ∧ Cond.selects mMO_most.1.cls mMO_most.1 mMO_most.1 ∈ gTbl ∧ vwCl[7]? = some (mMO_most.1.cls, TbMO, 29) := ⟨gTbl_in (i := 703) (by decide +kernel) (by decide +kernel), gTbl_in (i := 705) (by decide +kernel) (by decide +kernel), gTbl_in (i := 30) (by decide +kernel) (by decide +kernel), rfl⟩
theorem lMO_133 : Cond.methodLink "DamageViewModel" 133 mMO_exactly.1 ∈ gTbl ∧ Cond.instanceMethod mMO_exactly.1 ∈ gTbl ∧ Cond.selects mMO_exactly.1.cls mMO_exactly.1 mMO_exactly.1 ∈ gTbl ∧ vwCl[7]? = some (mMO_exactly.1.cls, TbMO, 29) := ⟨gTbl_in (i := 678) (by decide +kernel) (by decide +kernel), gTbl_in (i := 680) (by decide +kernel) (by decide +kernel), gTbl_in (i := 24) (by decide +kernel) (by decide +kernel), rfl⟩
theorem lMO_136 : Cond.methodLink "DamageViewModel" 136 mMO_settle.1 ∈ gTbl ∧ Cond.instanceMethod mMO_settle.1 ∈ gTbl ∧ Cond.selects mMO_settle.1.cls mMO_settle.1 mMO_settle.1 ∈ gTbl ∧ vwCl[7]? = some (mMO_settle.1.cls, TbMO, 29) := ⟨gTbl_in (i := 699) (by decide +kernel) (by decide +kernel), gTbl_in (i := 701) (by decide +kernel) (by decide +kernel), gTbl_in (i := 29) (by decide +kernel) (by decide +kernel), rfl⟩
theorem lMO_140 : Cond.methodLink "DamageViewModel" 140 mMO_required.1 ∈ gTbl ∧ Cond.instanceMethod mMO_required.1 ∈ gTbl ∧ Cond.selects mMO_required.1.cls mMO_required.1 mMO_required.1 ∈ gTbl ∧ vwCl[7]? = some (mMO_required.1.cls, TbMO, 29) := ⟨gTbl_in (i := 674) (by decide +kernel) (by decide +kernel), gTbl_in (i := 676) (by decide +kernel) (by decide +kernel), gTbl_in (i := 23) (by decide +kernel) (by decide +kernel), rfl⟩
theorem lMO_143 : Cond.methodLink "DamageViewModel" 143 mMO_conflict.1 ∈ gTbl ∧ Cond.instanceMethod mMO_conflict.1 ∈ gTbl ∧ Cond.selects mMO_conflict.1.cls mMO_conflict.1 mMO_conflict.1 ∈ gTbl ∧ vwCl[7]? = some (mMO_conflict.1.cls, TbMO, 29) := ⟨gTbl_in (i := 690) (by decide +kernel) (by decide +kernel), gTbl_in (i := 692) (by decide +kernel) (by decide +kernel), gTbl_in (i := 27) (by decide +kernel) (by decide +kernel), rfl⟩
theorem lMO_146 : Cond.methodLink "DamageViewModel" 146 mMO_origin.1 ∈ gTbl ∧ Cond.static mMO_origin.1 ∈ gTbl := ⟨gTbl_in (i := 667) (by decide +kernel) (by decide +kernel), gTbl_in (i := 668) (by decide +kernel) (by decide +kernel)⟩
theorem lMO_149 : Cond.methodLink "DamageViewModel" 149 mMO_soft.1 ∈ gTbl ∧ Cond.instanceMethod mMO_soft.1 ∈ gTbl ∧ Cond.selects mMO_soft.1.cls mMO_soft.1 mMO_soft.1 ∈ gTbl ∧ vwCl[7]? = some (mMO_soft.1.cls, TbMO, 29) := ⟨gTbl_in (i := 707) (by decide +kernel) (by decide +kernel), gTbl_in (i := 709) (by decide +kernel) (by decide +kernel), gTbl_in (i := 31) (by decide +kernel) (by decide +kernel), rfl⟩
theorem lMO_153 : Cond.methodLink "DamageViewModel" 153 mMO_isBox.1 ∈ gTbl ∧ Cond.instanceMethod mMO_isBox.1 ∈ gTbl ∧ Cond.selects mMO_isBox.1.cls mMO_isBox.1 mMO_isBox.1 ∈ gTbl ∧ vwCl[7]? = some (mMO_isBox.1.cls, TbMO, 29) := ⟨gTbl_in (i := 655) (by decide +kernel) (by decide +kernel), gTbl_in (i := 657) (by decide +kernel) (by decide +kernel), gTbl_in (i := 20) (by decide +kernel) (by decide +kernel), rfl⟩
theorem lMO_159 : Cond.methodLink "DamageViewModel" 159 mMO_isEdge.1 ∈ gTbl ∧ Cond.instanceMethod mMO_isEdge.1 ∈ gTbl ∧ Cond.selects mMO_isEdge.1.cls mMO_isEdge.1 mMO_isEdge.1 ∈ gTbl ∧ vwCl[7]? = some (mMO_isEdge.1.cls, TbMO, 29) := ⟨gTbl_in (i := 663) (by decide +kernel) (by decide +kernel), gTbl_in (i := 665) (by decide +kernel) (by decide +kernel), gTbl_in (i := 21) (by decide +kernel) (by decide +kernel), rfl⟩
theorem lMO_162 : Cond.methodLink "DamageViewModel" 162 mMO_solve.1 ∈ gTbl ∧ Cond.instanceMethod mMO_solve.1 ∈ gTbl ∧ Cond.selects mMO_solve.1.cls mMO_solve.1 mMO_solve.1 ∈ gTbl ∧ vwCl[7]? = some (mMO_solve.1.cls, TbMO, 29) := ⟨gTbl_in (i := 670) (by decide +kernel) (by decide +kernel), gTbl_in (i := 672) (by decide +kernel) (by decide +kernel), gTbl_in (i := 22) (by decide +kernel) (by decide +kernel), rfl⟩
theorem lMO_166 : Cond.methodLink "DamageViewModel" 166 mMO_isConstraint.1 ∈ gTbl ∧ Cond.instanceMethod mMO_isConstraint.1 ∈ gTbl ∧ Cond.selects mMO_isConstraint.1.cls mMO_isConstraint.1 mMO_isConstraint.1 ∈ gTbl ∧ vwCl[7]? = some (mMO_isConstraint.1.cls, TbMO, 29) := ⟨gTbl_in (i := 715) (by decide +kernel) (by decide +kernel), gTbl_in (i := 717) (by decide +kernel) (by decide +kernel), gTbl_in (i := 32) (by decide +kernel) (by decide +kernel), rfl⟩
theorem lMO_169 : Cond.methodLink "DamageViewModel" 169 mMO_isLast.1 ∈ gTbl ∧ Cond.instanceMethod mMO_isLast.1 ∈ gTbl ∧ Cond.selects mMO_isLast.1.cls mMO_isLast.1 mMO_isLast.1 ∈ gTbl ∧ vwCl[7]? = some (mMO_isLast.1.cls, TbMO, 29) := ⟨gTbl_in (i := 743) (by decide +kernel) (by decide +kernel), gTbl_in (i := 745) (by decide +kernel) (by decide +kernel), gTbl_in (i := 33) (by decide +kernel) (by decide +kernel), rfl⟩
theorem lMO_172 : Cond.methodLink "DamageViewModel" 172 mMO_inFront.1 ∈ gTbl ∧ Cond.instanceMethod mMO_inFront.1 ∈ gTbl ∧ Cond.selects mMO_inFront.1.cls mMO_inFront.1 mMO_inFront.1 ∈ gTbl ∧ vwCl[7]? = some (mMO_inFront.1.cls, TbMO, 29) := ⟨gTbl_in (i := 751) (by decide +kernel) (by decide +kernel), gTbl_in (i := 753) (by decide +kernel) (by decide +kernel), gTbl_in (i := 34) (by decide +kernel) (by decide +kernel), rfl⟩
theorem lMO_175 : Cond.methodLink "DamageViewModel" 175 mMO_hit.1 ∈ gTbl ∧ Cond.instanceMethod mMO_hit.1 ∈ gTbl ∧ Cond.selects mMO_hit.1.cls mMO_hit.1 mMO_hit.1 ∈ gTbl ∧ vwCl[7]? = some (mMO_hit.1.cls, TbMO, 29) := ⟨gTbl_in (i := 759) (by decide +kernel) (by decide +kernel), gTbl_in (i := 748) (by decide +kernel) (by decide +kernel), gTbl_in (i := 749) (by decide +kernel) (by decide +kernel), rfl⟩
theorem lMO_178 : Cond.methodLink "DamageViewModel" 178 mMO_activate.1 ∈ gTbl ∧ Cond.instanceMethod mMO_activate.1 ∈ gTbl ∧ Cond.selects mMO_activate.1.cls mMO_activate.1 mMO_activate.1 ∈ gTbl ∧ vwCl[7]? = some (mMO_activate.1.cls, TbMO, 29) := ⟨gTbl_in (i := 764) (by decide +kernel) (by decide +kernel), gTbl_in (i := 766) (by decide +kernel) (by decide +kernel), gTbl_in (i := 35) (by decide +kernel) (by decide +kernel), rfl⟩
theorem lLW_9 : Cond.methodLink "DamageViewLaw" 9 mLW_cell.1 ∈ gTbl ∧ Cond.static mLW_cell.1 ∈ gTbl := ⟨gTbl_in (i := 530) (by decide +kernel) (by decide +kernel), gTbl_in (i := 531) (by decide +kernel) (by decide +kernel)⟩
theorem lLW_15 : Cond.methodLink "DamageViewLaw" 15 mDV_init.1 ∈ gTbl ∧ Cond.instanceMethod mDV_init.1 ∈ gTbl := ⟨gTbl_in (i := 49) (by decide +kernel) (by decide +kernel), gTbl_in (i := 50) (by decide +kernel) (by decide +kernel)⟩
theorem lLW_20 : Cond.methodLink "DamageViewLaw" 20 mMO_init.1 ∈ gTbl ∧ Cond.instanceMethod mMO_init.1 ∈ gTbl := ⟨gTbl_in (i := 535) (by decide +kernel) (by decide +kernel), gTbl_in (i := 536) (by decide +kernel) (by decide +kernel)⟩
theorem lLW_21 : Cond.methodLink "DamageViewLaw" 21 mDV_box.1 ∈ gTbl ∧ Cond.instanceMethod mDV_box.1 ∈ gTbl ∧ Cond.selects mDV_box.1.cls mDV_box.1 mDV_box.1 ∈ gTbl ∧ vwCl[0]? = some (mDV_box.1.cls, TbDV, 7) := ⟨gTbl_in (i := 271) (by decide +kernel) (by decide +kernel), gTbl_in (i := 272) (by decide +kernel) (by decide +kernel), gTbl_in (i := 273) (by decide +kernel) (by decide +kernel), rfl⟩
theorem lLW_25 : Cond.methodLink "DamageViewLaw" 25 mMO_box.1 ∈ gTbl ∧ Cond.instanceMethod mMO_box.1 ∈ gTbl ∧ Cond.selects mMO_box.1.cls mMO_box.1 mMO_box.1 ∈ gTbl ∧ vwCl[7]? = some (mMO_box.1.cls, TbMO, 29) := ⟨gTbl_in (i := 651) (by decide +kernel) (by decide +kernel), gTbl_in (i := 652) (by decide +kernel) (by decide +kernel), gTbl_in (i := 653) (by decide +kernel) (by decide +kernel), rfl⟩
theorem lLW_26 : Cond.methodLink "DamageViewLaw" 26 mDV_constrain.1 ∈ gTbl ∧ Cond.instanceMethod mDV_constrain.1 ∈ gTbl ∧ Cond.selects mDV_constrain.1.cls mDV_constrain.1 mDV_constrain.1 ∈ gTbl ∧ vwCl[0]? = some (mDV_constrain.1.cls, TbDV, 7) := ⟨gTbl_in (i := 279) (by decide +kernel) (by decide +kernel), gTbl_in (i := 280) (by decide +kernel) (by decide +kernel), gTbl_in (i := 281) (by decide +kernel) (by decide +kernel), rfl⟩
theorem lLW_30 : Cond.methodLink "DamageViewLaw" 30 mMO_constrain.1 ∈ gTbl ∧ Cond.instanceMethod mMO_constrain.1 ∈ gTbl ∧ Cond.selects mMO_constrain.1.cls mMO_constrain.1 mMO_constrain.1 ∈ gTbl ∧ vwCl[7]? = some (mMO_constrain.1.cls, TbMO, 29) := ⟨gTbl_in (i := 659) (by decide +kernel) (by decide +kernel), gTbl_in (i := 660) (by decide +kernel) (by decide +kernel), gTbl_in (i := 661) (by decide +kernel) (by decide +kernel), rfl⟩
theorem lLW_31 : Cond.methodLink "DamageViewLaw" 31 mDV_remove.1 ∈ gTbl ∧ Cond.instanceMethod mDV_remove.1 ∈ gTbl ∧ Cond.selects mDV_remove.1.cls mDV_remove.1 mDV_remove.1 ∈ gTbl ∧ vwCl[0]? = some (mDV_remove.1.cls, TbDV, 7) := ⟨gTbl_in (i := 387) (by decide +kernel) (by decide +kernel), gTbl_in (i := 388) (by decide +kernel) (by decide +kernel), gTbl_in (i := 389) (by decide +kernel) (by decide +kernel), rfl⟩
theorem lLW_35 : Cond.methodLink "DamageViewLaw" 35 mMO_remove.1 ∈ gTbl ∧ Cond.instanceMethod mMO_remove.1 ∈ gTbl ∧ Cond.selects mMO_remove.1.cls mMO_remove.1 mMO_remove.1 ∈ gTbl ∧ vwCl[7]? = some (mMO_remove.1.cls, TbMO, 29) := ⟨gTbl_in (i := 711) (by decide +kernel) (by decide +kernel), gTbl_in (i := 712) (by decide +kernel) (by decide +kernel), gTbl_in (i := 713) (by decide +kernel) (by decide +kernel), rfl⟩
theorem lLW_36 : Cond.methodLink "DamageViewLaw" 36 mDV_suggest.1 ∈ gTbl ∧ Cond.instanceMethod mDV_suggest.1 ∈ gTbl ∧ Cond.selects mDV_suggest.1.cls mDV_suggest.1 mDV_suggest.1 ∈ gTbl ∧ vwCl[0]? = some (mDV_suggest.1.cls, TbDV, 7) := ⟨gTbl_in (i := 399) (by decide +kernel) (by decide +kernel), gTbl_in (i := 400) (by decide +kernel) (by decide +kernel), gTbl_in (i := 401) (by decide +kernel) (by decide +kernel), rfl⟩
theorem lLW_40 : Cond.methodLink "DamageViewLaw" 40 mMO_suggest.1 ∈ gTbl ∧ Cond.instanceMethod mMO_suggest.1 ∈ gTbl ∧ Cond.selects mMO_suggest.1.cls mMO_suggest.1 mMO_suggest.1 ∈ gTbl ∧ vwCl[7]? = some (mMO_suggest.1.cls, TbMO, 29) := ⟨gTbl_in (i := 719) (by decide +kernel) (by decide +kernel), gTbl_in (i := 720) (by decide +kernel) (by decide +kernel), gTbl_in (i := 721) (by decide +kernel) (by decide +kernel), rfl⟩
theorem lLW_41 : Cond.methodLink "DamageViewLaw" 41 mDV_resize.1 ∈ gTbl ∧ Cond.instanceMethod mDV_resize.1 ∈ gTbl ∧ Cond.selects mDV_resize.1.cls mDV_resize.1 mDV_resize.1 ∈ gTbl ∧ vwCl[0]? = some (mDV_resize.1.cls, TbDV, 7) := ⟨gTbl_in (i := 408) (by decide +kernel) (by decide +kernel), gTbl_in (i := 409) (by decide +kernel) (by decide +kernel), gTbl_in (i := 410) (by decide +kernel) (by decide +kernel), rfl⟩
theorem lLW_44 : Cond.methodLink "DamageViewLaw" 44 mMO_resize.1 ∈ gTbl ∧ Cond.instanceMethod mMO_resize.1 ∈ gTbl ∧ Cond.selects mMO_resize.1.cls mMO_resize.1 mMO_resize.1 ∈ gTbl ∧ vwCl[7]? = some (mMO_resize.1.cls, TbMO, 29) := ⟨gTbl_in (i := 723) (by decide +kernel) (by decide +kernel), gTbl_in (i := 724) (by decide +kernel) (by decide +kernel), gTbl_in (i := 725) (by decide +kernel) (by decide +kernel), rfl⟩
theorem lLW_45 : Cond.methodLink "DamageViewLaw" 45 mDV_place.1 ∈ gTbl ∧ Cond.instanceMethod mDV_place.1 ∈ gTbl ∧ Cond.selects mDV_place.1.cls mDV_place.1 mDV_place.1 ∈ gTbl ∧ vwCl[0]? = some (mDV_place.1.cls, TbDV, 7) := ⟨gTbl_in (i := 416) (by decide +kernel) (by decide +kernel), gTbl_in (i := 417) (by decide +kernel) (by decide +kernel), gTbl_in (i := 418) (by decide +kernel) (by decide +kernel), rfl⟩
theorem lLW_49 : Cond.methodLink "DamageViewLaw" 49 mMO_place.1 ∈ gTbl ∧ Cond.instanceMethod mMO_place.1 ∈ gTbl ∧ Cond.selects mMO_place.1.cls mMO_place.1 mMO_place.1 ∈ gTbl ∧ vwCl[7]? = some (mMO_place.1.cls, TbMO, 29) := ⟨gTbl_in (i := 727) (by decide +kernel) (by decide +kernel), gTbl_in (i := 728) (by decide +kernel) (by decide +kernel), gTbl_in (i := 729) (by decide +kernel) (by decide +kernel), rfl⟩
theorem lLW_50 : Cond.methodLink "DamageViewLaw" 50 mDV_error.1 ∈ gTbl ∧ Cond.instanceMethod mDV_error.1 ∈ gTbl ∧ Cond.selects mDV_error.1.cls mDV_error.1 mDV_error.1 ∈ gTbl ∧ vwCl[0]? = some (mDV_error.1.cls, TbDV, 7) := ⟨gTbl_in (i := 420) (by decide +kernel) (by decide +kernel), gTbl_in (i := 421) (by decide +kernel) (by decide +kernel), gTbl_in (i := 422) (by decide +kernel) (by decide +kernel), rfl⟩
theorem lLW_53 : Cond.methodLink "DamageViewLaw" 53 mMO_error.1 ∈ gTbl ∧ Cond.instanceMethod mMO_error.1 ∈ gTbl ∧ Cond.selects mMO_error.1.cls mMO_error.1 mMO_error.1 ∈ gTbl ∧ vwCl[7]? = some (mMO_error.1.cls, TbMO, 29) := ⟨gTbl_in (i := 731) (by decide +kernel) (by decide +kernel), gTbl_in (i := 732) (by decide +kernel) (by decide +kernel), gTbl_in (i := 733) (by decide +kernel) (by decide +kernel), rfl⟩
theorem lLW_54 : Cond.methodLink "DamageViewLaw" 54 mDV_hide.1 ∈ gTbl ∧ Cond.instanceMethod mDV_hide.1 ∈ gTbl ∧ Cond.selects mDV_hide.1.cls mDV_hide.1 mDV_hide.1 ∈ gTbl ∧ vwCl[0]? = some (mDV_hide.1.cls, TbDV, 7) := ⟨gTbl_in (i := 432) (by decide +kernel) (by decide +kernel), gTbl_in (i := 433) (by decide +kernel) (by decide +kernel), gTbl_in (i := 434) (by decide +kernel) (by decide +kernel), rfl⟩
theorem lLW_58 : Cond.methodLink "DamageViewLaw" 58 mMO_hide.1 ∈ gTbl ∧ Cond.instanceMethod mMO_hide.1 ∈ gTbl ∧ Cond.selects mMO_hide.1.cls mMO_hide.1 mMO_hide.1 ∈ gTbl ∧ vwCl[7]? = some (mMO_hide.1.cls, TbMO, 29) := ⟨gTbl_in (i := 735) (by decide +kernel) (by decide +kernel), gTbl_in (i := 736) (by decide +kernel) (by decide +kernel), gTbl_in (i := 737) (by decide +kernel) (by decide +kernel), rfl⟩
theorem lLW_59 : Cond.methodLink "DamageViewLaw" 59 mDV_raise.1 ∈ gTbl ∧ Cond.instanceMethod mDV_raise.1 ∈ gTbl ∧ Cond.selects mDV_raise.1.cls mDV_raise.1 mDV_raise.1 ∈ gTbl ∧ vwCl[0]? = some (mDV_raise.1.cls, TbDV, 7) := ⟨gTbl_in (i := 440) (by decide +kernel) (by decide +kernel), gTbl_in (i := 441) (by decide +kernel) (by decide +kernel), gTbl_in (i := 442) (by decide +kernel) (by decide +kernel), rfl⟩
theorem lLW_62 : Cond.methodLink "DamageViewLaw" 62 mMO_raise.1 ∈ gTbl ∧ Cond.instanceMethod mMO_raise.1 ∈ gTbl ∧ Cond.selects mMO_raise.1.cls mMO_raise.1 mMO_raise.1 ∈ gTbl ∧ vwCl[7]? = some (mMO_raise.1.cls, TbMO, 29) := ⟨gTbl_in (i := 739) (by decide +kernel) (by decide +kernel), gTbl_in (i := 740) (by decide +kernel) (by decide +kernel), gTbl_in (i := 741) (by decide +kernel) (by decide +kernel), rfl⟩
theorem lLW_63 : Cond.methodLink "DamageViewLaw" 63 mDV_hit.1 ∈ gTbl ∧ Cond.instanceMethod mDV_hit.1 ∈ gTbl ∧ Cond.selects mDV_hit.1.cls mDV_hit.1 mDV_hit.1 ∈ gTbl ∧ vwCl[0]? = some (mDV_hit.1.cls, TbDV, 7) := ⟨gTbl_in (i := 452) (by decide +kernel) (by decide +kernel), gTbl_in (i := 453) (by decide +kernel) (by decide +kernel), gTbl_in (i := 454) (by decide +kernel) (by decide +kernel), rfl⟩
theorem lLW_66 : Cond.methodLink "DamageViewLaw" 66 mMO_hit.1 ∈ gTbl ∧ Cond.instanceMethod mMO_hit.1 ∈ gTbl ∧ Cond.selects mMO_hit.1.cls mMO_hit.1 mMO_hit.1 ∈ gTbl ∧ vwCl[7]? = some (mMO_hit.1.cls, TbMO, 29) := ⟨gTbl_in (i := 747) (by decide +kernel) (by decide +kernel), gTbl_in (i := 748) (by decide +kernel) (by decide +kernel), gTbl_in (i := 749) (by decide +kernel) (by decide +kernel), rfl⟩
theorem lLW_67 : Cond.methodLink "DamageViewLaw" 67 mDV_press.1 ∈ gTbl ∧ Cond.instanceMethod mDV_press.1 ∈ gTbl ∧ Cond.selects mDV_press.1.cls mDV_press.1 mDV_press.1 ∈ gTbl ∧ vwCl[0]? = some (mDV_press.1.cls, TbDV, 7) := ⟨gTbl_in (i := 468) (by decide +kernel) (by decide +kernel), gTbl_in (i := 469) (by decide +kernel) (by decide +kernel), gTbl_in (i := 470) (by decide +kernel) (by decide +kernel), rfl⟩
theorem lLW_70 : Cond.methodLink "DamageViewLaw" 70 mMO_press.1 ∈ gTbl ∧ Cond.instanceMethod mMO_press.1 ∈ gTbl ∧ Cond.selects mMO_press.1.cls mMO_press.1 mMO_press.1 ∈ gTbl ∧ vwCl[7]? = some (mMO_press.1.cls, TbMO, 29) := ⟨gTbl_in (i := 755) (by decide +kernel) (by decide +kernel), gTbl_in (i := 756) (by decide +kernel) (by decide +kernel), gTbl_in (i := 757) (by decide +kernel) (by decide +kernel), rfl⟩
theorem lLW_71 : Cond.methodLink "DamageViewLaw" 71 mDV_release.1 ∈ gTbl ∧ Cond.instanceMethod mDV_release.1 ∈ gTbl ∧ Cond.selects mDV_release.1.cls mDV_release.1 mDV_release.1 ∈ gTbl ∧ vwCl[0]? = some (mDV_release.1.cls, TbDV, 7) := ⟨gTbl_in (i := 472) (by decide +kernel) (by decide +kernel), gTbl_in (i := 473) (by decide +kernel) (by decide +kernel), gTbl_in (i := 474) (by decide +kernel) (by decide +kernel), rfl⟩
theorem lLW_74 : Cond.methodLink "DamageViewLaw" 74 mMO_release.1 ∈ gTbl ∧ Cond.instanceMethod mMO_release.1 ∈ gTbl ∧ Cond.selects mMO_release.1.cls mMO_release.1 mMO_release.1 ∈ gTbl ∧ vwCl[7]? = some (mMO_release.1.cls, TbMO, 29) := ⟨gTbl_in (i := 760) (by decide +kernel) (by decide +kernel), gTbl_in (i := 761) (by decide +kernel) (by decide +kernel), gTbl_in (i := 762) (by decide +kernel) (by decide +kernel), rfl⟩
theorem lLW_75 : Cond.methodLink "DamageViewLaw" 75 mDV_step.1 ∈ gTbl ∧ Cond.instanceMethod mDV_step.1 ∈ gTbl ∧ Cond.selects mDV_step.1.cls mDV_step.1 mDV_step.1 ∈ gTbl ∧ vwCl[0]? = some (mDV_step.1.cls, TbDV, 7) := ⟨gTbl_in (i := 479) (by decide +kernel) (by decide +kernel), gTbl_in (i := 480) (by decide +kernel) (by decide +kernel), gTbl_in (i := 481) (by decide +kernel) (by decide +kernel), rfl⟩
theorem lLW_79 : Cond.methodLink "DamageViewLaw" 79 mMO_step.1 ∈ gTbl ∧ Cond.instanceMethod mMO_step.1 ∈ gTbl ∧ Cond.selects mMO_step.1.cls mMO_step.1 mMO_step.1 ∈ gTbl ∧ vwCl[7]? = some (mMO_step.1.cls, TbMO, 29) := ⟨gTbl_in (i := 768) (by decide +kernel) (by decide +kernel), gTbl_in (i := 769) (by decide +kernel) (by decide +kernel), gTbl_in (i := 770) (by decide +kernel) (by decide +kernel), rfl⟩
theorem lLW_80 : Cond.methodLink "DamageViewLaw" 80 mDV_key.1 ∈ gTbl ∧ Cond.instanceMethod mDV_key.1 ∈ gTbl ∧ Cond.selects mDV_key.1.cls mDV_key.1 mDV_key.1 ∈ gTbl ∧ vwCl[0]? = some (mDV_key.1.cls, TbDV, 7) := ⟨gTbl_in (i := 486) (by decide +kernel) (by decide +kernel), gTbl_in (i := 487) (by decide +kernel) (by decide +kernel), gTbl_in (i := 488) (by decide +kernel) (by decide +kernel), rfl⟩
theorem lLW_84 : Cond.methodLink "DamageViewLaw" 84 mMO_key.1 ∈ gTbl ∧ Cond.instanceMethod mMO_key.1 ∈ gTbl ∧ Cond.selects mMO_key.1.cls mMO_key.1 mMO_key.1 ∈ gTbl ∧ vwCl[7]? = some (mMO_key.1.cls, TbMO, 29) := ⟨gTbl_in (i := 772) (by decide +kernel) (by decide +kernel), gTbl_in (i := 773) (by decide +kernel) (by decide +kernel), gTbl_in (i := 774) (by decide +kernel) (by decide +kernel), rfl⟩
theorem lLW_85 : Cond.methodLink "DamageViewLaw" 85 mDV_attention.1 ∈ gTbl ∧ Cond.instanceMethod mDV_attention.1 ∈ gTbl ∧ Cond.selects mDV_attention.1.cls mDV_attention.1 mDV_attention.1 ∈ gTbl ∧ vwCl[0]? = some (mDV_attention.1.cls, TbDV, 7) := ⟨gTbl_in (i := 490) (by decide +kernel) (by decide +kernel), gTbl_in (i := 491) (by decide +kernel) (by decide +kernel), gTbl_in (i := 492) (by decide +kernel) (by decide +kernel), rfl⟩
theorem lLW_88 : Cond.methodLink "DamageViewLaw" 88 mMO_attention.1 ∈ gTbl ∧ Cond.instanceMethod mMO_attention.1 ∈ gTbl ∧ Cond.selects mMO_attention.1.cls mMO_attention.1 mMO_attention.1 ∈ gTbl ∧ vwCl[7]? = some (mMO_attention.1.cls, TbMO, 29) := ⟨gTbl_in (i := 776) (by decide +kernel) (by decide +kernel), gTbl_in (i := 777) (by decide +kernel) (by decide +kernel), gTbl_in (i := 778) (by decide +kernel) (by decide +kernel), rfl⟩
theorem lLW_89 : Cond.methodLink "DamageViewLaw" 89 mDV_count.1 ∈ gTbl ∧ Cond.instanceMethod mDV_count.1 ∈ gTbl ∧ Cond.selects mDV_count.1.cls mDV_count.1 mDV_count.1 ∈ gTbl ∧ vwCl[0]? = some (mDV_count.1.cls, TbDV, 7) := ⟨gTbl_in (i := 494) (by decide +kernel) (by decide +kernel), gTbl_in (i := 495) (by decide +kernel) (by decide +kernel), gTbl_in (i := 496) (by decide +kernel) (by decide +kernel), rfl⟩
theorem lLW_92 : Cond.methodLink "DamageViewLaw" 92 mMO_count.1 ∈ gTbl ∧ Cond.instanceMethod mMO_count.1 ∈ gTbl ∧ Cond.selects mMO_count.1.cls mMO_count.1 mMO_count.1 ∈ gTbl ∧ vwCl[7]? = some (mMO_count.1.cls, TbMO, 29) := ⟨gTbl_in (i := 780) (by decide +kernel) (by decide +kernel), gTbl_in (i := 781) (by decide +kernel) (by decide +kernel), gTbl_in (i := 782) (by decide +kernel) (by decide +kernel), rfl⟩
theorem lLW_93 : Cond.methodLink "DamageViewLaw" 93 mDV_damage.1 ∈ gTbl ∧ Cond.instanceMethod mDV_damage.1 ∈ gTbl ∧ Cond.selects mDV_damage.1.cls mDV_damage.1 mDV_damage.1 ∈ gTbl ∧ vwCl[0]? = some (mDV_damage.1.cls, TbDV, 7) := ⟨gTbl_in (i := 498) (by decide +kernel) (by decide +kernel), gTbl_in (i := 499) (by decide +kernel) (by decide +kernel), gTbl_in (i := 500) (by decide +kernel) (by decide +kernel), rfl⟩
theorem lLW_96 : Cond.methodLink "DamageViewLaw" 96 mMO_damage.1 ∈ gTbl ∧ Cond.instanceMethod mMO_damage.1 ∈ gTbl ∧ Cond.selects mMO_damage.1.cls mMO_damage.1 mMO_damage.1 ∈ gTbl ∧ vwCl[7]? = some (mMO_damage.1.cls, TbMO, 29) := ⟨gTbl_in (i := 784) (by decide +kernel) (by decide +kernel), gTbl_in (i := 785) (by decide +kernel) (by decide +kernel), gTbl_in (i := 786) (by decide +kernel) (by decide +kernel), rfl⟩
theorem lLW_97 : Cond.methodLink "DamageViewLaw" 97 mDV_paint.1 ∈ gTbl ∧ Cond.instanceMethod mDV_paint.1 ∈ gTbl ∧ Cond.selects mDV_paint.1.cls mDV_paint.1 mDV_paint.1 ∈ gTbl ∧ vwCl[0]? = some (mDV_paint.1.cls, TbDV, 7) := ⟨gTbl_in (i := 506) (by decide +kernel) (by decide +kernel), gTbl_in (i := 507) (by decide +kernel) (by decide +kernel), gTbl_in (i := 508) (by decide +kernel) (by decide +kernel), rfl⟩
theorem lLW_100 : Cond.methodLink "DamageViewLaw" 100 mMO_paint.1 ∈ gTbl ∧ Cond.instanceMethod mMO_paint.1 ∈ gTbl ∧ Cond.selects mMO_paint.1.cls mMO_paint.1 mMO_paint.1 ∈ gTbl ∧ vwCl[7]? = some (mMO_paint.1.cls, TbMO, 29) := ⟨gTbl_in (i := 788) (by decide +kernel) (by decide +kernel), gTbl_in (i := 789) (by decide +kernel) (by decide +kernel), gTbl_in (i := 790) (by decide +kernel) (by decide +kernel), rfl⟩
theorem lLW_101 : Cond.methodLink "DamageViewLaw" 101 mDV_pixel.1 ∈ gTbl ∧ Cond.instanceMethod mDV_pixel.1 ∈ gTbl ∧ Cond.selects mDV_pixel.1.cls mDV_pixel.1 mDV_pixel.1 ∈ gTbl ∧ vwCl[0]? = some (mDV_pixel.1.cls, TbDV, 7) := ⟨gTbl_in (i := 522) (by decide +kernel) (by decide +kernel), gTbl_in (i := 523) (by decide +kernel) (by decide +kernel), gTbl_in (i := 524) (by decide +kernel) (by decide +kernel), rfl⟩
theorem lLW_104 : Cond.methodLink "DamageViewLaw" 104 mMO_pixel.1 ∈ gTbl ∧ Cond.instanceMethod mMO_pixel.1 ∈ gTbl ∧ Cond.selects mMO_pixel.1.cls mMO_pixel.1 mMO_pixel.1 ∈ gTbl ∧ vwCl[7]? = some (mMO_pixel.1.cls, TbMO, 29) := ⟨gTbl_in (i := 792) (by decide +kernel) (by decide +kernel), gTbl_in (i := 793) (by decide +kernel) (by decide +kernel), gTbl_in (i := 794) (by decide +kernel) (by decide +kernel), rfl⟩
theorem gAR_cutTo_AR_isEmpty : gCall mAR_cutTo mAR_isEmpty 0 := ⟨qAR_isEmpty.1, qAR_isEmpty.2, ⟨by decide, by decide, by decide +kernel⟩, by decide, by decide⟩
theorem gAR_cutTo_AR_makeEmpty : gCall mAR_cutTo mAR_makeEmpty 0 := ⟨qAR_makeEmpty.1, qAR_makeEmpty.2, ⟨by decide, by decide, by decide +kernel⟩, by decide, by decide⟩
theorem gBD_open_JF_fill : gCall mBD_open mJF_fill 2 := ⟨qJF_fill.1, qJF_fill.2, ⟨by decide, by decide, by decide +kernel⟩, by decide, by decide⟩
theorem gBD_fix_BD_keepAtMost : gCall mBD_fix mBD_keepAtMost 3 := ⟨qBD_keepAtMost.1, qBD_keepAtMost.2, ⟨by decide, by decide, by decide +kernel⟩, by decide, by decide⟩
theorem gBD_fixNear_BD_lowest : gCall mBD_fixNear mBD_lowest 2 := ⟨qBD_lowest.1, qBD_lowest.2, ⟨by decide, by decide, by decide +kernel⟩, by decide, by decide⟩
theorem gBD_fixNear_BD_highest : gCall mBD_fixNear mBD_highest 2 := ⟨qBD_highest.1, qBD_highest.2, ⟨by decide, by decide, by decide +kernel⟩, by decide, by decide⟩
theorem gBD_fixNear_DV_nearest : gCall mBD_fixNear mDV_nearest 3 := ⟨qDV_nearest.1, qDV_nearest.2, ⟨by decide, by decide, by decide +kernel⟩, by decide, by decide⟩
theorem gBD_fixNear_BD_keepAtMost : gCall mBD_fixNear mBD_keepAtMost 3 := ⟨qBD_keepAtMost.1, qBD_keepAtMost.2, ⟨by decide, by decide, by decide +kernel⟩, by decide, by decide⟩
theorem gBD_keepAtLeast_BD_keepAtMost : gCall mBD_keepAtLeast mBD_keepAtMost 3 := ⟨qBD_keepAtMost.1, qBD_keepAtMost.2, ⟨by decide, by decide, by decide +kernel⟩, by decide, by decide⟩
theorem gBX_init_AR_init : gCall mBX_init mAR_init 0 := ⟨qAR_init.1, qAR_init.2, ⟨by decide, by decide, by decide +kernel⟩, by decide, by decide⟩
theorem gBX_canHaveAttention_AR_isEmpty : gCall mBX_canHaveAttention mAR_isEmpty 0 := ⟨qAR_isEmpty.1, qAR_isEmpty.2, ⟨by decide, by decide, by decide +kernel⟩, by decide, by decide⟩
theorem gBX_findArea_AR_copyFrom : gCall mBX_findArea mAR_copyFrom 1 := ⟨qAR_copyFrom.1, qAR_copyFrom.2, ⟨by decide, by decide, by decide +kernel⟩, by decide, by decide⟩
theorem gBX_findArea_AR_makeEmpty : gCall mBX_findArea mAR_makeEmpty 0 := ⟨qAR_makeEmpty.1, qAR_makeEmpty.2, ⟨by decide, by decide, by decide +kernel⟩, by decide, by decide⟩
theorem gBX_findArea_AR_takeEdges : gCall mBX_findArea mAR_takeEdges 2 := ⟨qAR_takeEdges.1, qAR_takeEdges.2, ⟨by decide, by decide, by decide +kernel⟩, by decide, by decide⟩
theorem gBX_findArea_AR_cutTo : gCall mBX_findArea mAR_cutTo 1 := ⟨qAR_cutTo.1, qAR_cutTo.2, ⟨by decide, by decide, by decide +kernel⟩, by decide, by decide⟩
theorem gCN_demandIn_BD_fix : gCall mCN_demandIn mBD_fix 3 := ⟨qBD_fix.1, qBD_fix.2, ⟨by decide, by decide, by decide +kernel⟩, by decide, by decide⟩
theorem gCN_demandIn_BD_keepAtLeast : gCall mCN_demandIn mBD_keepAtLeast 3 := ⟨qBD_keepAtLeast.1, qBD_keepAtLeast.2, ⟨by decide, by decide, by decide +kernel⟩, by decide, by decide⟩
theorem gCN_leastErrorIn_BD_fixNear : gCall mCN_leastErrorIn mBD_fixNear 3 := ⟨qBD_fixNear.1, qBD_fixNear.2, ⟨by decide, by decide, by decide +kernel⟩, by decide, by decide⟩
theorem gCN_leastErrorIn_BD_highest : gCall mCN_leastErrorIn mBD_highest 2 := ⟨qBD_highest.1, qBD_highest.2, ⟨by decide, by decide, by decide +kernel⟩, by decide, by decide⟩
theorem gCN_leastErrorIn_BD_keepAtLeast : gCall mCN_leastErrorIn mBD_keepAtLeast 3 := ⟨qBD_keepAtLeast.1, qBD_keepAtLeast.2, ⟨by decide, by decide, by decide +kernel⟩, by decide, by decide⟩
theorem gLA_init_BD_init : gCall mLA_init mBD_init 0 := ⟨qBD_init.1, qBD_init.2, ⟨by decide, by decide, by decide +kernel⟩, by decide, by decide⟩
theorem gLA_canJoin_LA_isEdge : gCall mLA_canJoin mLA_isEdge 1 := ⟨qLA_isEdge.1, qLA_isEdge.2, ⟨by decide, by decide, by decide +kernel⟩, by decide, by decide⟩
theorem gLA_canJoin_LA_isTopOrBottom : gCall mLA_canJoin mLA_isTopOrBottom 1 := ⟨qLA_isTopOrBottom.1, qLA_isTopOrBottom.2, ⟨by decide, by decide, by decide +kernel⟩, by decide, by decide⟩
theorem gLA_add_LA_solve : gCall mLA_add mLA_solve 0 := ⟨qLA_solve.1, qLA_solve.2, ⟨by decide, by decide, by decide +kernel⟩, by decide, by decide⟩
theorem gLA_takeAway_LA_solve : gCall mLA_takeAway mLA_solve 0 := ⟨qLA_solve.1, qLA_solve.2, ⟨by decide, by decide, by decide +kernel⟩, by decide, by decide⟩
theorem gLA_setSize_LA_solve : gCall mLA_setSize mLA_solve 0 := ⟨qLA_solve.1, qLA_solve.2, ⟨by decide, by decide, by decide +kernel⟩, by decide, by decide⟩
theorem gLA_solve_LA_demandAll : gCall mLA_solve mLA_demandAll 0 := ⟨qLA_demandAll.1, qLA_demandAll.2, ⟨by decide, by decide, by decide +kernel⟩, by decide, by decide⟩
theorem gLA_solve_LA_chooseBest : gCall mLA_solve mLA_chooseBest 0 := ⟨qLA_chooseBest.1, qLA_chooseBest.2, ⟨by decide, by decide, by decide +kernel⟩, by decide, by decide⟩
theorem gLA_solveNear_LA_demandAll : gCall mLA_solveNear mLA_demandAll 0 := ⟨qLA_demandAll.1, qLA_demandAll.2, ⟨by decide, by decide, by decide +kernel⟩, by decide, by decide⟩
theorem gLA_solveNear_BD_fixNear : gCall mLA_solveNear mBD_fixNear 3 := ⟨qBD_fixNear.1, qBD_fixNear.2, ⟨by decide, by decide, by decide +kernel⟩, by decide, by decide⟩
theorem gLA_solveNear_LA_chooseBest : gCall mLA_solveNear mLA_chooseBest 0 := ⟨qLA_chooseBest.1, qLA_chooseBest.2, ⟨by decide, by decide, by decide +kernel⟩, by decide, by decide⟩
theorem gLA_demandAll_BD_open : gCall mLA_demandAll mBD_open 1 := ⟨qBD_open.1, qBD_open.2, ⟨by decide, by decide, by decide +kernel⟩, by decide, by decide⟩
theorem gLA_demandAll_BD_fix : gCall mLA_demandAll mBD_fix 3 := ⟨qBD_fix.1, qBD_fix.2, ⟨by decide, by decide, by decide +kernel⟩, by decide, by decide⟩
theorem gLA_demandAll_BD_keepAtLeast : gCall mLA_demandAll mBD_keepAtLeast 3 := ⟨qBD_keepAtLeast.1, qBD_keepAtLeast.2, ⟨by decide, by decide, by decide +kernel⟩, by decide, by decide⟩
theorem gLA_demandAll_CN_demandIn : gCall mLA_demandAll mCN_demandIn 1 := ⟨qCN_demandIn.1, qCN_demandIn.2, ⟨by decide, by decide, by decide +kernel⟩, by decide, by decide⟩
theorem gLA_chooseBest_CN_leastErrorIn : gCall mLA_chooseBest mCN_leastErrorIn 1 := ⟨qCN_leastErrorIn.1, qCN_leastErrorIn.2, ⟨by decide, by decide, by decide +kernel⟩, by decide, by decide⟩
theorem gLA_chooseBest_BD_fixNear : gCall mLA_chooseBest mBD_fixNear 3 := ⟨qBD_fixNear.1, qBD_fixNear.2, ⟨by decide, by decide, by decide +kernel⟩, by decide, by decide⟩
theorem gSC_damageArea_AR_has : gCall mSC_damageArea mAR_has 2 := ⟨qAR_has.1, qAR_has.2, ⟨by decide, by decide, by decide +kernel⟩, by decide, by decide⟩
theorem gSC_damageArea_SC_pointOf : gCall mSC_damageArea mSC_pointOf 2 := ⟨qSC_pointOf.1, qSC_pointOf.2, ⟨by decide, by decide, by decide +kernel⟩, by decide, by decide⟩
theorem gSC_isDamaged_SC_pointOf : gCall mSC_isDamaged mSC_pointOf 2 := ⟨qSC_pointOf.1, qSC_pointOf.2, ⟨by decide, by decide, by decide +kernel⟩, by decide, by decide⟩
theorem gSC_frameAt_SC_pointOf : gCall mSC_frameAt mSC_pointOf 2 := ⟨qSC_pointOf.1, qSC_pointOf.2, ⟨by decide, by decide, by decide +kernel⟩, by decide, by decide⟩
theorem gSC_repair_SC_pointOf : gCall mSC_repair mSC_pointOf 2 := ⟨qSC_pointOf.1, qSC_pointOf.2, ⟨by decide, by decide, by decide +kernel⟩, by decide, by decide⟩
theorem gDV_init_SC_init : gCall mDV_init mSC_init 0 := ⟨qSC_init.1, qSC_init.2, ⟨by decide, by decide, by decide +kernel⟩, by decide, by decide⟩
theorem gDV_init_DV_nearest : gCall mDV_init mDV_nearest 3 := ⟨qDV_nearest.1, qDV_nearest.2, ⟨by decide, by decide, by decide +kernel⟩, by decide, by decide⟩
theorem gDV_init_LA_init : gCall mDV_init mLA_init 2 := ⟨qLA_init.1, qLA_init.2, ⟨by decide, by decide, by decide +kernel⟩, by decide, by decide⟩
theorem gDV_init_DV_addBox : gCall mDV_init mDV_addBox 2 := ⟨qDV_addBox.1, qDV_addBox.2, ⟨by decide, by decide, by decide +kernel⟩, by decide, by decide⟩
theorem gDV_init_DV_showChanges : gCall mDV_init mDV_showChanges 0 := ⟨qDV_showChanges.1, qDV_showChanges.2, ⟨by decide, by decide, by decide +kernel⟩, by decide, by decide⟩
theorem gDV_box_DV_isBox : gCall mDV_box mDV_isBox 1 := ⟨qDV_isBox.1, qDV_isBox.2, ⟨by decide, by decide, by decide +kernel⟩, by decide, by decide⟩
theorem gDV_box_DV_addBox : gCall mDV_box mDV_addBox 2 := ⟨qDV_addBox.1, qDV_addBox.2, ⟨by decide, by decide, by decide +kernel⟩, by decide, by decide⟩
theorem gDV_constrain_LA_canJoin : gCall mDV_constrain mLA_canJoin 2 := ⟨qLA_canJoin.1, qLA_canJoin.2, ⟨by decide, by decide, by decide +kernel⟩, by decide, by decide⟩
theorem gDV_constrain_DV_isNear : gCall mDV_constrain mDV_isNear 1 := ⟨qDV_isNear.1, qDV_isNear.2, ⟨by decide, by decide, by decide +kernel⟩, by decide, by decide⟩
theorem gDV_constrain_LA_freeNumber : gCall mDV_constrain mLA_freeNumber 0 := ⟨qLA_freeNumber.1, qLA_freeNumber.2, ⟨by decide, by decide, by decide +kernel⟩, by decide, by decide⟩
theorem gDV_constrain_CN_init : gCall mDV_constrain mCN_init 5 := ⟨qCN_init.1, qCN_init.2, ⟨by decide, by decide, by decide +kernel⟩, by decide, by decide⟩
theorem gDV_constrain_LA_add : gCall mDV_constrain mLA_add 2 := ⟨qLA_add.1, qLA_add.2, ⟨by decide, by decide, by decide +kernel⟩, by decide, by decide⟩
theorem gDV_constrain_DV_showChanges : gCall mDV_constrain mDV_showChanges 0 := ⟨qDV_showChanges.1, qDV_showChanges.2, ⟨by decide, by decide, by decide +kernel⟩, by decide, by decide⟩
theorem gDV_remove_LA_constraintAt : gCall mDV_remove mLA_constraintAt 1 := ⟨qLA_constraintAt.1, qLA_constraintAt.2, ⟨by decide, by decide, by decide +kernel⟩, by decide, by decide⟩
theorem gDV_remove_LA_takeAway : gCall mDV_remove mLA_takeAway 1 := ⟨qLA_takeAway.1, qLA_takeAway.2, ⟨by decide, by decide, by decide +kernel⟩, by decide, by decide⟩
theorem gDV_remove_DV_showChanges : gCall mDV_remove mDV_showChanges 0 := ⟨qDV_showChanges.1, qDV_showChanges.2, ⟨by decide, by decide, by decide +kernel⟩, by decide, by decide⟩
theorem gDV_suggest_LA_isEdge : gCall mDV_suggest mLA_isEdge 1 := ⟨qLA_isEdge.1, qLA_isEdge.2, ⟨by decide, by decide, by decide +kernel⟩, by decide, by decide⟩
theorem gDV_suggest_DV_isNear : gCall mDV_suggest mDV_isNear 1 := ⟨qDV_isNear.1, qDV_isNear.2, ⟨by decide, by decide, by decide +kernel⟩, by decide, by decide⟩
theorem gDV_suggest_LA_solveNear : gCall mDV_suggest mLA_solveNear 2 := ⟨qLA_solveNear.1, qLA_solveNear.2, ⟨by decide, by decide, by decide +kernel⟩, by decide, by decide⟩
theorem gDV_suggest_DV_showChanges : gCall mDV_suggest mDV_showChanges 0 := ⟨qDV_showChanges.1, qDV_showChanges.2, ⟨by decide, by decide, by decide +kernel⟩, by decide, by decide⟩
theorem gDV_resize_LA_setSize : gCall mDV_resize mLA_setSize 2 := ⟨qLA_setSize.1, qLA_setSize.2, ⟨by decide, by decide, by decide +kernel⟩, by decide, by decide⟩
theorem gDV_resize_DV_showChanges : gCall mDV_resize mDV_showChanges 0 := ⟨qDV_showChanges.1, qDV_showChanges.2, ⟨by decide, by decide, by decide +kernel⟩, by decide, by decide⟩
theorem gDV_place_LA_isEdge : gCall mDV_place mLA_isEdge 1 := ⟨qLA_isEdge.1, qLA_isEdge.2, ⟨by decide, by decide, by decide +kernel⟩, by decide, by decide⟩
theorem gDV_error_LA_constraintAt : gCall mDV_error mLA_constraintAt 1 := ⟨qLA_constraintAt.1, qLA_constraintAt.2, ⟨by decide, by decide, by decide +kernel⟩, by decide, by decide⟩
theorem gDV_error_CN_errorIn : gCall mDV_error mCN_errorIn 1 := ⟨qCN_errorIn.1, qCN_errorIn.2, ⟨by decide, by decide, by decide +kernel⟩, by decide, by decide⟩
theorem gDV_hide_DV_isInnerBox : gCall mDV_hide mDV_isInnerBox 1 := ⟨qDV_isInnerBox.1, qDV_isInnerBox.2, ⟨by decide, by decide, by decide +kernel⟩, by decide, by decide⟩
theorem gDV_hide_DV_showChanges : gCall mDV_hide mDV_showChanges 0 := ⟨qDV_showChanges.1, qDV_showChanges.2, ⟨by decide, by decide, by decide +kernel⟩, by decide, by decide⟩
theorem gDV_raise_DV_isInnerBox : gCall mDV_raise mDV_isInnerBox 1 := ⟨qDV_isInnerBox.1, qDV_isInnerBox.2, ⟨by decide, by decide, by decide +kernel⟩, by decide, by decide⟩
theorem gDV_raise_DV_isLastOfItsParent : gCall mDV_raise mDV_isLastOfItsParent 1 := ⟨qDV_isLastOfItsParent.1, qDV_isLastOfItsParent.2, ⟨by decide, by decide, by decide +kernel⟩, by decide, by decide⟩
theorem gDV_raise_DV_bringToFront : gCall mDV_raise mDV_bringToFront 1 := ⟨qDV_bringToFront.1, qDV_bringToFront.2, ⟨by decide, by decide, by decide +kernel⟩, by decide, by decide⟩
theorem gDV_raise_SC_damageArea : gCall mDV_raise mSC_damageArea 1 := ⟨qSC_damageArea.1, qSC_damageArea.2, ⟨by decide, by decide, by decide +kernel⟩, by decide, by decide⟩
theorem gDV_hit_DV_frontBox : gCall mDV_hit mDV_frontBox 2 := ⟨qDV_frontBox.1, qDV_frontBox.2, ⟨by decide, by decide, by decide +kernel⟩, by decide, by decide⟩
theorem gDV_hit_DV_numberOf : gCall mDV_hit mDV_numberOf 1 := ⟨qDV_numberOf.1, qDV_numberOf.2, ⟨by decide, by decide, by decide +kernel⟩, by decide, by decide⟩
theorem gDV_press_DV_frontBox : gCall mDV_press mDV_frontBox 2 := ⟨qDV_frontBox.1, qDV_frontBox.2, ⟨by decide, by decide, by decide +kernel⟩, by decide, by decide⟩
theorem gDV_press_BX_canHaveAttention : gCall mDV_press mBX_canHaveAttention 0 := ⟨qBX_canHaveAttention.1, qBX_canHaveAttention.2, ⟨by decide, by decide, by decide +kernel⟩, by decide, by decide⟩
theorem gDV_press_DV_showChanges : gCall mDV_press mDV_showChanges 0 := ⟨qDV_showChanges.1, qDV_showChanges.2, ⟨by decide, by decide, by decide +kernel⟩, by decide, by decide⟩
theorem gDV_press_DV_numberOf : gCall mDV_press mDV_numberOf 1 := ⟨qDV_numberOf.1, qDV_numberOf.2, ⟨by decide, by decide, by decide +kernel⟩, by decide, by decide⟩
theorem gDV_release_DV_frontBox : gCall mDV_release mDV_frontBox 2 := ⟨qDV_frontBox.1, qDV_frontBox.2, ⟨by decide, by decide, by decide +kernel⟩, by decide, by decide⟩
theorem gDV_release_DV_activate : gCall mDV_release mDV_activate 1 := ⟨qDV_activate.1, qDV_activate.2, ⟨by decide, by decide, by decide +kernel⟩, by decide, by decide⟩
theorem gDV_release_DV_showChanges : gCall mDV_release mDV_showChanges 0 := ⟨qDV_showChanges.1, qDV_showChanges.2, ⟨by decide, by decide, by decide +kernel⟩, by decide, by decide⟩
theorem gDV_release_DV_numberOf : gCall mDV_release mDV_numberOf 1 := ⟨qDV_numberOf.1, qDV_numberOf.2, ⟨by decide, by decide, by decide +kernel⟩, by decide, by decide⟩
theorem gDV_step_JM_floorMod : gCall mDV_step mJM_floorMod 2 := ⟨qJM_floorMod.1, qJM_floorMod.2, ⟨by decide, by decide, by decide +kernel⟩, by decide, by decide⟩
theorem gDV_step_BX_canHaveAttention : gCall mDV_step mBX_canHaveAttention 0 := ⟨qBX_canHaveAttention.1, qBX_canHaveAttention.2, ⟨by decide, by decide, by decide +kernel⟩, by decide, by decide⟩
theorem gDV_step_DV_showChanges : gCall mDV_step mDV_showChanges 0 := ⟨qDV_showChanges.1, qDV_showChanges.2, ⟨by decide, by decide, by decide +kernel⟩, by decide, by decide⟩
theorem gDV_step_DV_numberOf : gCall mDV_step mDV_numberOf 1 := ⟨qDV_numberOf.1, qDV_numberOf.2, ⟨by decide, by decide, by decide +kernel⟩, by decide, by decide⟩
theorem gDV_key_DV_activate : gCall mDV_key mDV_activate 1 := ⟨qDV_activate.1, qDV_activate.2, ⟨by decide, by decide, by decide +kernel⟩, by decide, by decide⟩
theorem gDV_key_DV_showChanges : gCall mDV_key mDV_showChanges 0 := ⟨qDV_showChanges.1, qDV_showChanges.2, ⟨by decide, by decide, by decide +kernel⟩, by decide, by decide⟩
theorem gDV_key_DV_numberOf : gCall mDV_key mDV_numberOf 1 := ⟨qDV_numberOf.1, qDV_numberOf.2, ⟨by decide, by decide, by decide +kernel⟩, by decide, by decide⟩
theorem gDV_attention_DV_numberOf : gCall mDV_attention mDV_numberOf 1 := ⟨qDV_numberOf.1, qDV_numberOf.2, ⟨by decide, by decide, by decide +kernel⟩, by decide, by decide⟩
theorem gDV_count_DV_isBox : gCall mDV_count mDV_isBox 1 := ⟨qDV_isBox.1, qDV_isBox.2, ⟨by decide, by decide, by decide +kernel⟩, by decide, by decide⟩
theorem gDV_damage_SC_damagedPoints : gCall mDV_damage mSC_damagedPoints 0 := ⟨qSC_damagedPoints.1, qSC_damagedPoints.2, ⟨by decide, by decide, by decide +kernel⟩, by decide, by decide⟩
theorem gDV_paint_SC_isDamaged : gCall mDV_paint mSC_isDamaged 2 := ⟨qSC_isDamaged.1, qSC_isDamaged.2, ⟨by decide, by decide, by decide +kernel⟩, by decide, by decide⟩
theorem gDV_paint_DV_pictureAt : gCall mDV_paint mDV_pictureAt 2 := ⟨qDV_pictureAt.1, qDV_pictureAt.2, ⟨by decide, by decide, by decide +kernel⟩, by decide, by decide⟩
theorem gDV_paint_SC_repair : gCall mDV_paint mSC_repair 3 := ⟨qSC_repair.1, qSC_repair.2, ⟨by decide, by decide, by decide +kernel⟩, by decide, by decide⟩
theorem gDV_pixel_SC_frameAt : gCall mDV_pixel mSC_frameAt 2 := ⟨qSC_frameAt.1, qSC_frameAt.2, ⟨by decide, by decide, by decide +kernel⟩, by decide, by decide⟩
theorem gDV_addBox_BX_init : gCall mDV_addBox mBX_init 3 := ⟨qBX_init.1, qBX_init.2, ⟨by decide, by decide, by decide +kernel⟩, by decide, by decide⟩
theorem gDV_frontBox_DV_frontChild : gCall mDV_frontBox mDV_frontChild 3 := ⟨qDV_frontChild.1, qDV_frontChild.2, ⟨by decide, by decide, by decide +kernel⟩, by decide, by decide⟩
theorem gDV_frontChild_AR_has : gCall mDV_frontChild mAR_has 2 := ⟨qAR_has.1, qAR_has.2, ⟨by decide, by decide, by decide +kernel⟩, by decide, by decide⟩
theorem gDV_pictureAt_DV_frontBox : gCall mDV_pictureAt mDV_frontBox 2 := ⟨qDV_frontBox.1, qDV_frontBox.2, ⟨by decide, by decide, by decide +kernel⟩, by decide, by decide⟩
theorem gDV_showChanges_BX_findArea : gCall mDV_showChanges mBX_findArea 1 := ⟨qBX_findArea.1, qBX_findArea.2, ⟨by decide, by decide, by decide +kernel⟩, by decide, by decide⟩
theorem gDV_showChanges_BX_canHaveAttention : gCall mDV_showChanges mBX_canHaveAttention 0 := ⟨qBX_canHaveAttention.1, qBX_canHaveAttention.2, ⟨by decide, by decide, by decide +kernel⟩, by decide, by decide⟩
theorem gDV_showChanges_DV_showBox : gCall mDV_showChanges mDV_showBox 1 := ⟨qDV_showBox.1, qDV_showBox.2, ⟨by decide, by decide, by decide +kernel⟩, by decide, by decide⟩
theorem gDV_showBox_DV_colourOf : gCall mDV_showBox mDV_colourOf 1 := ⟨qDV_colourOf.1, qDV_colourOf.2, ⟨by decide, by decide, by decide +kernel⟩, by decide, by decide⟩
theorem gDV_showBox_AR_isSameAs : gCall mDV_showBox mAR_isSameAs 1 := ⟨qAR_isSameAs.1, qAR_isSameAs.2, ⟨by decide, by decide, by decide +kernel⟩, by decide, by decide⟩
theorem gDV_showBox_SC_damageArea : gCall mDV_showBox mSC_damageArea 1 := ⟨qSC_damageArea.1, qSC_damageArea.2, ⟨by decide, by decide, by decide +kernel⟩, by decide, by decide⟩
theorem gMO_init_MO_look : gCall mMO_init mMO_look 0 := ⟨qMO_look.1, qMO_look.2, ⟨by decide, by decide, by decide +kernel⟩, by decide, by decide⟩
theorem gMO_inArea_MO_covers : gCall mMO_inArea mMO_covers 3 := ⟨qMO_covers.1, qMO_covers.2, ⟨by decide, by decide, by decide +kernel⟩, by decide, by decide⟩
theorem gMO_someArea_MO_inArea : gCall mMO_someArea mMO_inArea 3 := ⟨qMO_inArea.1, qMO_inArea.2, ⟨by decide, by decide, by decide +kernel⟩, by decide, by decide⟩
theorem gMO_can_MO_someArea : gCall mMO_can mMO_someArea 1 := ⟨qMO_someArea.1, qMO_someArea.2, ⟨by decide, by decide, by decide +kernel⟩, by decide, by decide⟩
theorem gMO_look_MO_can : gCall mMO_look mMO_can 1 := ⟨qMO_can.1, qMO_can.2, ⟨by decide, by decide, by decide +kernel⟩, by decide, by decide⟩
theorem gMO_look_MO_colour : gCall mMO_look mMO_colour 1 := ⟨qMO_colour.1, qMO_colour.2, ⟨by decide, by decide, by decide +kernel⟩, by decide, by decide⟩
theorem gMO_look_MO_inArea : gCall mMO_look mMO_inArea 3 := ⟨qMO_inArea.1, qMO_inArea.2, ⟨by decide, by decide, by decide +kernel⟩, by decide, by decide⟩
theorem gMO_atLeast_MO_row : gCall mMO_atLeast mMO_row 3 := ⟨qMO_row.1, qMO_row.2, ⟨by decide, by decide, by decide +kernel⟩, by decide, by decide⟩
theorem gMO_exactly_MO_atLeast : gCall mMO_exactly mMO_atLeast 3 := ⟨qMO_atLeast.1, qMO_atLeast.2, ⟨by decide, by decide, by decide +kernel⟩, by decide, by decide⟩
theorem gMO_conflict_MO_lower : gCall mMO_conflict mMO_lower 0 := ⟨qMO_lower.1, qMO_lower.2, ⟨by decide, by decide, by decide +kernel⟩, by decide, by decide⟩
theorem gMO_most_MO_lower : gCall mMO_most mMO_lower 0 := ⟨qMO_lower.1, qMO_lower.2, ⟨by decide, by decide, by decide +kernel⟩, by decide, by decide⟩
theorem gMO_settle_MO_most : gCall mMO_settle mMO_most 2 := ⟨qMO_most.1, qMO_most.2, ⟨by decide, by decide, by decide +kernel⟩, by decide, by decide⟩
theorem gMO_settle_MO_exactly : gCall mMO_settle mMO_exactly 3 := ⟨qMO_exactly.1, qMO_exactly.2, ⟨by decide, by decide, by decide +kernel⟩, by decide, by decide⟩
theorem gMO_soft_MO_most : gCall mMO_soft mMO_most 2 := ⟨qMO_most.1, qMO_most.2, ⟨by decide, by decide, by decide +kernel⟩, by decide, by decide⟩
theorem gMO_soft_MO_settle : gCall mMO_soft mMO_settle 3 := ⟨qMO_settle.1, qMO_settle.2, ⟨by decide, by decide, by decide +kernel⟩, by decide, by decide⟩
theorem gMO_soft_MO_atLeast : gCall mMO_soft mMO_atLeast 3 := ⟨qMO_atLeast.1, qMO_atLeast.2, ⟨by decide, by decide, by decide +kernel⟩, by decide, by decide⟩
theorem gMO_required_MO_exactly : gCall mMO_required mMO_exactly 3 := ⟨qMO_exactly.1, qMO_exactly.2, ⟨by decide, by decide, by decide +kernel⟩, by decide, by decide⟩
theorem gMO_required_MO_atLeast : gCall mMO_required mMO_atLeast 3 := ⟨qMO_atLeast.1, qMO_atLeast.2, ⟨by decide, by decide, by decide +kernel⟩, by decide, by decide⟩
theorem gMO_solve_MO_required : gCall mMO_solve mMO_required 0 := ⟨qMO_required.1, qMO_required.2, ⟨by decide, by decide, by decide +kernel⟩, by decide, by decide⟩
theorem gMO_solve_MO_conflict : gCall mMO_solve mMO_conflict 0 := ⟨qMO_conflict.1, qMO_conflict.2, ⟨by decide, by decide, by decide +kernel⟩, by decide, by decide⟩
theorem gMO_solve_MO_origin : gCall mMO_solve mMO_origin 1 := ⟨qMO_origin.1, qMO_origin.2, ⟨by decide, by decide, by decide +kernel⟩, by decide, by decide⟩
theorem gMO_solve_MO_settle : gCall mMO_solve mMO_settle 3 := ⟨qMO_settle.1, qMO_settle.2, ⟨by decide, by decide, by decide +kernel⟩, by decide, by decide⟩
theorem gMO_solve_MO_soft : gCall mMO_solve mMO_soft 1 := ⟨qMO_soft.1, qMO_soft.2, ⟨by decide, by decide, by decide +kernel⟩, by decide, by decide⟩
theorem gMO_box_MO_isBox : gCall mMO_box mMO_isBox 1 := ⟨qMO_isBox.1, qMO_isBox.2, ⟨by decide, by decide, by decide +kernel⟩, by decide, by decide⟩
theorem gMO_box_MO_look : gCall mMO_box mMO_look 0 := ⟨qMO_look.1, qMO_look.2, ⟨by decide, by decide, by decide +kernel⟩, by decide, by decide⟩
theorem gMO_constrain_MO_isEdge : gCall mMO_constrain mMO_isEdge 1 := ⟨qMO_isEdge.1, qMO_isEdge.2, ⟨by decide, by decide, by decide +kernel⟩, by decide, by decide⟩
theorem gMO_constrain_MO_origin : gCall mMO_constrain mMO_origin 1 := ⟨qMO_origin.1, qMO_origin.2, ⟨by decide, by decide, by decide +kernel⟩, by decide, by decide⟩
theorem gMO_constrain_MO_solve : gCall mMO_constrain mMO_solve 2 := ⟨qMO_solve.1, qMO_solve.2, ⟨by decide, by decide, by decide +kernel⟩, by decide, by decide⟩
theorem gMO_constrain_MO_look : gCall mMO_constrain mMO_look 0 := ⟨qMO_look.1, qMO_look.2, ⟨by decide, by decide, by decide +kernel⟩, by decide, by decide⟩
theorem gMO_remove_MO_isConstraint : gCall mMO_remove mMO_isConstraint 1 := ⟨qMO_isConstraint.1, qMO_isConstraint.2, ⟨by decide, by decide, by decide +kernel⟩, by decide, by decide⟩
theorem gMO_remove_MO_solve : gCall mMO_remove mMO_solve 2 := ⟨qMO_solve.1, qMO_solve.2, ⟨by decide, by decide, by decide +kernel⟩, by decide, by decide⟩
theorem gMO_remove_MO_look : gCall mMO_remove mMO_look 0 := ⟨qMO_look.1, qMO_look.2, ⟨by decide, by decide, by decide +kernel⟩, by decide, by decide⟩
theorem gMO_suggest_MO_isEdge : gCall mMO_suggest mMO_isEdge 1 := ⟨qMO_isEdge.1, qMO_isEdge.2, ⟨by decide, by decide, by decide +kernel⟩, by decide, by decide⟩
theorem gMO_suggest_MO_solve : gCall mMO_suggest mMO_solve 2 := ⟨qMO_solve.1, qMO_solve.2, ⟨by decide, by decide, by decide +kernel⟩, by decide, by decide⟩
theorem gMO_suggest_MO_look : gCall mMO_suggest mMO_look 0 := ⟨qMO_look.1, qMO_look.2, ⟨by decide, by decide, by decide +kernel⟩, by decide, by decide⟩
theorem gMO_resize_MO_solve : gCall mMO_resize mMO_solve 2 := ⟨qMO_solve.1, qMO_solve.2, ⟨by decide, by decide, by decide +kernel⟩, by decide, by decide⟩
theorem gMO_resize_MO_look : gCall mMO_resize mMO_look 0 := ⟨qMO_look.1, qMO_look.2, ⟨by decide, by decide, by decide +kernel⟩, by decide, by decide⟩
theorem gMO_place_MO_isEdge : gCall mMO_place mMO_isEdge 1 := ⟨qMO_isEdge.1, qMO_isEdge.2, ⟨by decide, by decide, by decide +kernel⟩, by decide, by decide⟩
theorem gMO_error_MO_isConstraint : gCall mMO_error mMO_isConstraint 1 := ⟨qMO_isConstraint.1, qMO_isConstraint.2, ⟨by decide, by decide, by decide +kernel⟩, by decide, by decide⟩
theorem gMO_hide_MO_isBox : gCall mMO_hide mMO_isBox 1 := ⟨qMO_isBox.1, qMO_isBox.2, ⟨by decide, by decide, by decide +kernel⟩, by decide, by decide⟩
theorem gMO_hide_MO_look : gCall mMO_hide mMO_look 0 := ⟨qMO_look.1, qMO_look.2, ⟨by decide, by decide, by decide +kernel⟩, by decide, by decide⟩
theorem gMO_raise_MO_isBox : gCall mMO_raise mMO_isBox 1 := ⟨qMO_isBox.1, qMO_isBox.2, ⟨by decide, by decide, by decide +kernel⟩, by decide, by decide⟩
theorem gMO_raise_MO_isLast : gCall mMO_raise mMO_isLast 1 := ⟨qMO_isLast.1, qMO_isLast.2, ⟨by decide, by decide, by decide +kernel⟩, by decide, by decide⟩
theorem gMO_raise_MO_inArea : gCall mMO_raise mMO_inArea 3 := ⟨qMO_inArea.1, qMO_inArea.2, ⟨by decide, by decide, by decide +kernel⟩, by decide, by decide⟩
theorem gMO_hit_MO_inArea : gCall mMO_hit mMO_inArea 3 := ⟨qMO_inArea.1, qMO_inArea.2, ⟨by decide, by decide, by decide +kernel⟩, by decide, by decide⟩
theorem gMO_hit_MO_inFront : gCall mMO_hit mMO_inFront 2 := ⟨qMO_inFront.1, qMO_inFront.2, ⟨by decide, by decide, by decide +kernel⟩, by decide, by decide⟩
theorem gMO_press_MO_hit : gCall mMO_press mMO_hit 2 := ⟨qMO_hit.1, qMO_hit.2, ⟨by decide, by decide, by decide +kernel⟩, by decide, by decide⟩
theorem gMO_press_MO_can : gCall mMO_press mMO_can 1 := ⟨qMO_can.1, qMO_can.2, ⟨by decide, by decide, by decide +kernel⟩, by decide, by decide⟩
theorem gMO_press_MO_look : gCall mMO_press mMO_look 0 := ⟨qMO_look.1, qMO_look.2, ⟨by decide, by decide, by decide +kernel⟩, by decide, by decide⟩
theorem gMO_release_MO_hit : gCall mMO_release mMO_hit 2 := ⟨qMO_hit.1, qMO_hit.2, ⟨by decide, by decide, by decide +kernel⟩, by decide, by decide⟩
theorem gMO_release_MO_activate : gCall mMO_release mMO_activate 1 := ⟨qMO_activate.1, qMO_activate.2, ⟨by decide, by decide, by decide +kernel⟩, by decide, by decide⟩
theorem gMO_release_MO_look : gCall mMO_release mMO_look 0 := ⟨qMO_look.1, qMO_look.2, ⟨by decide, by decide, by decide +kernel⟩, by decide, by decide⟩
theorem gMO_step_MO_can : gCall mMO_step mMO_can 1 := ⟨qMO_can.1, qMO_can.2, ⟨by decide, by decide, by decide +kernel⟩, by decide, by decide⟩
theorem gMO_step_MO_look : gCall mMO_step mMO_look 0 := ⟨qMO_look.1, qMO_look.2, ⟨by decide, by decide, by decide +kernel⟩, by decide, by decide⟩
theorem gMO_key_MO_activate : gCall mMO_key mMO_activate 1 := ⟨qMO_activate.1, qMO_activate.2, ⟨by decide, by decide, by decide +kernel⟩, by decide, by decide⟩
theorem gMO_key_MO_look : gCall mMO_key mMO_look 0 := ⟨qMO_look.1, qMO_look.2, ⟨by decide, by decide, by decide +kernel⟩, by decide, by decide⟩
theorem gMO_count_MO_isBox : gCall mMO_count mMO_isBox 1 := ⟨qMO_isBox.1, qMO_isBox.2, ⟨by decide, by decide, by decide +kernel⟩, by decide, by decide⟩
theorem gMO_paint_MO_hit : gCall mMO_paint mMO_hit 2 := ⟨qMO_hit.1, qMO_hit.2, ⟨by decide, by decide, by decide +kernel⟩, by decide, by decide⟩
theorem gLW_law_LW_cell : gCall mLW_law mLW_cell 2 := ⟨qLW_cell.1, qLW_cell.2, ⟨by decide, by decide, by decide +kernel⟩, by decide, by decide⟩
theorem gLW_law_DV_init : gCall mLW_law mDV_init 2 := ⟨qDV_init.1, qDV_init.2, ⟨by decide, by decide, by decide +kernel⟩, by decide, by decide⟩
theorem gLW_law_MO_init : gCall mLW_law mMO_init 2 := ⟨qMO_init.1, qMO_init.2, ⟨by decide, by decide, by decide +kernel⟩, by decide, by decide⟩
theorem gLW_law_DV_box : gCall mLW_law mDV_box 2 := ⟨qDV_box.1, qDV_box.2, ⟨by decide, by decide, by decide +kernel⟩, by decide, by decide⟩
theorem gLW_law_MO_box : gCall mLW_law mMO_box 2 := ⟨qMO_box.1, qMO_box.2, ⟨by decide, by decide, by decide +kernel⟩, by decide, by decide⟩
theorem gLW_law_DV_constrain : gCall mLW_law mDV_constrain 5 := ⟨qDV_constrain.1, qDV_constrain.2, ⟨by decide, by decide, by decide +kernel⟩, by decide, by decide⟩
theorem gLW_law_MO_constrain : gCall mLW_law mMO_constrain 5 := ⟨qMO_constrain.1, qMO_constrain.2, ⟨by decide, by decide, by decide +kernel⟩, by decide, by decide⟩
theorem gLW_law_DV_remove : gCall mLW_law mDV_remove 1 := ⟨qDV_remove.1, qDV_remove.2, ⟨by decide, by decide, by decide +kernel⟩, by decide, by decide⟩
theorem gLW_law_MO_remove : gCall mLW_law mMO_remove 1 := ⟨qMO_remove.1, qMO_remove.2, ⟨by decide, by decide, by decide +kernel⟩, by decide, by decide⟩
theorem gLW_law_DV_suggest : gCall mLW_law mDV_suggest 2 := ⟨qDV_suggest.1, qDV_suggest.2, ⟨by decide, by decide, by decide +kernel⟩, by decide, by decide⟩
theorem gLW_law_MO_suggest : gCall mLW_law mMO_suggest 2 := ⟨qMO_suggest.1, qMO_suggest.2, ⟨by decide, by decide, by decide +kernel⟩, by decide, by decide⟩
theorem gLW_law_DV_resize : gCall mLW_law mDV_resize 2 := ⟨qDV_resize.1, qDV_resize.2, ⟨by decide, by decide, by decide +kernel⟩, by decide, by decide⟩
theorem gLW_law_MO_resize : gCall mLW_law mMO_resize 2 := ⟨qMO_resize.1, qMO_resize.2, ⟨by decide, by decide, by decide +kernel⟩, by decide, by decide⟩
theorem gLW_law_DV_place : gCall mLW_law mDV_place 1 := ⟨qDV_place.1, qDV_place.2, ⟨by decide, by decide, by decide +kernel⟩, by decide, by decide⟩
theorem gLW_law_MO_place : gCall mLW_law mMO_place 1 := ⟨qMO_place.1, qMO_place.2, ⟨by decide, by decide, by decide +kernel⟩, by decide, by decide⟩
theorem gLW_law_DV_error : gCall mLW_law mDV_error 1 := ⟨qDV_error.1, qDV_error.2, ⟨by decide, by decide, by decide +kernel⟩, by decide, by decide⟩
theorem gLW_law_MO_error : gCall mLW_law mMO_error 1 := ⟨qMO_error.1, qMO_error.2, ⟨by decide, by decide, by decide +kernel⟩, by decide, by decide⟩
theorem gLW_law_DV_hide : gCall mLW_law mDV_hide 2 := ⟨qDV_hide.1, qDV_hide.2, ⟨by decide, by decide, by decide +kernel⟩, by decide, by decide⟩
theorem gLW_law_MO_hide : gCall mLW_law mMO_hide 2 := ⟨qMO_hide.1, qMO_hide.2, ⟨by decide, by decide, by decide +kernel⟩, by decide, by decide⟩
theorem gLW_law_DV_raise : gCall mLW_law mDV_raise 1 := ⟨qDV_raise.1, qDV_raise.2, ⟨by decide, by decide, by decide +kernel⟩, by decide, by decide⟩
theorem gLW_law_MO_raise : gCall mLW_law mMO_raise 1 := ⟨qMO_raise.1, qMO_raise.2, ⟨by decide, by decide, by decide +kernel⟩, by decide, by decide⟩
theorem gLW_law_DV_hit : gCall mLW_law mDV_hit 2 := ⟨qDV_hit.1, qDV_hit.2, ⟨by decide, by decide, by decide +kernel⟩, by decide, by decide⟩
theorem gLW_law_MO_hit : gCall mLW_law mMO_hit 2 := ⟨qMO_hit.1, qMO_hit.2, ⟨by decide, by decide, by decide +kernel⟩, by decide, by decide⟩
theorem gLW_law_DV_press : gCall mLW_law mDV_press 2 := ⟨qDV_press.1, qDV_press.2, ⟨by decide, by decide, by decide +kernel⟩, by decide, by decide⟩
theorem gLW_law_MO_press : gCall mLW_law mMO_press 2 := ⟨qMO_press.1, qMO_press.2, ⟨by decide, by decide, by decide +kernel⟩, by decide, by decide⟩
theorem gLW_law_DV_release : gCall mLW_law mDV_release 2 := ⟨qDV_release.1, qDV_release.2, ⟨by decide, by decide, by decide +kernel⟩, by decide, by decide⟩
theorem gLW_law_MO_release : gCall mLW_law mMO_release 2 := ⟨qMO_release.1, qMO_release.2, ⟨by decide, by decide, by decide +kernel⟩, by decide, by decide⟩
theorem gLW_law_DV_step : gCall mLW_law mDV_step 1 := ⟨qDV_step.1, qDV_step.2, ⟨by decide, by decide, by decide +kernel⟩, by decide, by decide⟩
theorem gLW_law_MO_step : gCall mLW_law mMO_step 1 := ⟨qMO_step.1, qMO_step.2, ⟨by decide, by decide, by decide +kernel⟩, by decide, by decide⟩
theorem gLW_law_DV_key : gCall mLW_law mDV_key 0 := ⟨qDV_key.1, qDV_key.2, ⟨by decide, by decide, by decide +kernel⟩, by decide, by decide⟩
theorem gLW_law_MO_key : gCall mLW_law mMO_key 0 := ⟨qMO_key.1, qMO_key.2, ⟨by decide, by decide, by decide +kernel⟩, by decide, by decide⟩
theorem gLW_law_DV_attention : gCall mLW_law mDV_attention 0 := ⟨qDV_attention.1, qDV_attention.2, ⟨by decide, by decide, by decide +kernel⟩, by decide, by decide⟩
theorem gLW_law_MO_attention : gCall mLW_law mMO_attention 0 := ⟨qMO_attention.1, qMO_attention.2, ⟨by decide, by decide, by decide +kernel⟩, by decide, by decide⟩
theorem gLW_law_DV_count : gCall mLW_law mDV_count 1 := ⟨qDV_count.1, qDV_count.2, ⟨by decide, by decide, by decide +kernel⟩, by decide, by decide⟩
theorem gLW_law_MO_count : gCall mLW_law mMO_count 1 := ⟨qMO_count.1, qMO_count.2, ⟨by decide, by decide, by decide +kernel⟩, by decide, by decide⟩
theorem gLW_law_DV_damage : gCall mLW_law mDV_damage 0 := ⟨qDV_damage.1, qDV_damage.2, ⟨by decide, by decide, by decide +kernel⟩, by decide, by decide⟩
theorem gLW_law_MO_damage : gCall mLW_law mMO_damage 0 := ⟨qMO_damage.1, qMO_damage.2, ⟨by decide, by decide, by decide +kernel⟩, by decide, by decide⟩
theorem gLW_law_DV_paint : gCall mLW_law mDV_paint 0 := ⟨qDV_paint.1, qDV_paint.2, ⟨by decide, by decide, by decide +kernel⟩, by decide, by decide⟩
theorem gLW_law_MO_paint : gCall mLW_law mMO_paint 0 := ⟨qMO_paint.1, qMO_paint.2, ⟨by decide, by decide, by decide +kernel⟩, by decide, by decide⟩
theorem gLW_law_DV_pixel : gCall mLW_law mDV_pixel 2 := ⟨qDV_pixel.1, qDV_pixel.2, ⟨by decide, by decide, by decide +kernel⟩, by decide, by decide⟩
theorem gLW_law_MO_pixel : gCall mLW_law mMO_pixel 2 := ⟨qMO_pixel.1, qMO_pixel.2, ⟨by decide, by decide, by decide +kernel⟩, by decide, by decide⟩
end
section
theorem dAR_init_0 : gD mAR_init 0 (.aload_n 0) 1 1 := ⟨by decide +kernel, rfl⟩
theorem dAR_init_1 : gD mAR_init 1 (.invokespecial 3) 3 4 := ⟨by decide +kernel, rfl⟩
theorem dAR_init_4 : decode mAR_init.2.1 4 = .ok (.return_, 1) := by decide +kernel
theorem dAR_isEmpty_0 : gD mAR_isEmpty 0 (.aload_n 0) 1 1 := ⟨by decide +kernel, rfl⟩
theorem dAR_isEmpty_1 : gD mAR_isEmpty 1 (.getfield 9) 3 4 := ⟨by decide +kernel, rfl⟩
theorem dAR_isEmpty_4 : gD mAR_isEmpty 4 (.aload_n 0) 1 5 := ⟨by decide +kernel, rfl⟩
theorem dAR_isEmpty_5 : gD mAR_isEmpty 5 (.getfield 15) 3 8 := ⟨by decide +kernel, rfl⟩
theorem dAR_isEmpty_8 : gB mAR_isEmpty 8 (.if_icmp .ge 14) 14 22 11 := ⟨by decide +kernel, by decide, rfl⟩
theorem dAR_isEmpty_11 : gD mAR_isEmpty 11 (.aload_n 0) 1 12 := ⟨by decide +kernel, rfl⟩
theorem dAR_isEmpty_12 : gD mAR_isEmpty 12 (.getfield 18) 3 15 := ⟨by decide +kernel, rfl⟩
theorem dAR_isEmpty_15 : gD mAR_isEmpty 15 (.aload_n 0) 1 16 := ⟨by decide +kernel, rfl⟩
theorem dAR_isEmpty_16 : gD mAR_isEmpty 16 (.getfield 21) 3 19 := ⟨by decide +kernel, rfl⟩
theorem dAR_isEmpty_19 : gB mAR_isEmpty 19 (.if_icmp .lt 7) 7 26 22 := ⟨by decide +kernel, by decide, rfl⟩
theorem dAR_isEmpty_22 : gD mAR_isEmpty 22 (.iconst 1) 1 23 := ⟨by decide +kernel, rfl⟩
theorem dAR_isEmpty_23 : gB mAR_isEmpty 23 (.goto 4) 4 27 26 := ⟨by decide +kernel, by decide, rfl⟩
theorem dAR_isEmpty_26 : gD mAR_isEmpty 26 (.iconst 0) 1 27 := ⟨by decide +kernel, rfl⟩
theorem dAR_isEmpty_27 : decode mAR_isEmpty.2.1 27 = .ok (.ireturn, 1) := by decide +kernel
theorem dAR_has_0 : gD mAR_has 0 (.aload_n 0) 1 1 := ⟨by decide +kernel, rfl⟩
theorem dAR_has_1 : gD mAR_has 1 (.getfield 9) 3 4 := ⟨by decide +kernel, rfl⟩
theorem dAR_has_4 : gD mAR_has 4 (.iload_n 1) 1 5 := ⟨by decide +kernel, rfl⟩
theorem dAR_has_5 : gB mAR_has 5 (.if_icmp .gt 31) 31 36 8 := ⟨by decide +kernel, by decide, rfl⟩
theorem dAR_has_8 : gD mAR_has 8 (.iload_n 1) 1 9 := ⟨by decide +kernel, rfl⟩
theorem dAR_has_9 : gD mAR_has 9 (.aload_n 0) 1 10 := ⟨by decide +kernel, rfl⟩
theorem dAR_has_10 : gD mAR_has 10 (.getfield 15) 3 13 := ⟨by decide +kernel, rfl⟩
theorem dAR_has_13 : gB mAR_has 13 (.if_icmp .ge 23) 23 36 16 := ⟨by decide +kernel, by decide, rfl⟩
theorem dAR_has_16 : gD mAR_has 16 (.aload_n 0) 1 17 := ⟨by decide +kernel, rfl⟩
theorem dAR_has_17 : gD mAR_has 17 (.getfield 18) 3 20 := ⟨by decide +kernel, rfl⟩
theorem dAR_has_20 : gD mAR_has 20 (.iload_n 2) 1 21 := ⟨by decide +kernel, rfl⟩
theorem dAR_has_21 : gB mAR_has 21 (.if_icmp .gt 15) 15 36 24 := ⟨by decide +kernel, by decide, rfl⟩
theorem dAR_has_24 : gD mAR_has 24 (.iload_n 2) 1 25 := ⟨by decide +kernel, rfl⟩
theorem dAR_has_25 : gD mAR_has 25 (.aload_n 0) 1 26 := ⟨by decide +kernel, rfl⟩
theorem dAR_has_26 : gD mAR_has 26 (.getfield 21) 3 29 := ⟨by decide +kernel, rfl⟩
theorem dAR_has_29 : gB mAR_has 29 (.if_icmp .ge 7) 7 36 32 := ⟨by decide +kernel, by decide, rfl⟩
theorem dAR_has_32 : gD mAR_has 32 (.iconst 1) 1 33 := ⟨by decide +kernel, rfl⟩
theorem dAR_has_33 : gB mAR_has 33 (.goto 4) 4 37 36 := ⟨by decide +kernel, by decide, rfl⟩
theorem dAR_has_36 : gD mAR_has 36 (.iconst 0) 1 37 := ⟨by decide +kernel, rfl⟩
theorem dAR_has_37 : decode mAR_has.2.1 37 = .ok (.ireturn, 1) := by decide +kernel
theorem dAR_isSameAs_0 : gD mAR_isSameAs 0 (.aload_n 0) 1 1 := ⟨by decide +kernel, rfl⟩
theorem dAR_isSameAs_1 : gD mAR_isSameAs 1 (.getfield 9) 3 4 := ⟨by decide +kernel, rfl⟩
theorem dAR_isSameAs_4 : gD mAR_isSameAs 4 (.aload_n 1) 1 5 := ⟨by decide +kernel, rfl⟩
theorem dAR_isSameAs_5 : gD mAR_isSameAs 5 (.getfield 9) 3 8 := ⟨by decide +kernel, rfl⟩
theorem dAR_isSameAs_8 : gB mAR_isSameAs 8 (.if_icmp .ne 40) 40 48 11 := ⟨by decide +kernel, by decide, rfl⟩
theorem dAR_isSameAs_11 : gD mAR_isSameAs 11 (.aload_n 0) 1 12 := ⟨by decide +kernel, rfl⟩
theorem dAR_isSameAs_12 : gD mAR_isSameAs 12 (.getfield 15) 3 15 := ⟨by decide +kernel, rfl⟩
theorem dAR_isSameAs_15 : gD mAR_isSameAs 15 (.aload_n 1) 1 16 := ⟨by decide +kernel, rfl⟩
theorem dAR_isSameAs_16 : gD mAR_isSameAs 16 (.getfield 15) 3 19 := ⟨by decide +kernel, rfl⟩
theorem dAR_isSameAs_19 : gB mAR_isSameAs 19 (.if_icmp .ne 29) 29 48 22 := ⟨by decide +kernel, by decide, rfl⟩
theorem dAR_isSameAs_22 : gD mAR_isSameAs 22 (.aload_n 0) 1 23 := ⟨by decide +kernel, rfl⟩
theorem dAR_isSameAs_23 : gD mAR_isSameAs 23 (.getfield 18) 3 26 := ⟨by decide +kernel, rfl⟩
theorem dAR_isSameAs_26 : gD mAR_isSameAs 26 (.aload_n 1) 1 27 := ⟨by decide +kernel, rfl⟩
theorem dAR_isSameAs_27 : gD mAR_isSameAs 27 (.getfield 18) 3 30 := ⟨by decide +kernel, rfl⟩
theorem dAR_isSameAs_30 : gB mAR_isSameAs 30 (.if_icmp .ne 18) 18 48 33 := ⟨by decide +kernel, by decide, rfl⟩
theorem dAR_isSameAs_33 : gD mAR_isSameAs 33 (.aload_n 0) 1 34 := ⟨by decide +kernel, rfl⟩
theorem dAR_isSameAs_34 : gD mAR_isSameAs 34 (.getfield 21) 3 37 := ⟨by decide +kernel, rfl⟩
theorem dAR_isSameAs_37 : gD mAR_isSameAs 37 (.aload_n 1) 1 38 := ⟨by decide +kernel, rfl⟩
theorem dAR_isSameAs_38 : gD mAR_isSameAs 38 (.getfield 21) 3 41 := ⟨by decide +kernel, rfl⟩
theorem dAR_isSameAs_41 : gB mAR_isSameAs 41 (.if_icmp .ne 7) 7 48 44 := ⟨by decide +kernel, by decide, rfl⟩
theorem dAR_isSameAs_44 : gD mAR_isSameAs 44 (.iconst 1) 1 45 := ⟨by decide +kernel, rfl⟩
theorem dAR_isSameAs_45 : gB mAR_isSameAs 45 (.goto 4) 4 49 48 := ⟨by decide +kernel, by decide, rfl⟩
theorem dAR_isSameAs_48 : gD mAR_isSameAs 48 (.iconst 0) 1 49 := ⟨by decide +kernel, rfl⟩
theorem dAR_isSameAs_49 : decode mAR_isSameAs.2.1 49 = .ok (.ireturn, 1) := by decide +kernel
theorem dAR_makeEmpty_0 : gD mAR_makeEmpty 0 (.aload_n 0) 1 1 := ⟨by decide +kernel, rfl⟩
theorem dAR_makeEmpty_1 : gD mAR_makeEmpty 1 (.iconst 0) 1 2 := ⟨by decide +kernel, rfl⟩
theorem dAR_makeEmpty_2 : gD mAR_makeEmpty 2 (.putfield 9) 3 5 := ⟨by decide +kernel, rfl⟩
theorem dAR_makeEmpty_5 : gD mAR_makeEmpty 5 (.aload_n 0) 1 6 := ⟨by decide +kernel, rfl⟩
theorem dAR_makeEmpty_6 : gD mAR_makeEmpty 6 (.iconst 0) 1 7 := ⟨by decide +kernel, rfl⟩
theorem dAR_makeEmpty_7 : gD mAR_makeEmpty 7 (.putfield 15) 3 10 := ⟨by decide +kernel, rfl⟩
theorem dAR_makeEmpty_10 : gD mAR_makeEmpty 10 (.aload_n 0) 1 11 := ⟨by decide +kernel, rfl⟩
theorem dAR_makeEmpty_11 : gD mAR_makeEmpty 11 (.iconst 0) 1 12 := ⟨by decide +kernel, rfl⟩
theorem dAR_makeEmpty_12 : gD mAR_makeEmpty 12 (.putfield 18) 3 15 := ⟨by decide +kernel, rfl⟩
theorem dAR_makeEmpty_15 : gD mAR_makeEmpty 15 (.aload_n 0) 1 16 := ⟨by decide +kernel, rfl⟩
theorem dAR_makeEmpty_16 : gD mAR_makeEmpty 16 (.iconst 0) 1 17 := ⟨by decide +kernel, rfl⟩
theorem dAR_makeEmpty_17 : gD mAR_makeEmpty 17 (.putfield 21) 3 20 := ⟨by decide +kernel, rfl⟩
theorem dAR_makeEmpty_20 : decode mAR_makeEmpty.2.1 20 = .ok (.return_, 1) := by decide +kernel
theorem dAR_copyFrom_0 : gD mAR_copyFrom 0 (.aload_n 0) 1 1 := ⟨by decide +kernel, rfl⟩
theorem dAR_copyFrom_1 : gD mAR_copyFrom 1 (.aload_n 1) 1 2 := ⟨by decide +kernel, rfl⟩
theorem dAR_copyFrom_2 : gD mAR_copyFrom 2 (.getfield 9) 3 5 := ⟨by decide +kernel, rfl⟩
theorem dAR_copyFrom_5 : gD mAR_copyFrom 5 (.putfield 9) 3 8 := ⟨by decide +kernel, rfl⟩
theorem dAR_copyFrom_8 : gD mAR_copyFrom 8 (.aload_n 0) 1 9 := ⟨by decide +kernel, rfl⟩
theorem dAR_copyFrom_9 : gD mAR_copyFrom 9 (.aload_n 1) 1 10 := ⟨by decide +kernel, rfl⟩
theorem dAR_copyFrom_10 : gD mAR_copyFrom 10 (.getfield 15) 3 13 := ⟨by decide +kernel, rfl⟩
theorem dAR_copyFrom_13 : gD mAR_copyFrom 13 (.putfield 15) 3 16 := ⟨by decide +kernel, rfl⟩
theorem dAR_copyFrom_16 : gD mAR_copyFrom 16 (.aload_n 0) 1 17 := ⟨by decide +kernel, rfl⟩
theorem dAR_copyFrom_17 : gD mAR_copyFrom 17 (.aload_n 1) 1 18 := ⟨by decide +kernel, rfl⟩
theorem dAR_copyFrom_18 : gD mAR_copyFrom 18 (.getfield 18) 3 21 := ⟨by decide +kernel, rfl⟩
theorem dAR_copyFrom_21 : gD mAR_copyFrom 21 (.putfield 18) 3 24 := ⟨by decide +kernel, rfl⟩
theorem dAR_copyFrom_24 : gD mAR_copyFrom 24 (.aload_n 0) 1 25 := ⟨by decide +kernel, rfl⟩
theorem dAR_copyFrom_25 : gD mAR_copyFrom 25 (.aload_n 1) 1 26 := ⟨by decide +kernel, rfl⟩
theorem dAR_copyFrom_26 : gD mAR_copyFrom 26 (.getfield 21) 3 29 := ⟨by decide +kernel, rfl⟩
theorem dAR_copyFrom_29 : gD mAR_copyFrom 29 (.putfield 21) 3 32 := ⟨by decide +kernel, rfl⟩
theorem dAR_copyFrom_32 : decode mAR_copyFrom.2.1 32 = .ok (.return_, 1) := by decide +kernel
theorem dAR_takeEdges_0 : gD mAR_takeEdges 0 (.aload_n 0) 1 1 := ⟨by decide +kernel, rfl⟩
theorem dAR_takeEdges_1 : gD mAR_takeEdges 1 (.aload_n 1) 1 2 := ⟨by decide +kernel, rfl⟩
theorem dAR_takeEdges_2 : gD mAR_takeEdges 2 (.iload_n 2) 1 3 := ⟨by decide +kernel, rfl⟩
theorem dAR_takeEdges_3 : gD mAR_takeEdges 3 (.iconst 0) 1 4 := ⟨by decide +kernel, rfl⟩
theorem dAR_takeEdges_4 : gD mAR_takeEdges 4 (.iadd) 1 5 := ⟨by decide +kernel, rfl⟩
theorem dAR_takeEdges_5 : gD mAR_takeEdges 5 (.iaload) 1 6 := ⟨by decide +kernel, rfl⟩
theorem dAR_takeEdges_6 : gD mAR_takeEdges 6 (.putfield 9) 3 9 := ⟨by decide +kernel, rfl⟩
theorem dAR_takeEdges_9 : gD mAR_takeEdges 9 (.aload_n 0) 1 10 := ⟨by decide +kernel, rfl⟩
theorem dAR_takeEdges_10 : gD mAR_takeEdges 10 (.aload_n 1) 1 11 := ⟨by decide +kernel, rfl⟩
theorem dAR_takeEdges_11 : gD mAR_takeEdges 11 (.iload_n 2) 1 12 := ⟨by decide +kernel, rfl⟩
theorem dAR_takeEdges_12 : gD mAR_takeEdges 12 (.iconst 1) 1 13 := ⟨by decide +kernel, rfl⟩
theorem dAR_takeEdges_13 : gD mAR_takeEdges 13 (.iadd) 1 14 := ⟨by decide +kernel, rfl⟩
theorem dAR_takeEdges_14 : gD mAR_takeEdges 14 (.iaload) 1 15 := ⟨by decide +kernel, rfl⟩
theorem dAR_takeEdges_15 : gD mAR_takeEdges 15 (.putfield 15) 3 18 := ⟨by decide +kernel, rfl⟩
theorem dAR_takeEdges_18 : gD mAR_takeEdges 18 (.aload_n 0) 1 19 := ⟨by decide +kernel, rfl⟩
theorem dAR_takeEdges_19 : gD mAR_takeEdges 19 (.aload_n 1) 1 20 := ⟨by decide +kernel, rfl⟩
theorem dAR_takeEdges_20 : gD mAR_takeEdges 20 (.iload_n 2) 1 21 := ⟨by decide +kernel, rfl⟩
theorem dAR_takeEdges_21 : gD mAR_takeEdges 21 (.iconst 2) 1 22 := ⟨by decide +kernel, rfl⟩
theorem dAR_takeEdges_22 : gD mAR_takeEdges 22 (.iadd) 1 23 := ⟨by decide +kernel, rfl⟩
theorem dAR_takeEdges_23 : gD mAR_takeEdges 23 (.iaload) 1 24 := ⟨by decide +kernel, rfl⟩
theorem dAR_takeEdges_24 : gD mAR_takeEdges 24 (.putfield 18) 3 27 := ⟨by decide +kernel, rfl⟩
theorem dAR_takeEdges_27 : gD mAR_takeEdges 27 (.aload_n 0) 1 28 := ⟨by decide +kernel, rfl⟩
theorem dAR_takeEdges_28 : gD mAR_takeEdges 28 (.aload_n 1) 1 29 := ⟨by decide +kernel, rfl⟩
theorem dAR_takeEdges_29 : gD mAR_takeEdges 29 (.iload_n 2) 1 30 := ⟨by decide +kernel, rfl⟩
theorem dAR_takeEdges_30 : gD mAR_takeEdges 30 (.iconst 3) 1 31 := ⟨by decide +kernel, rfl⟩
theorem dAR_takeEdges_31 : gD mAR_takeEdges 31 (.iadd) 1 32 := ⟨by decide +kernel, rfl⟩
theorem dAR_takeEdges_32 : gD mAR_takeEdges 32 (.iaload) 1 33 := ⟨by decide +kernel, rfl⟩
theorem dAR_takeEdges_33 : gD mAR_takeEdges 33 (.putfield 21) 3 36 := ⟨by decide +kernel, rfl⟩
theorem dAR_takeEdges_36 : decode mAR_takeEdges.2.1 36 = .ok (.return_, 1) := by decide +kernel
theorem dAR_cutTo_0 : gD mAR_cutTo 0 (.aload_n 0) 1 1 := ⟨by decide +kernel, rfl⟩
theorem dAR_cutTo_1 : gD mAR_cutTo 1 (.aload_n 0) 1 2 := ⟨by decide +kernel, rfl⟩
theorem dAR_cutTo_2 : gD mAR_cutTo 2 (.getfield 9) 3 5 := ⟨by decide +kernel, rfl⟩
theorem dAR_cutTo_5 : gD mAR_cutTo 5 (.aload_n 1) 1 6 := ⟨by decide +kernel, rfl⟩
theorem dAR_cutTo_6 : gD mAR_cutTo 6 (.getfield 9) 3 9 := ⟨by decide +kernel, rfl⟩
theorem dAR_cutTo_9 : gD mAR_cutTo 9 (.invokestatic 24) 3 12 := ⟨by decide +kernel, rfl⟩
theorem dAR_cutTo_12 : gD mAR_cutTo 12 (.putfield 9) 3 15 := ⟨by decide +kernel, rfl⟩
theorem dAR_cutTo_15 : gD mAR_cutTo 15 (.aload_n 0) 1 16 := ⟨by decide +kernel, rfl⟩
theorem dAR_cutTo_16 : gD mAR_cutTo 16 (.aload_n 0) 1 17 := ⟨by decide +kernel, rfl⟩
theorem dAR_cutTo_17 : gD mAR_cutTo 17 (.getfield 15) 3 20 := ⟨by decide +kernel, rfl⟩
theorem dAR_cutTo_20 : gD mAR_cutTo 20 (.aload_n 1) 1 21 := ⟨by decide +kernel, rfl⟩
theorem dAR_cutTo_21 : gD mAR_cutTo 21 (.getfield 15) 3 24 := ⟨by decide +kernel, rfl⟩
theorem dAR_cutTo_24 : gD mAR_cutTo 24 (.invokestatic 30) 3 27 := ⟨by decide +kernel, rfl⟩
theorem dAR_cutTo_27 : gD mAR_cutTo 27 (.putfield 15) 3 30 := ⟨by decide +kernel, rfl⟩
theorem dAR_cutTo_30 : gD mAR_cutTo 30 (.aload_n 0) 1 31 := ⟨by decide +kernel, rfl⟩
theorem dAR_cutTo_31 : gD mAR_cutTo 31 (.aload_n 0) 1 32 := ⟨by decide +kernel, rfl⟩
theorem dAR_cutTo_32 : gD mAR_cutTo 32 (.getfield 18) 3 35 := ⟨by decide +kernel, rfl⟩
theorem dAR_cutTo_35 : gD mAR_cutTo 35 (.aload_n 1) 1 36 := ⟨by decide +kernel, rfl⟩
theorem dAR_cutTo_36 : gD mAR_cutTo 36 (.getfield 18) 3 39 := ⟨by decide +kernel, rfl⟩
theorem dAR_cutTo_39 : gD mAR_cutTo 39 (.invokestatic 24) 3 42 := ⟨by decide +kernel, rfl⟩
theorem dAR_cutTo_42 : gD mAR_cutTo 42 (.putfield 18) 3 45 := ⟨by decide +kernel, rfl⟩
theorem dAR_cutTo_45 : gD mAR_cutTo 45 (.aload_n 0) 1 46 := ⟨by decide +kernel, rfl⟩
theorem dAR_cutTo_46 : gD mAR_cutTo 46 (.aload_n 0) 1 47 := ⟨by decide +kernel, rfl⟩
theorem dAR_cutTo_47 : gD mAR_cutTo 47 (.getfield 21) 3 50 := ⟨by decide +kernel, rfl⟩
theorem dAR_cutTo_50 : gD mAR_cutTo 50 (.aload_n 1) 1 51 := ⟨by decide +kernel, rfl⟩
theorem dAR_cutTo_51 : gD mAR_cutTo 51 (.getfield 21) 3 54 := ⟨by decide +kernel, rfl⟩
theorem dAR_cutTo_54 : gD mAR_cutTo 54 (.invokestatic 30) 3 57 := ⟨by decide +kernel, rfl⟩
theorem dAR_cutTo_57 : gD mAR_cutTo 57 (.putfield 21) 3 60 := ⟨by decide +kernel, rfl⟩
theorem dAR_cutTo_60 : gD mAR_cutTo 60 (.aload_n 0) 1 61 := ⟨by decide +kernel, rfl⟩
theorem dAR_cutTo_61 : gD mAR_cutTo 61 (.invokevirtual 33) 3 64 := ⟨by decide +kernel, rfl⟩
theorem dAR_cutTo_64 : gB mAR_cutTo 64 (.ifCond .eq 7) 7 71 67 := ⟨by decide +kernel, by decide, rfl⟩
theorem dAR_cutTo_67 : gD mAR_cutTo 67 (.aload_n 0) 1 68 := ⟨by decide +kernel, rfl⟩
theorem dAR_cutTo_68 : gD mAR_cutTo 68 (.invokevirtual 37) 3 71 := ⟨by decide +kernel, rfl⟩
theorem dAR_cutTo_71 : decode mAR_cutTo.2.1 71 = .ok (.return_, 1) := by decide +kernel
theorem dBX_init_0 : gD mBX_init 0 (.aload_n 0) 1 1 := ⟨by decide +kernel, rfl⟩
theorem dBX_init_1 : gD mBX_init 1 (.invokespecial 3) 3 4 := ⟨by decide +kernel, rfl⟩
theorem dBX_init_4 : gD mBX_init 4 (.aload_n 0) 1 5 := ⟨by decide +kernel, rfl⟩
theorem dBX_init_5 : gD mBX_init 5 (.new 9) 3 8 := ⟨by decide +kernel, rfl⟩
theorem dBX_init_8 : gD mBX_init 8 (.dup) 1 9 := ⟨by decide +kernel, rfl⟩
theorem dBX_init_9 : gD mBX_init 9 (.invokespecial 11) 3 12 := ⟨by decide +kernel, rfl⟩
theorem dBX_init_12 : gD mBX_init 12 (.putfield 12) 3 15 := ⟨by decide +kernel, rfl⟩
theorem dBX_init_15 : gD mBX_init 15 (.aload_n 0) 1 16 := ⟨by decide +kernel, rfl⟩
theorem dBX_init_16 : gD mBX_init 16 (.new 9) 3 19 := ⟨by decide +kernel, rfl⟩
theorem dBX_init_19 : gD mBX_init 19 (.dup) 1 20 := ⟨by decide +kernel, rfl⟩
theorem dBX_init_20 : gD mBX_init 20 (.invokespecial 11) 3 23 := ⟨by decide +kernel, rfl⟩
theorem dBX_init_23 : gD mBX_init 23 (.putfield 18) 3 26 := ⟨by decide +kernel, rfl⟩
theorem dBX_init_26 : gD mBX_init 26 (.aload_n 0) 1 27 := ⟨by decide +kernel, rfl⟩
theorem dBX_init_27 : gD mBX_init 27 (.iload_n 1) 1 28 := ⟨by decide +kernel, rfl⟩
theorem dBX_init_28 : gD mBX_init 28 (.putfield 21) 3 31 := ⟨by decide +kernel, rfl⟩
theorem dBX_init_31 : gD mBX_init 31 (.aload_n 0) 1 32 := ⟨by decide +kernel, rfl⟩
theorem dBX_init_32 : gD mBX_init 32 (.iload_n 2) 1 33 := ⟨by decide +kernel, rfl⟩
theorem dBX_init_33 : gD mBX_init 33 (.putfield 25) 3 36 := ⟨by decide +kernel, rfl⟩
theorem dBX_init_36 : gD mBX_init 36 (.aload_n 0) 1 37 := ⟨by decide +kernel, rfl⟩
theorem dBX_init_37 : gD mBX_init 37 (.aload_n 3) 1 38 := ⟨by decide +kernel, rfl⟩
theorem dBX_init_38 : gD mBX_init 38 (.putfield 28) 3 41 := ⟨by decide +kernel, rfl⟩
theorem dBX_init_41 : gD mBX_init 41 (.aload_n 0) 1 42 := ⟨by decide +kernel, rfl⟩
theorem dBX_init_42 : gD mBX_init 42 (.iconst 1) 1 43 := ⟨by decide +kernel, rfl⟩
theorem dBX_init_43 : gD mBX_init 43 (.iload_n 1) 1 44 := ⟨by decide +kernel, rfl⟩
theorem dBX_init_44 : gD mBX_init 44 (.iadd) 1 45 := ⟨by decide +kernel, rfl⟩
theorem dBX_init_45 : gD mBX_init 45 (.putfield 32) 3 48 := ⟨by decide +kernel, rfl⟩
theorem dBX_init_48 : decode mBX_init.2.1 48 = .ok (.return_, 1) := by decide +kernel
theorem dBX_canHaveAttention_0 : gD mBX_canHaveAttention 0 (.aload_n 0) 1 1 := ⟨by decide +kernel, rfl⟩
theorem dBX_canHaveAttention_1 : gD mBX_canHaveAttention 1 (.getfield 25) 3 4 := ⟨by decide +kernel, rfl⟩
theorem dBX_canHaveAttention_4 : gB mBX_canHaveAttention 4 (.ifCond .eq 17) 17 21 7 := ⟨by decide +kernel, by decide, rfl⟩
theorem dBX_canHaveAttention_7 : gD mBX_canHaveAttention 7 (.aload_n 0) 1 8 := ⟨by decide +kernel, rfl⟩
theorem dBX_canHaveAttention_8 : gD mBX_canHaveAttention 8 (.getfield 12) 3 11 := ⟨by decide +kernel, rfl⟩
theorem dBX_canHaveAttention_11 : gD mBX_canHaveAttention 11 (.invokevirtual 35) 3 14 := ⟨by decide +kernel, rfl⟩
theorem dBX_canHaveAttention_14 : gB mBX_canHaveAttention 14 (.ifCond .ne 7) 7 21 17 := ⟨by decide +kernel, by decide, rfl⟩
theorem dBX_canHaveAttention_17 : gD mBX_canHaveAttention 17 (.iconst 1) 1 18 := ⟨by decide +kernel, rfl⟩
theorem dBX_canHaveAttention_18 : gB mBX_canHaveAttention 18 (.goto 4) 4 22 21 := ⟨by decide +kernel, by decide, rfl⟩
theorem dBX_canHaveAttention_21 : gD mBX_canHaveAttention 21 (.iconst 0) 1 22 := ⟨by decide +kernel, rfl⟩
theorem dBX_canHaveAttention_22 : decode mBX_canHaveAttention.2.1 22 = .ok (.ireturn, 1) := by decide +kernel
theorem dBX_findArea_0 : gD mBX_findArea 0 (.aload_n 0) 1 1 := ⟨by decide +kernel, rfl⟩
theorem dBX_findArea_1 : gD mBX_findArea 1 (.getfield 18) 3 4 := ⟨by decide +kernel, rfl⟩
theorem dBX_findArea_4 : gD mBX_findArea 4 (.aload_n 0) 1 5 := ⟨by decide +kernel, rfl⟩
theorem dBX_findArea_5 : gD mBX_findArea 5 (.getfield 12) 3 8 := ⟨by decide +kernel, rfl⟩
theorem dBX_findArea_8 : gD mBX_findArea 8 (.invokevirtual 39) 3 11 := ⟨by decide +kernel, rfl⟩
theorem dBX_findArea_11 : gD mBX_findArea 11 (.aload_n 0) 1 12 := ⟨by decide +kernel, rfl⟩
theorem dBX_findArea_12 : gD mBX_findArea 12 (.getfield 43) 3 15 := ⟨by decide +kernel, rfl⟩
theorem dBX_findArea_15 : gB mBX_findArea 15 (.ifCond .eq 11) 11 26 18 := ⟨by decide +kernel, by decide, rfl⟩
theorem dBX_findArea_18 : gD mBX_findArea 18 (.aload_n 0) 1 19 := ⟨by decide +kernel, rfl⟩
theorem dBX_findArea_19 : gD mBX_findArea 19 (.getfield 12) 3 22 := ⟨by decide +kernel, rfl⟩
theorem dBX_findArea_22 : gD mBX_findArea 22 (.invokevirtual 47) 3 25 := ⟨by decide +kernel, rfl⟩
theorem dBX_findArea_25 : decode mBX_findArea.2.1 25 = .ok (.return_, 1) := by decide +kernel
theorem dBX_findArea_26 : gD mBX_findArea 26 (.aload_n 0) 1 27 := ⟨by decide +kernel, rfl⟩
theorem dBX_findArea_27 : gD mBX_findArea 27 (.getfield 12) 3 30 := ⟨by decide +kernel, rfl⟩
theorem dBX_findArea_30 : gD mBX_findArea 30 (.aload_n 1) 1 31 := ⟨by decide +kernel, rfl⟩
theorem dBX_findArea_31 : gD mBX_findArea 31 (.aload_n 0) 1 32 := ⟨by decide +kernel, rfl⟩
theorem dBX_findArea_32 : gD mBX_findArea 32 (.getfield 21) 3 35 := ⟨by decide +kernel, rfl⟩
theorem dBX_findArea_35 : gD mBX_findArea 35 (.iconst 4) 1 36 := ⟨by decide +kernel, rfl⟩
theorem dBX_findArea_36 : gD mBX_findArea 36 (.imul) 1 37 := ⟨by decide +kernel, rfl⟩
theorem dBX_findArea_37 : gD mBX_findArea 37 (.invokevirtual 50) 3 40 := ⟨by decide +kernel, rfl⟩
theorem dBX_findArea_40 : gD mBX_findArea 40 (.aload_n 0) 1 41 := ⟨by decide +kernel, rfl⟩
theorem dBX_findArea_41 : gD mBX_findArea 41 (.getfield 28) 3 44 := ⟨by decide +kernel, rfl⟩
theorem dBX_findArea_44 : gB mBX_findArea 44 (.ifnull 17) 17 61 47 := ⟨by decide +kernel, by decide, rfl⟩
theorem dBX_findArea_47 : gD mBX_findArea 47 (.aload_n 0) 1 48 := ⟨by decide +kernel, rfl⟩
theorem dBX_findArea_48 : gD mBX_findArea 48 (.getfield 12) 3 51 := ⟨by decide +kernel, rfl⟩
theorem dBX_findArea_51 : gD mBX_findArea 51 (.aload_n 0) 1 52 := ⟨by decide +kernel, rfl⟩
theorem dBX_findArea_52 : gD mBX_findArea 52 (.getfield 28) 3 55 := ⟨by decide +kernel, rfl⟩
theorem dBX_findArea_55 : gD mBX_findArea 55 (.getfield 12) 3 58 := ⟨by decide +kernel, rfl⟩
theorem dBX_findArea_58 : gD mBX_findArea 58 (.invokevirtual 54) 3 61 := ⟨by decide +kernel, rfl⟩
theorem dBX_findArea_61 : decode mBX_findArea.2.1 61 = .ok (.return_, 1) := by decide +kernel
theorem dCN_init_0 : gD mCN_init 0 (.aload_n 0) 1 1 := ⟨by decide +kernel, rfl⟩
theorem dCN_init_1 : gD mCN_init 1 (.invokespecial 3) 3 4 := ⟨by decide +kernel, rfl⟩
theorem dCN_init_4 : gD mCN_init 4 (.aload_n 0) 1 5 := ⟨by decide +kernel, rfl⟩
theorem dCN_init_5 : gD mCN_init 5 (.iload_n 1) 1 6 := ⟨by decide +kernel, rfl⟩
theorem dCN_init_6 : gD mCN_init 6 (.putfield 9) 3 9 := ⟨by decide +kernel, rfl⟩
theorem dCN_init_9 : gD mCN_init 9 (.aload_n 0) 1 10 := ⟨by decide +kernel, rfl⟩
theorem dCN_init_10 : gD mCN_init 10 (.iload_n 2) 1 11 := ⟨by decide +kernel, rfl⟩
theorem dCN_init_11 : gD mCN_init 11 (.putfield 15) 3 14 := ⟨by decide +kernel, rfl⟩
theorem dCN_init_14 : gD mCN_init 14 (.aload_n 0) 1 15 := ⟨by decide +kernel, rfl⟩
theorem dCN_init_15 : gD mCN_init 15 (.iload_n 3) 1 16 := ⟨by decide +kernel, rfl⟩
theorem dCN_init_16 : gD mCN_init 16 (.putfield 18) 3 19 := ⟨by decide +kernel, rfl⟩
theorem dCN_init_19 : gD mCN_init 19 (.aload_n 0) 1 20 := ⟨by decide +kernel, rfl⟩
theorem dCN_init_20 : gD mCN_init 20 (.iload 4) 2 22 := ⟨by decide +kernel, rfl⟩
theorem dCN_init_22 : gD mCN_init 22 (.putfield 21) 3 25 := ⟨by decide +kernel, rfl⟩
theorem dCN_init_25 : gD mCN_init 25 (.aload_n 0) 1 26 := ⟨by decide +kernel, rfl⟩
theorem dCN_init_26 : gD mCN_init 26 (.iload 5) 2 28 := ⟨by decide +kernel, rfl⟩
theorem dCN_init_28 : gD mCN_init 28 (.putfield 24) 3 31 := ⟨by decide +kernel, rfl⟩
theorem dCN_init_31 : decode mCN_init.2.1 31 = .ok (.return_, 1) := by decide +kernel
theorem dCN_errorIn_0 : gD mCN_errorIn 0 (.aload_n 0) 1 1 := ⟨by decide +kernel, rfl⟩
theorem dCN_errorIn_1 : gD mCN_errorIn 1 (.getfield 18) 3 4 := ⟨by decide +kernel, rfl⟩
theorem dCN_errorIn_4 : gD mCN_errorIn 4 (.aload_n 1) 1 5 := ⟨by decide +kernel, rfl⟩
theorem dCN_errorIn_5 : gD mCN_errorIn 5 (.aload_n 0) 1 6 := ⟨by decide +kernel, rfl⟩
theorem dCN_errorIn_6 : gD mCN_errorIn 6 (.getfield 9) 3 9 := ⟨by decide +kernel, rfl⟩
theorem dCN_errorIn_9 : gD mCN_errorIn 9 (.iaload) 1 10 := ⟨by decide +kernel, rfl⟩
theorem dCN_errorIn_10 : gD mCN_errorIn 10 (.aload_n 1) 1 11 := ⟨by decide +kernel, rfl⟩
theorem dCN_errorIn_11 : gD mCN_errorIn 11 (.aload_n 0) 1 12 := ⟨by decide +kernel, rfl⟩
theorem dCN_errorIn_12 : gD mCN_errorIn 12 (.getfield 15) 3 15 := ⟨by decide +kernel, rfl⟩
theorem dCN_errorIn_15 : gD mCN_errorIn 15 (.iaload) 1 16 := ⟨by decide +kernel, rfl⟩
theorem dCN_errorIn_16 : gD mCN_errorIn 16 (.isub) 1 17 := ⟨by decide +kernel, rfl⟩
theorem dCN_errorIn_17 : gD mCN_errorIn 17 (.isub) 1 18 := ⟨by decide +kernel, rfl⟩
theorem dCN_errorIn_18 : gD mCN_errorIn 18 (.istore_n 2) 1 19 := ⟨by decide +kernel, rfl⟩
theorem dCN_errorIn_19 : gD mCN_errorIn 19 (.aload_n 0) 1 20 := ⟨by decide +kernel, rfl⟩
theorem dCN_errorIn_20 : gD mCN_errorIn 20 (.getfield 21) 3 23 := ⟨by decide +kernel, rfl⟩
theorem dCN_errorIn_23 : gB mCN_errorIn 23 (.ifCond .ne 10) 10 33 26 := ⟨by decide +kernel, by decide, rfl⟩
theorem dCN_errorIn_26 : gD mCN_errorIn 26 (.iload_n 2) 1 27 := ⟨by decide +kernel, rfl⟩
theorem dCN_errorIn_27 : gD mCN_errorIn 27 (.invokestatic 27) 3 30 := ⟨by decide +kernel, rfl⟩
theorem dCN_errorIn_30 : gB mCN_errorIn 30 (.goto 8) 8 38 33 := ⟨by decide +kernel, by decide, rfl⟩
theorem dCN_errorIn_33 : gD mCN_errorIn 33 (.iconst 0) 1 34 := ⟨by decide +kernel, rfl⟩
theorem dCN_errorIn_34 : gD mCN_errorIn 34 (.iload_n 2) 1 35 := ⟨by decide +kernel, rfl⟩
theorem dCN_errorIn_35 : gD mCN_errorIn 35 (.invokestatic 33) 3 38 := ⟨by decide +kernel, rfl⟩
theorem dCN_errorIn_38 : decode mCN_errorIn.2.1 38 = .ok (.ireturn, 1) := by decide +kernel
theorem dCN_demandIn_0 : gD mCN_demandIn 0 (.aload_n 0) 1 1 := ⟨by decide +kernel, rfl⟩
theorem dCN_demandIn_1 : gD mCN_demandIn 1 (.getfield 21) 3 4 := ⟨by decide +kernel, rfl⟩
theorem dCN_demandIn_4 : gB mCN_demandIn 4 (.ifCond .ne 22) 22 26 7 := ⟨by decide +kernel, by decide, rfl⟩
theorem dCN_demandIn_7 : gD mCN_demandIn 7 (.aload_n 1) 1 8 := ⟨by decide +kernel, rfl⟩
theorem dCN_demandIn_8 : gD mCN_demandIn 8 (.aload_n 0) 1 9 := ⟨by decide +kernel, rfl⟩
theorem dCN_demandIn_9 : gD mCN_demandIn 9 (.getfield 9) 3 12 := ⟨by decide +kernel, rfl⟩
theorem dCN_demandIn_12 : gD mCN_demandIn 12 (.aload_n 0) 1 13 := ⟨by decide +kernel, rfl⟩
theorem dCN_demandIn_13 : gD mCN_demandIn 13 (.getfield 15) 3 16 := ⟨by decide +kernel, rfl⟩
theorem dCN_demandIn_16 : gD mCN_demandIn 16 (.aload_n 0) 1 17 := ⟨by decide +kernel, rfl⟩
theorem dCN_demandIn_17 : gD mCN_demandIn 17 (.getfield 18) 3 20 := ⟨by decide +kernel, rfl⟩
theorem dCN_demandIn_20 : gD mCN_demandIn 20 (.invokevirtual 37) 3 23 := ⟨by decide +kernel, rfl⟩
theorem dCN_demandIn_23 : gB mCN_demandIn 23 (.goto 19) 19 42 26 := ⟨by decide +kernel, by decide, rfl⟩
theorem dCN_demandIn_26 : gD mCN_demandIn 26 (.aload_n 1) 1 27 := ⟨by decide +kernel, rfl⟩
theorem dCN_demandIn_27 : gD mCN_demandIn 27 (.aload_n 0) 1 28 := ⟨by decide +kernel, rfl⟩
theorem dCN_demandIn_28 : gD mCN_demandIn 28 (.getfield 9) 3 31 := ⟨by decide +kernel, rfl⟩
theorem dCN_demandIn_31 : gD mCN_demandIn 31 (.aload_n 0) 1 32 := ⟨by decide +kernel, rfl⟩
theorem dCN_demandIn_32 : gD mCN_demandIn 32 (.getfield 15) 3 35 := ⟨by decide +kernel, rfl⟩
theorem dCN_demandIn_35 : gD mCN_demandIn 35 (.aload_n 0) 1 36 := ⟨by decide +kernel, rfl⟩
theorem dCN_demandIn_36 : gD mCN_demandIn 36 (.getfield 18) 3 39 := ⟨by decide +kernel, rfl⟩
theorem dCN_demandIn_39 : gD mCN_demandIn 39 (.invokevirtual 43) 3 42 := ⟨by decide +kernel, rfl⟩
theorem dCN_demandIn_42 : decode mCN_demandIn.2.1 42 = .ok (.return_, 1) := by decide +kernel
theorem dCN_leastErrorIn_0 : gD mCN_leastErrorIn 0 (.aload_n 0) 1 1 := ⟨by decide +kernel, rfl⟩
theorem dCN_leastErrorIn_1 : gD mCN_leastErrorIn 1 (.getfield 21) 3 4 := ⟨by decide +kernel, rfl⟩
theorem dCN_leastErrorIn_4 : gB mCN_leastErrorIn 4 (.ifCond .ne 23) 23 27 7 := ⟨by decide +kernel, by decide, rfl⟩
theorem dCN_leastErrorIn_7 : gD mCN_leastErrorIn 7 (.aload_n 1) 1 8 := ⟨by decide +kernel, rfl⟩
theorem dCN_leastErrorIn_8 : gD mCN_leastErrorIn 8 (.aload_n 0) 1 9 := ⟨by decide +kernel, rfl⟩
theorem dCN_leastErrorIn_9 : gD mCN_leastErrorIn 9 (.getfield 9) 3 12 := ⟨by decide +kernel, rfl⟩
theorem dCN_leastErrorIn_12 : gD mCN_leastErrorIn 12 (.aload_n 0) 1 13 := ⟨by decide +kernel, rfl⟩
theorem dCN_leastErrorIn_13 : gD mCN_leastErrorIn 13 (.getfield 15) 3 16 := ⟨by decide +kernel, rfl⟩
theorem dCN_leastErrorIn_16 : gD mCN_leastErrorIn 16 (.aload_n 0) 1 17 := ⟨by decide +kernel, rfl⟩
theorem dCN_leastErrorIn_17 : gD mCN_leastErrorIn 17 (.getfield 18) 3 20 := ⟨by decide +kernel, rfl⟩
theorem dCN_leastErrorIn_20 : gD mCN_leastErrorIn 20 (.invokevirtual 46) 3 23 := ⟨by decide +kernel, rfl⟩
theorem dCN_leastErrorIn_23 : gD mCN_leastErrorIn 23 (.pop) 1 24 := ⟨by decide +kernel, rfl⟩
theorem dCN_leastErrorIn_24 : gB mCN_leastErrorIn 24 (.goto 34) 34 58 27 := ⟨by decide +kernel, by decide, rfl⟩
theorem dCN_leastErrorIn_27 : gD mCN_leastErrorIn 27 (.aload_n 1) 1 28 := ⟨by decide +kernel, rfl⟩
theorem dCN_leastErrorIn_28 : gD mCN_leastErrorIn 28 (.aload_n 0) 1 29 := ⟨by decide +kernel, rfl⟩
theorem dCN_leastErrorIn_29 : gD mCN_leastErrorIn 29 (.getfield 9) 3 32 := ⟨by decide +kernel, rfl⟩
theorem dCN_leastErrorIn_32 : gD mCN_leastErrorIn 32 (.aload_n 0) 1 33 := ⟨by decide +kernel, rfl⟩
theorem dCN_leastErrorIn_33 : gD mCN_leastErrorIn 33 (.getfield 15) 3 36 := ⟨by decide +kernel, rfl⟩
theorem dCN_leastErrorIn_36 : gD mCN_leastErrorIn 36 (.aload_n 0) 1 37 := ⟨by decide +kernel, rfl⟩
theorem dCN_leastErrorIn_37 : gD mCN_leastErrorIn 37 (.getfield 18) 3 40 := ⟨by decide +kernel, rfl⟩
theorem dCN_leastErrorIn_40 : gD mCN_leastErrorIn 40 (.aload_n 1) 1 41 := ⟨by decide +kernel, rfl⟩
theorem dCN_leastErrorIn_41 : gD mCN_leastErrorIn 41 (.aload_n 0) 1 42 := ⟨by decide +kernel, rfl⟩
theorem dCN_leastErrorIn_42 : gD mCN_leastErrorIn 42 (.getfield 9) 3 45 := ⟨by decide +kernel, rfl⟩
theorem dCN_leastErrorIn_45 : gD mCN_leastErrorIn 45 (.aload_n 0) 1 46 := ⟨by decide +kernel, rfl⟩
theorem dCN_leastErrorIn_46 : gD mCN_leastErrorIn 46 (.getfield 15) 3 49 := ⟨by decide +kernel, rfl⟩
theorem dCN_leastErrorIn_49 : gD mCN_leastErrorIn 49 (.invokevirtual 50) 3 52 := ⟨by decide +kernel, rfl⟩
theorem dCN_leastErrorIn_52 : gD mCN_leastErrorIn 52 (.invokestatic 53) 3 55 := ⟨by decide +kernel, rfl⟩
theorem dCN_leastErrorIn_55 : gD mCN_leastErrorIn 55 (.invokevirtual 43) 3 58 := ⟨by decide +kernel, rfl⟩
theorem dCN_leastErrorIn_58 : decode mCN_leastErrorIn.2.1 58 = .ok (.return_, 1) := by decide +kernel
theorem dSC_init_0 : gD mSC_init 0 (.aload_n 0) 1 1 := ⟨by decide +kernel, rfl⟩
theorem dSC_init_1 : gD mSC_init 1 (.invokespecial 3) 3 4 := ⟨by decide +kernel, rfl⟩
theorem dSC_init_4 : gD mSC_init 4 (.aload_n 0) 1 5 := ⟨by decide +kernel, rfl⟩
theorem dSC_init_5 : gD mSC_init 5 (.sipush 384) 3 8 := ⟨by decide +kernel, rfl⟩
theorem dSC_init_8 : gD mSC_init 8 (.newarray .int) 2 10 := ⟨by decide +kernel, rfl⟩
theorem dSC_init_10 : gD mSC_init 10 (.putfield 9) 3 13 := ⟨by decide +kernel, rfl⟩
theorem dSC_init_13 : gD mSC_init 13 (.aload_n 0) 1 14 := ⟨by decide +kernel, rfl⟩
theorem dSC_init_14 : gD mSC_init 14 (.sipush 384) 3 17 := ⟨by decide +kernel, rfl⟩
theorem dSC_init_17 : gD mSC_init 17 (.newarray .boolean) 2 19 := ⟨by decide +kernel, rfl⟩
theorem dSC_init_19 : gD mSC_init 19 (.putfield 15) 3 22 := ⟨by decide +kernel, rfl⟩
theorem dSC_init_22 : decode mSC_init.2.1 22 = .ok (.return_, 1) := by decide +kernel
theorem dSC_pointOf_0 : gD mSC_pointOf 0 (.iload_n 1) 1 1 := ⟨by decide +kernel, rfl⟩
theorem dSC_pointOf_1 : gD mSC_pointOf 1 (.bipush 24) 2 3 := ⟨by decide +kernel, rfl⟩
theorem dSC_pointOf_3 : gD mSC_pointOf 3 (.imul) 1 4 := ⟨by decide +kernel, rfl⟩
theorem dSC_pointOf_4 : gD mSC_pointOf 4 (.iload_n 0) 1 5 := ⟨by decide +kernel, rfl⟩
theorem dSC_pointOf_5 : gD mSC_pointOf 5 (.iadd) 1 6 := ⟨by decide +kernel, rfl⟩
theorem dSC_pointOf_6 : decode mSC_pointOf.2.1 6 = .ok (.ireturn, 1) := by decide +kernel
theorem dSC_damageArea_0 : gD mSC_damageArea 0 (.iconst 0) 1 1 := ⟨by decide +kernel, rfl⟩
theorem dSC_damageArea_1 : gD mSC_damageArea 1 (.istore_n 2) 1 2 := ⟨by decide +kernel, rfl⟩
theorem dSC_damageArea_2 : gD mSC_damageArea 2 (.iload_n 2) 1 3 := ⟨by decide +kernel, rfl⟩
theorem dSC_damageArea_3 : gD mSC_damageArea 3 (.bipush 16) 2 5 := ⟨by decide +kernel, rfl⟩
theorem dSC_damageArea_5 : gB mSC_damageArea 5 (.if_icmp .ge 43) 43 48 8 := ⟨by decide +kernel, by decide, rfl⟩
theorem dSC_damageArea_8 : gD mSC_damageArea 8 (.iconst 0) 1 9 := ⟨by decide +kernel, rfl⟩
theorem dSC_damageArea_9 : gD mSC_damageArea 9 (.istore_n 3) 1 10 := ⟨by decide +kernel, rfl⟩
theorem dSC_damageArea_10 : gD mSC_damageArea 10 (.iload_n 3) 1 11 := ⟨by decide +kernel, rfl⟩
theorem dSC_damageArea_11 : gD mSC_damageArea 11 (.bipush 24) 2 13 := ⟨by decide +kernel, rfl⟩
theorem dSC_damageArea_13 : gB mSC_damageArea 13 (.if_icmp .ge 29) 29 42 16 := ⟨by decide +kernel, by decide, rfl⟩
theorem dSC_damageArea_16 : gD mSC_damageArea 16 (.aload_n 1) 1 17 := ⟨by decide +kernel, rfl⟩
theorem dSC_damageArea_17 : gD mSC_damageArea 17 (.iload_n 3) 1 18 := ⟨by decide +kernel, rfl⟩
theorem dSC_damageArea_18 : gD mSC_damageArea 18 (.iload_n 2) 1 19 := ⟨by decide +kernel, rfl⟩
theorem dSC_damageArea_19 : gD mSC_damageArea 19 (.invokevirtual 19) 3 22 := ⟨by decide +kernel, rfl⟩
theorem dSC_damageArea_22 : gB mSC_damageArea 22 (.ifCond .eq 14) 14 36 25 := ⟨by decide +kernel, by decide, rfl⟩
theorem dSC_damageArea_25 : gD mSC_damageArea 25 (.aload_n 0) 1 26 := ⟨by decide +kernel, rfl⟩
theorem dSC_damageArea_26 : gD mSC_damageArea 26 (.getfield 15) 3 29 := ⟨by decide +kernel, rfl⟩
theorem dSC_damageArea_29 : gD mSC_damageArea 29 (.iload_n 3) 1 30 := ⟨by decide +kernel, rfl⟩
theorem dSC_damageArea_30 : gD mSC_damageArea 30 (.iload_n 2) 1 31 := ⟨by decide +kernel, rfl⟩
theorem dSC_damageArea_31 : gD mSC_damageArea 31 (.invokestatic 25) 3 34 := ⟨by decide +kernel, rfl⟩
theorem dSC_damageArea_34 : gD mSC_damageArea 34 (.iconst 1) 1 35 := ⟨by decide +kernel, rfl⟩
theorem dSC_damageArea_35 : gD mSC_damageArea 35 (.bastore) 1 36 := ⟨by decide +kernel, rfl⟩
theorem dSC_damageArea_36 : gD mSC_damageArea 36 (.iinc 3 1) 3 39 := ⟨by decide +kernel, rfl⟩
theorem dSC_damageArea_39 : gB mSC_damageArea 39 (.goto (-29)) (-29) 10 42 := ⟨by decide +kernel, by decide, rfl⟩
theorem dSC_damageArea_42 : gD mSC_damageArea 42 (.iinc 2 1) 3 45 := ⟨by decide +kernel, rfl⟩
theorem dSC_damageArea_45 : gB mSC_damageArea 45 (.goto (-43)) (-43) 2 48 := ⟨by decide +kernel, by decide, rfl⟩
theorem dSC_damageArea_48 : decode mSC_damageArea.2.1 48 = .ok (.return_, 1) := by decide +kernel
theorem dSC_damagedPoints_0 : gD mSC_damagedPoints 0 (.iconst 0) 1 1 := ⟨by decide +kernel, rfl⟩
theorem dSC_damagedPoints_1 : gD mSC_damagedPoints 1 (.istore_n 1) 1 2 := ⟨by decide +kernel, rfl⟩
theorem dSC_damagedPoints_2 : gD mSC_damagedPoints 2 (.iconst 0) 1 3 := ⟨by decide +kernel, rfl⟩
theorem dSC_damagedPoints_3 : gD mSC_damagedPoints 3 (.istore_n 2) 1 4 := ⟨by decide +kernel, rfl⟩
theorem dSC_damagedPoints_4 : gD mSC_damagedPoints 4 (.iload_n 2) 1 5 := ⟨by decide +kernel, rfl⟩
theorem dSC_damagedPoints_5 : gD mSC_damagedPoints 5 (.aload_n 0) 1 6 := ⟨by decide +kernel, rfl⟩
theorem dSC_damagedPoints_6 : gD mSC_damagedPoints 6 (.getfield 15) 3 9 := ⟨by decide +kernel, rfl⟩
theorem dSC_damagedPoints_9 : gD mSC_damagedPoints 9 (.arraylength) 1 10 := ⟨by decide +kernel, rfl⟩
theorem dSC_damagedPoints_10 : gB mSC_damagedPoints 10 (.if_icmp .ge 21) 21 31 13 := ⟨by decide +kernel, by decide, rfl⟩
theorem dSC_damagedPoints_13 : gD mSC_damagedPoints 13 (.aload_n 0) 1 14 := ⟨by decide +kernel, rfl⟩
theorem dSC_damagedPoints_14 : gD mSC_damagedPoints 14 (.getfield 15) 3 17 := ⟨by decide +kernel, rfl⟩
theorem dSC_damagedPoints_17 : gD mSC_damagedPoints 17 (.iload_n 2) 1 18 := ⟨by decide +kernel, rfl⟩
theorem dSC_damagedPoints_18 : gD mSC_damagedPoints 18 (.baload) 1 19 := ⟨by decide +kernel, rfl⟩
theorem dSC_damagedPoints_19 : gB mSC_damagedPoints 19 (.ifCond .eq 6) 6 25 22 := ⟨by decide +kernel, by decide, rfl⟩
theorem dSC_damagedPoints_22 : gD mSC_damagedPoints 22 (.iinc 1 1) 3 25 := ⟨by decide +kernel, rfl⟩
theorem dSC_damagedPoints_25 : gD mSC_damagedPoints 25 (.iinc 2 1) 3 28 := ⟨by decide +kernel, rfl⟩
theorem dSC_damagedPoints_28 : gB mSC_damagedPoints 28 (.goto (-24)) (-24) 4 31 := ⟨by decide +kernel, by decide, rfl⟩
theorem dSC_damagedPoints_31 : gD mSC_damagedPoints 31 (.iload_n 1) 1 32 := ⟨by decide +kernel, rfl⟩
theorem dSC_damagedPoints_32 : decode mSC_damagedPoints.2.1 32 = .ok (.ireturn, 1) := by decide +kernel
theorem dSC_isDamaged_0 : gD mSC_isDamaged 0 (.aload_n 0) 1 1 := ⟨by decide +kernel, rfl⟩
theorem dSC_isDamaged_1 : gD mSC_isDamaged 1 (.getfield 15) 3 4 := ⟨by decide +kernel, rfl⟩
theorem dSC_isDamaged_4 : gD mSC_isDamaged 4 (.iload_n 1) 1 5 := ⟨by decide +kernel, rfl⟩
theorem dSC_isDamaged_5 : gD mSC_isDamaged 5 (.iload_n 2) 1 6 := ⟨by decide +kernel, rfl⟩
theorem dSC_isDamaged_6 : gD mSC_isDamaged 6 (.invokestatic 25) 3 9 := ⟨by decide +kernel, rfl⟩
theorem dSC_isDamaged_9 : gD mSC_isDamaged 9 (.baload) 1 10 := ⟨by decide +kernel, rfl⟩
theorem dSC_isDamaged_10 : decode mSC_isDamaged.2.1 10 = .ok (.ireturn, 1) := by decide +kernel
theorem dSC_frameAt_0 : gD mSC_frameAt 0 (.aload_n 0) 1 1 := ⟨by decide +kernel, rfl⟩
theorem dSC_frameAt_1 : gD mSC_frameAt 1 (.getfield 9) 3 4 := ⟨by decide +kernel, rfl⟩
theorem dSC_frameAt_4 : gD mSC_frameAt 4 (.iload_n 1) 1 5 := ⟨by decide +kernel, rfl⟩
theorem dSC_frameAt_5 : gD mSC_frameAt 5 (.iload_n 2) 1 6 := ⟨by decide +kernel, rfl⟩
theorem dSC_frameAt_6 : gD mSC_frameAt 6 (.invokestatic 25) 3 9 := ⟨by decide +kernel, rfl⟩
theorem dSC_frameAt_9 : gD mSC_frameAt 9 (.iaload) 1 10 := ⟨by decide +kernel, rfl⟩
theorem dSC_frameAt_10 : decode mSC_frameAt.2.1 10 = .ok (.ireturn, 1) := by decide +kernel
theorem dSC_repair_0 : gD mSC_repair 0 (.iload_n 1) 1 1 := ⟨by decide +kernel, rfl⟩
theorem dSC_repair_1 : gD mSC_repair 1 (.iload_n 2) 1 2 := ⟨by decide +kernel, rfl⟩
theorem dSC_repair_2 : gD mSC_repair 2 (.invokestatic 25) 3 5 := ⟨by decide +kernel, rfl⟩
theorem dSC_repair_5 : gD mSC_repair 5 (.istore 4) 2 7 := ⟨by decide +kernel, rfl⟩
theorem dSC_repair_7 : gD mSC_repair 7 (.aload_n 0) 1 8 := ⟨by decide +kernel, rfl⟩
theorem dSC_repair_8 : gD mSC_repair 8 (.getfield 9) 3 11 := ⟨by decide +kernel, rfl⟩
theorem dSC_repair_11 : gD mSC_repair 11 (.iload 4) 2 13 := ⟨by decide +kernel, rfl⟩
theorem dSC_repair_13 : gD mSC_repair 13 (.iaload) 1 14 := ⟨by decide +kernel, rfl⟩
theorem dSC_repair_14 : gD mSC_repair 14 (.iload_n 3) 1 15 := ⟨by decide +kernel, rfl⟩
theorem dSC_repair_15 : gB mSC_repair 15 (.if_icmp .eq 7) 7 22 18 := ⟨by decide +kernel, by decide, rfl⟩
theorem dSC_repair_18 : gD mSC_repair 18 (.iconst 1) 1 19 := ⟨by decide +kernel, rfl⟩
theorem dSC_repair_19 : gB mSC_repair 19 (.goto 4) 4 23 22 := ⟨by decide +kernel, by decide, rfl⟩
theorem dSC_repair_22 : gD mSC_repair 22 (.iconst 0) 1 23 := ⟨by decide +kernel, rfl⟩
theorem dSC_repair_23 : gD mSC_repair 23 (.istore 5) 2 25 := ⟨by decide +kernel, rfl⟩
theorem dSC_repair_25 : gD mSC_repair 25 (.aload_n 0) 1 26 := ⟨by decide +kernel, rfl⟩
theorem dSC_repair_26 : gD mSC_repair 26 (.getfield 9) 3 29 := ⟨by decide +kernel, rfl⟩
theorem dSC_repair_29 : gD mSC_repair 29 (.iload 4) 2 31 := ⟨by decide +kernel, rfl⟩
theorem dSC_repair_31 : gD mSC_repair 31 (.iload_n 3) 1 32 := ⟨by decide +kernel, rfl⟩
theorem dSC_repair_32 : gD mSC_repair 32 (.iastore) 1 33 := ⟨by decide +kernel, rfl⟩
theorem dSC_repair_33 : gD mSC_repair 33 (.aload_n 0) 1 34 := ⟨by decide +kernel, rfl⟩
theorem dSC_repair_34 : gD mSC_repair 34 (.getfield 15) 3 37 := ⟨by decide +kernel, rfl⟩
theorem dSC_repair_37 : gD mSC_repair 37 (.iload 4) 2 39 := ⟨by decide +kernel, rfl⟩
theorem dSC_repair_39 : gD mSC_repair 39 (.iconst 0) 1 40 := ⟨by decide +kernel, rfl⟩
theorem dSC_repair_40 : gD mSC_repair 40 (.bastore) 1 41 := ⟨by decide +kernel, rfl⟩
theorem dSC_repair_41 : gD mSC_repair 41 (.iload 5) 2 43 := ⟨by decide +kernel, rfl⟩
theorem dSC_repair_43 : decode mSC_repair.2.1 43 = .ok (.ireturn, 1) := by decide +kernel
theorem dJF_fill_0 : gD mJF_fill 0 (.iconst 0) 1 1 := ⟨by decide +kernel, rfl⟩
theorem dJF_fill_1 : gD mJF_fill 1 (.istore_n 2) 1 2 := ⟨by decide +kernel, rfl⟩
theorem dJF_fill_2 : gD mJF_fill 2 (.aload_n 0) 1 3 := ⟨by decide +kernel, rfl⟩
theorem dJF_fill_3 : gD mJF_fill 3 (.arraylength) 1 4 := ⟨by decide +kernel, rfl⟩
theorem dJF_fill_4 : gD mJF_fill 4 (.istore_n 3) 1 5 := ⟨by decide +kernel, rfl⟩
theorem dJF_fill_5 : gD mJF_fill 5 (.iload_n 2) 1 6 := ⟨by decide +kernel, rfl⟩
theorem dJF_fill_6 : gD mJF_fill 6 (.iload_n 3) 1 7 := ⟨by decide +kernel, rfl⟩
theorem dJF_fill_7 : gB mJF_fill 7 (.if_icmp .ge 13) 13 20 10 := ⟨by decide +kernel, by decide, rfl⟩
theorem dJF_fill_10 : gD mJF_fill 10 (.aload_n 0) 1 11 := ⟨by decide +kernel, rfl⟩
theorem dJF_fill_11 : gD mJF_fill 11 (.iload_n 2) 1 12 := ⟨by decide +kernel, rfl⟩
theorem dJF_fill_12 : gD mJF_fill 12 (.iload_n 1) 1 13 := ⟨by decide +kernel, rfl⟩
theorem dJF_fill_13 : gD mJF_fill 13 (.iastore) 1 14 := ⟨by decide +kernel, rfl⟩
theorem dJF_fill_14 : gD mJF_fill 14 (.iinc 2 1) 3 17 := ⟨by decide +kernel, rfl⟩
theorem dJF_fill_17 : gB mJF_fill 17 (.goto (-12)) (-12) 5 20 := ⟨by decide +kernel, by decide, rfl⟩
theorem dJF_fill_20 : decode mJF_fill.2.1 20 = .ok (.return_, 1) := by decide +kernel
theorem dJM_floorMod_0 : gD mJM_floorMod 0 (.iload_n 0) 1 1 := ⟨by decide +kernel, rfl⟩
theorem dJM_floorMod_1 : gD mJM_floorMod 1 (.iload_n 1) 1 2 := ⟨by decide +kernel, rfl⟩
theorem dJM_floorMod_2 : gD mJM_floorMod 2 (.irem) 1 3 := ⟨by decide +kernel, rfl⟩
theorem dJM_floorMod_3 : gD mJM_floorMod 3 (.istore_n 2) 1 4 := ⟨by decide +kernel, rfl⟩
theorem dJM_floorMod_4 : gD mJM_floorMod 4 (.iload_n 0) 1 5 := ⟨by decide +kernel, rfl⟩
theorem dJM_floorMod_5 : gD mJM_floorMod 5 (.iload_n 1) 1 6 := ⟨by decide +kernel, rfl⟩
theorem dJM_floorMod_6 : gD mJM_floorMod 6 (.ixor) 1 7 := ⟨by decide +kernel, rfl⟩
theorem dJM_floorMod_7 : gB mJM_floorMod 7 (.ifCond .ge 11) 11 18 10 := ⟨by decide +kernel, by decide, rfl⟩
theorem dJM_floorMod_10 : gD mJM_floorMod 10 (.iload_n 2) 1 11 := ⟨by decide +kernel, rfl⟩
theorem dJM_floorMod_11 : gB mJM_floorMod 11 (.ifCond .eq 7) 7 18 14 := ⟨by decide +kernel, by decide, rfl⟩
theorem dJM_floorMod_14 : gD mJM_floorMod 14 (.iload_n 2) 1 15 := ⟨by decide +kernel, rfl⟩
theorem dJM_floorMod_15 : gD mJM_floorMod 15 (.iload_n 1) 1 16 := ⟨by decide +kernel, rfl⟩
theorem dJM_floorMod_16 : gD mJM_floorMod 16 (.iadd) 1 17 := ⟨by decide +kernel, rfl⟩
theorem dJM_floorMod_17 : decode mJM_floorMod.2.1 17 = .ok (.ireturn, 1) := by decide +kernel
theorem dJM_floorMod_18 : gD mJM_floorMod 18 (.iload_n 2) 1 19 := ⟨by decide +kernel, rfl⟩
theorem dJM_floorMod_19 : decode mJM_floorMod.2.1 19 = .ok (.ireturn, 1) := by decide +kernel
end
section
theorem dBD_init_0 : gD mBD_init 0 (.aload_n 0) 1 1 := ⟨by decide +kernel, rfl⟩
theorem dBD_init_1 : gD mBD_init 1 (.invokespecial 3) 3 4 := ⟨by decide +kernel, rfl⟩
theorem dBD_init_4 : gD mBD_init 4 (.aload_n 0) 1 5 := ⟨by decide +kernel, rfl⟩
theorem dBD_init_5 : gD mBD_init 5 (.bipush 24) 2 7 := ⟨by decide +kernel, rfl⟩
theorem dBD_init_7 : gD mBD_init 7 (.bipush 24) 2 9 := ⟨by decide +kernel, rfl⟩
theorem dBD_init_9 : gD mBD_init 9 (.multianewarray 9 2) 4 13 := ⟨by decide +kernel, rfl⟩
theorem dBD_init_13 : gD mBD_init 13 (.putfield 11) 3 16 := ⟨by decide +kernel, rfl⟩
theorem dBD_init_16 : decode mBD_init.2.1 16 = .ok (.return_, 1) := by decide +kernel
theorem dBD_open_0 : gD mBD_open 0 (.aload_n 0) 1 1 := ⟨by decide +kernel, rfl⟩
theorem dBD_open_1 : gD mBD_open 1 (.iload_n 1) 1 2 := ⟨by decide +kernel, rfl⟩
theorem dBD_open_2 : gD mBD_open 2 (.bipush 24) 2 4 := ⟨by decide +kernel, rfl⟩
theorem dBD_open_4 : gD mBD_open 4 (.invokestatic 16) 3 7 := ⟨by decide +kernel, rfl⟩
theorem dBD_open_7 : gD mBD_open 7 (.putfield 22) 3 10 := ⟨by decide +kernel, rfl⟩
theorem dBD_open_10 : gD mBD_open 10 (.aload_n 0) 1 11 := ⟨by decide +kernel, rfl⟩
theorem dBD_open_11 : gD mBD_open 11 (.iconst 0) 1 12 := ⟨by decide +kernel, rfl⟩
theorem dBD_open_12 : gD mBD_open 12 (.putfield 26) 3 15 := ⟨by decide +kernel, rfl⟩
theorem dBD_open_15 : gD mBD_open 15 (.iconst 0) 1 16 := ⟨by decide +kernel, rfl⟩
theorem dBD_open_16 : gD mBD_open 16 (.istore_n 2) 1 17 := ⟨by decide +kernel, rfl⟩
theorem dBD_open_17 : gD mBD_open 17 (.iload_n 2) 1 18 := ⟨by decide +kernel, rfl⟩
theorem dBD_open_18 : gD mBD_open 18 (.aload_n 0) 1 19 := ⟨by decide +kernel, rfl⟩
theorem dBD_open_19 : gD mBD_open 19 (.getfield 22) 3 22 := ⟨by decide +kernel, rfl⟩
theorem dBD_open_22 : gB mBD_open 22 (.if_icmp .ge 29) 29 51 25 := ⟨by decide +kernel, by decide, rfl⟩
theorem dBD_open_25 : gD mBD_open 25 (.aload_n 0) 1 26 := ⟨by decide +kernel, rfl⟩
theorem dBD_open_26 : gD mBD_open 26 (.getfield 11) 3 29 := ⟨by decide +kernel, rfl⟩
theorem dBD_open_29 : gD mBD_open 29 (.iload_n 2) 1 30 := ⟨by decide +kernel, rfl⟩
theorem dBD_open_30 : gD mBD_open 30 (.aaload) 1 31 := ⟨by decide +kernel, rfl⟩
theorem dBD_open_31 : gD mBD_open 31 (.ldc 30) 2 33 := ⟨by decide +kernel, rfl⟩
theorem dBD_open_33 : gD mBD_open 33 (.invokestatic 31) 3 36 := ⟨by decide +kernel, rfl⟩
theorem dBD_open_36 : gD mBD_open 36 (.aload_n 0) 1 37 := ⟨by decide +kernel, rfl⟩
theorem dBD_open_37 : gD mBD_open 37 (.getfield 11) 3 40 := ⟨by decide +kernel, rfl⟩
theorem dBD_open_40 : gD mBD_open 40 (.iload_n 2) 1 41 := ⟨by decide +kernel, rfl⟩
theorem dBD_open_41 : gD mBD_open 41 (.aaload) 1 42 := ⟨by decide +kernel, rfl⟩
theorem dBD_open_42 : gD mBD_open 42 (.iload_n 2) 1 43 := ⟨by decide +kernel, rfl⟩
theorem dBD_open_43 : gD mBD_open 43 (.iconst 0) 1 44 := ⟨by decide +kernel, rfl⟩
theorem dBD_open_44 : gD mBD_open 44 (.iastore) 1 45 := ⟨by decide +kernel, rfl⟩
theorem dBD_open_45 : gD mBD_open 45 (.iinc 2 1) 3 48 := ⟨by decide +kernel, rfl⟩
theorem dBD_open_48 : gB mBD_open 48 (.goto (-31)) (-31) 17 51 := ⟨by decide +kernel, by decide, rfl⟩
theorem dBD_open_51 : decode mBD_open.2.1 51 = .ok (.return_, 1) := by decide +kernel
theorem dBD_highest_0 : gD mBD_highest 0 (.aload_n 0) 1 1 := ⟨by decide +kernel, rfl⟩
theorem dBD_highest_1 : gD mBD_highest 1 (.getfield 11) 3 4 := ⟨by decide +kernel, rfl⟩
theorem dBD_highest_4 : gD mBD_highest 4 (.iload_n 2) 1 5 := ⟨by decide +kernel, rfl⟩
theorem dBD_highest_5 : gD mBD_highest 5 (.aaload) 1 6 := ⟨by decide +kernel, rfl⟩
theorem dBD_highest_6 : gD mBD_highest 6 (.iload_n 1) 1 7 := ⟨by decide +kernel, rfl⟩
theorem dBD_highest_7 : gD mBD_highest 7 (.iaload) 1 8 := ⟨by decide +kernel, rfl⟩
theorem dBD_highest_8 : decode mBD_highest.2.1 8 = .ok (.ireturn, 1) := by decide +kernel
theorem dBD_lowest_0 : gD mBD_lowest 0 (.aload_n 0) 1 1 := ⟨by decide +kernel, rfl⟩
theorem dBD_lowest_1 : gD mBD_lowest 1 (.getfield 11) 3 4 := ⟨by decide +kernel, rfl⟩
theorem dBD_lowest_4 : gD mBD_lowest 4 (.iload_n 1) 1 5 := ⟨by decide +kernel, rfl⟩
theorem dBD_lowest_5 : gD mBD_lowest 5 (.aaload) 1 6 := ⟨by decide +kernel, rfl⟩
theorem dBD_lowest_6 : gD mBD_lowest 6 (.iload_n 2) 1 7 := ⟨by decide +kernel, rfl⟩
theorem dBD_lowest_7 : gD mBD_lowest 7 (.iaload) 1 8 := ⟨by decide +kernel, rfl⟩
theorem dBD_lowest_8 : gD mBD_lowest 8 (.ineg) 1 9 := ⟨by decide +kernel, rfl⟩
theorem dBD_lowest_9 : decode mBD_lowest.2.1 9 = .ok (.ireturn, 1) := by decide +kernel
theorem dBD_fix_0 : gD mBD_fix 0 (.aload_n 0) 1 1 := ⟨by decide +kernel, rfl⟩
theorem dBD_fix_1 : gD mBD_fix 1 (.iload_n 1) 1 2 := ⟨by decide +kernel, rfl⟩
theorem dBD_fix_2 : gD mBD_fix 2 (.iload_n 2) 1 3 := ⟨by decide +kernel, rfl⟩
theorem dBD_fix_3 : gD mBD_fix 3 (.iload_n 3) 1 4 := ⟨by decide +kernel, rfl⟩
theorem dBD_fix_4 : gD mBD_fix 4 (.invokevirtual 37) 3 7 := ⟨by decide +kernel, rfl⟩
theorem dBD_fix_7 : gD mBD_fix 7 (.aload_n 0) 1 8 := ⟨by decide +kernel, rfl⟩
theorem dBD_fix_8 : gD mBD_fix 8 (.iload_n 2) 1 9 := ⟨by decide +kernel, rfl⟩
theorem dBD_fix_9 : gD mBD_fix 9 (.iload_n 1) 1 10 := ⟨by decide +kernel, rfl⟩
theorem dBD_fix_10 : gD mBD_fix 10 (.iload_n 3) 1 11 := ⟨by decide +kernel, rfl⟩
theorem dBD_fix_11 : gD mBD_fix 11 (.ineg) 1 12 := ⟨by decide +kernel, rfl⟩
theorem dBD_fix_12 : gD mBD_fix 12 (.invokevirtual 37) 3 15 := ⟨by decide +kernel, rfl⟩
theorem dBD_fix_15 : decode mBD_fix.2.1 15 = .ok (.return_, 1) := by decide +kernel
theorem dBD_fixNear_0 : gD mBD_fixNear 0 (.iload_n 3) 1 1 := ⟨by decide +kernel, rfl⟩
theorem dBD_fixNear_1 : gD mBD_fixNear 1 (.aload_n 0) 1 2 := ⟨by decide +kernel, rfl⟩
theorem dBD_fixNear_2 : gD mBD_fixNear 2 (.iload_n 1) 1 3 := ⟨by decide +kernel, rfl⟩
theorem dBD_fixNear_3 : gD mBD_fixNear 3 (.iload_n 2) 1 4 := ⟨by decide +kernel, rfl⟩
theorem dBD_fixNear_4 : gD mBD_fixNear 4 (.invokevirtual 41) 3 7 := ⟨by decide +kernel, rfl⟩
theorem dBD_fixNear_7 : gD mBD_fixNear 7 (.aload_n 0) 1 8 := ⟨by decide +kernel, rfl⟩
theorem dBD_fixNear_8 : gD mBD_fixNear 8 (.iload_n 1) 1 9 := ⟨by decide +kernel, rfl⟩
theorem dBD_fixNear_9 : gD mBD_fixNear 9 (.iload_n 2) 1 10 := ⟨by decide +kernel, rfl⟩
theorem dBD_fixNear_10 : gD mBD_fixNear 10 (.invokevirtual 44) 3 13 := ⟨by decide +kernel, rfl⟩
theorem dBD_fixNear_13 : gD mBD_fixNear 13 (.invokestatic 47) 3 16 := ⟨by decide +kernel, rfl⟩
theorem dBD_fixNear_16 : gD mBD_fixNear 16 (.istore 4) 2 18 := ⟨by decide +kernel, rfl⟩
theorem dBD_fixNear_18 : gD mBD_fixNear 18 (.aload_n 0) 1 19 := ⟨by decide +kernel, rfl⟩
theorem dBD_fixNear_19 : gD mBD_fixNear 19 (.iload_n 1) 1 20 := ⟨by decide +kernel, rfl⟩
theorem dBD_fixNear_20 : gD mBD_fixNear 20 (.iload_n 2) 1 21 := ⟨by decide +kernel, rfl⟩
theorem dBD_fixNear_21 : gD mBD_fixNear 21 (.iload 4) 2 23 := ⟨by decide +kernel, rfl⟩
theorem dBD_fixNear_23 : gD mBD_fixNear 23 (.invokevirtual 37) 3 26 := ⟨by decide +kernel, rfl⟩
theorem dBD_fixNear_26 : gD mBD_fixNear 26 (.aload_n 0) 1 27 := ⟨by decide +kernel, rfl⟩
theorem dBD_fixNear_27 : gD mBD_fixNear 27 (.iload_n 2) 1 28 := ⟨by decide +kernel, rfl⟩
theorem dBD_fixNear_28 : gD mBD_fixNear 28 (.iload_n 1) 1 29 := ⟨by decide +kernel, rfl⟩
theorem dBD_fixNear_29 : gD mBD_fixNear 29 (.iload 4) 2 31 := ⟨by decide +kernel, rfl⟩
theorem dBD_fixNear_31 : gD mBD_fixNear 31 (.ineg) 1 32 := ⟨by decide +kernel, rfl⟩
theorem dBD_fixNear_32 : gD mBD_fixNear 32 (.invokevirtual 37) 3 35 := ⟨by decide +kernel, rfl⟩
theorem dBD_fixNear_35 : gD mBD_fixNear 35 (.iload 4) 2 37 := ⟨by decide +kernel, rfl⟩
theorem dBD_fixNear_37 : decode mBD_fixNear.2.1 37 = .ok (.ireturn, 1) := by decide +kernel
theorem dBD_keepAtLeast_0 : gD mBD_keepAtLeast 0 (.aload_n 0) 1 1 := ⟨by decide +kernel, rfl⟩
theorem dBD_keepAtLeast_1 : gD mBD_keepAtLeast 1 (.iload_n 2) 1 2 := ⟨by decide +kernel, rfl⟩
theorem dBD_keepAtLeast_2 : gD mBD_keepAtLeast 2 (.iload_n 1) 1 3 := ⟨by decide +kernel, rfl⟩
theorem dBD_keepAtLeast_3 : gD mBD_keepAtLeast 3 (.iload_n 3) 1 4 := ⟨by decide +kernel, rfl⟩
theorem dBD_keepAtLeast_4 : gD mBD_keepAtLeast 4 (.ineg) 1 5 := ⟨by decide +kernel, rfl⟩
theorem dBD_keepAtLeast_5 : gD mBD_keepAtLeast 5 (.invokevirtual 37) 3 8 := ⟨by decide +kernel, rfl⟩
theorem dBD_keepAtLeast_8 : decode mBD_keepAtLeast.2.1 8 = .ok (.return_, 1) := by decide +kernel
theorem dBD_keepAtMost_0 : gD mBD_keepAtMost 0 (.iload_n 3) 1 1 := ⟨by decide +kernel, rfl⟩
theorem dBD_keepAtMost_1 : gD mBD_keepAtMost 1 (.aload_n 0) 1 2 := ⟨by decide +kernel, rfl⟩
theorem dBD_keepAtMost_2 : gD mBD_keepAtMost 2 (.getfield 11) 3 5 := ⟨by decide +kernel, rfl⟩
theorem dBD_keepAtMost_5 : gD mBD_keepAtMost 5 (.iload_n 2) 1 6 := ⟨by decide +kernel, rfl⟩
theorem dBD_keepAtMost_6 : gD mBD_keepAtMost 6 (.aaload) 1 7 := ⟨by decide +kernel, rfl⟩
theorem dBD_keepAtMost_7 : gD mBD_keepAtMost 7 (.iload_n 1) 1 8 := ⟨by decide +kernel, rfl⟩
theorem dBD_keepAtMost_8 : gD mBD_keepAtMost 8 (.iaload) 1 9 := ⟨by decide +kernel, rfl⟩
theorem dBD_keepAtMost_9 : gB mBD_keepAtMost 9 (.if_icmp .lt 4) 4 13 12 := ⟨by decide +kernel, by decide, rfl⟩
theorem dBD_keepAtMost_12 : decode mBD_keepAtMost.2.1 12 = .ok (.return_, 1) := by decide +kernel
theorem dBD_keepAtMost_13 : gD mBD_keepAtMost 13 (.iload_n 3) 1 14 := ⟨by decide +kernel, rfl⟩
theorem dBD_keepAtMost_14 : gD mBD_keepAtMost 14 (.aload_n 0) 1 15 := ⟨by decide +kernel, rfl⟩
theorem dBD_keepAtMost_15 : gD mBD_keepAtMost 15 (.getfield 11) 3 18 := ⟨by decide +kernel, rfl⟩
theorem dBD_keepAtMost_18 : gD mBD_keepAtMost 18 (.iload_n 1) 1 19 := ⟨by decide +kernel, rfl⟩
theorem dBD_keepAtMost_19 : gD mBD_keepAtMost 19 (.aaload) 1 20 := ⟨by decide +kernel, rfl⟩
theorem dBD_keepAtMost_20 : gD mBD_keepAtMost 20 (.iload_n 2) 1 21 := ⟨by decide +kernel, rfl⟩
theorem dBD_keepAtMost_21 : gD mBD_keepAtMost 21 (.iaload) 1 22 := ⟨by decide +kernel, rfl⟩
theorem dBD_keepAtMost_22 : gD mBD_keepAtMost 22 (.ineg) 1 23 := ⟨by decide +kernel, rfl⟩
theorem dBD_keepAtMost_23 : gB mBD_keepAtMost 23 (.if_icmp .ge 9) 9 32 26 := ⟨by decide +kernel, by decide, rfl⟩
theorem dBD_keepAtMost_26 : gD mBD_keepAtMost 26 (.aload_n 0) 1 27 := ⟨by decide +kernel, rfl⟩
theorem dBD_keepAtMost_27 : gD mBD_keepAtMost 27 (.iconst 1) 1 28 := ⟨by decide +kernel, rfl⟩
theorem dBD_keepAtMost_28 : gD mBD_keepAtMost 28 (.putfield 26) 3 31 := ⟨by decide +kernel, rfl⟩
theorem dBD_keepAtMost_31 : decode mBD_keepAtMost.2.1 31 = .ok (.return_, 1) := by decide +kernel
theorem dBD_keepAtMost_32 : gD mBD_keepAtMost 32 (.iconst 0) 1 33 := ⟨by decide +kernel, rfl⟩
theorem dBD_keepAtMost_33 : gD mBD_keepAtMost 33 (.istore 4) 2 35 := ⟨by decide +kernel, rfl⟩
theorem dBD_keepAtMost_35 : gD mBD_keepAtMost 35 (.iload 4) 2 37 := ⟨by decide +kernel, rfl⟩
theorem dBD_keepAtMost_37 : gD mBD_keepAtMost 37 (.aload_n 0) 1 38 := ⟨by decide +kernel, rfl⟩
theorem dBD_keepAtMost_38 : gD mBD_keepAtMost 38 (.getfield 22) 3 41 := ⟨by decide +kernel, rfl⟩
theorem dBD_keepAtMost_41 : gB mBD_keepAtMost 41 (.if_icmp .ge 132) 132 173 44 := ⟨by decide +kernel, by decide, rfl⟩
theorem dBD_keepAtMost_44 : gD mBD_keepAtMost 44 (.aload_n 0) 1 45 := ⟨by decide +kernel, rfl⟩
theorem dBD_keepAtMost_45 : gD mBD_keepAtMost 45 (.getfield 11) 3 48 := ⟨by decide +kernel, rfl⟩
theorem dBD_keepAtMost_48 : gD mBD_keepAtMost 48 (.iload 4) 2 50 := ⟨by decide +kernel, rfl⟩
theorem dBD_keepAtMost_50 : gD mBD_keepAtMost 50 (.aaload) 1 51 := ⟨by decide +kernel, rfl⟩
theorem dBD_keepAtMost_51 : gD mBD_keepAtMost 51 (.iload_n 2) 1 52 := ⟨by decide +kernel, rfl⟩
theorem dBD_keepAtMost_52 : gD mBD_keepAtMost 52 (.iaload) 1 53 := ⟨by decide +kernel, rfl⟩
theorem dBD_keepAtMost_53 : gD mBD_keepAtMost 53 (.iload_n 3) 1 54 := ⟨by decide +kernel, rfl⟩
theorem dBD_keepAtMost_54 : gD mBD_keepAtMost 54 (.iadd) 1 55 := ⟨by decide +kernel, rfl⟩
theorem dBD_keepAtMost_55 : gD mBD_keepAtMost 55 (.istore 5) 2 57 := ⟨by decide +kernel, rfl⟩
theorem dBD_keepAtMost_57 : gD mBD_keepAtMost 57 (.aload_n 0) 1 58 := ⟨by decide +kernel, rfl⟩
theorem dBD_keepAtMost_58 : gD mBD_keepAtMost 58 (.getfield 11) 3 61 := ⟨by decide +kernel, rfl⟩
theorem dBD_keepAtMost_61 : gD mBD_keepAtMost 61 (.iload 4) 2 63 := ⟨by decide +kernel, rfl⟩
theorem dBD_keepAtMost_63 : gD mBD_keepAtMost 63 (.aaload) 1 64 := ⟨by decide +kernel, rfl⟩
theorem dBD_keepAtMost_64 : gD mBD_keepAtMost 64 (.iload_n 2) 1 65 := ⟨by decide +kernel, rfl⟩
theorem dBD_keepAtMost_65 : gD mBD_keepAtMost 65 (.iaload) 1 66 := ⟨by decide +kernel, rfl⟩
theorem dBD_keepAtMost_66 : gD mBD_keepAtMost 66 (.ldc 30) 2 68 := ⟨by decide +kernel, rfl⟩
theorem dBD_keepAtMost_68 : gB mBD_keepAtMost 68 (.if_icmp .ge 99) 99 167 71 := ⟨by decide +kernel, by decide, rfl⟩
theorem dBD_keepAtMost_71 : gD mBD_keepAtMost 71 (.iload 5) 2 73 := ⟨by decide +kernel, rfl⟩
theorem dBD_keepAtMost_73 : gD mBD_keepAtMost 73 (.aload_n 0) 1 74 := ⟨by decide +kernel, rfl⟩
theorem dBD_keepAtMost_74 : gD mBD_keepAtMost 74 (.getfield 11) 3 77 := ⟨by decide +kernel, rfl⟩
theorem dBD_keepAtMost_77 : gD mBD_keepAtMost 77 (.iload 4) 2 79 := ⟨by decide +kernel, rfl⟩
theorem dBD_keepAtMost_79 : gD mBD_keepAtMost 79 (.aaload) 1 80 := ⟨by decide +kernel, rfl⟩
theorem dBD_keepAtMost_80 : gD mBD_keepAtMost 80 (.iload_n 1) 1 81 := ⟨by decide +kernel, rfl⟩
theorem dBD_keepAtMost_81 : gD mBD_keepAtMost 81 (.iaload) 1 82 := ⟨by decide +kernel, rfl⟩
theorem dBD_keepAtMost_82 : gB mBD_keepAtMost 82 (.if_icmp .lt 6) 6 88 85 := ⟨by decide +kernel, by decide, rfl⟩
theorem dBD_keepAtMost_85 : gB mBD_keepAtMost 85 (.goto 82) 82 167 88 := ⟨by decide +kernel, by decide, rfl⟩
theorem dBD_keepAtMost_88 : gD mBD_keepAtMost 88 (.iconst 0) 1 89 := ⟨by decide +kernel, rfl⟩
theorem dBD_keepAtMost_89 : gD mBD_keepAtMost 89 (.istore 6) 2 91 := ⟨by decide +kernel, rfl⟩
theorem dBD_keepAtMost_91 : gD mBD_keepAtMost 91 (.iload 6) 2 93 := ⟨by decide +kernel, rfl⟩
theorem dBD_keepAtMost_93 : gD mBD_keepAtMost 93 (.aload_n 0) 1 94 := ⟨by decide +kernel, rfl⟩
theorem dBD_keepAtMost_94 : gD mBD_keepAtMost 94 (.getfield 22) 3 97 := ⟨by decide +kernel, rfl⟩
theorem dBD_keepAtMost_97 : gB mBD_keepAtMost 97 (.if_icmp .ge 70) 70 167 100 := ⟨by decide +kernel, by decide, rfl⟩
theorem dBD_keepAtMost_100 : gD mBD_keepAtMost 100 (.aload_n 0) 1 101 := ⟨by decide +kernel, rfl⟩
theorem dBD_keepAtMost_101 : gD mBD_keepAtMost 101 (.getfield 11) 3 104 := ⟨by decide +kernel, rfl⟩
theorem dBD_keepAtMost_104 : gD mBD_keepAtMost 104 (.iload_n 1) 1 105 := ⟨by decide +kernel, rfl⟩
theorem dBD_keepAtMost_105 : gD mBD_keepAtMost 105 (.aaload) 1 106 := ⟨by decide +kernel, rfl⟩
theorem dBD_keepAtMost_106 : gD mBD_keepAtMost 106 (.iload 6) 2 108 := ⟨by decide +kernel, rfl⟩
theorem dBD_keepAtMost_108 : gD mBD_keepAtMost 108 (.iaload) 1 109 := ⟨by decide +kernel, rfl⟩
theorem dBD_keepAtMost_109 : gD mBD_keepAtMost 109 (.ldc 30) 2 111 := ⟨by decide +kernel, rfl⟩
theorem dBD_keepAtMost_111 : gB mBD_keepAtMost 111 (.if_icmp .ge 50) 50 161 114 := ⟨by decide +kernel, by decide, rfl⟩
theorem dBD_keepAtMost_114 : gD mBD_keepAtMost 114 (.iload 5) 2 116 := ⟨by decide +kernel, rfl⟩
theorem dBD_keepAtMost_116 : gD mBD_keepAtMost 116 (.aload_n 0) 1 117 := ⟨by decide +kernel, rfl⟩
theorem dBD_keepAtMost_117 : gD mBD_keepAtMost 117 (.getfield 11) 3 120 := ⟨by decide +kernel, rfl⟩
theorem dBD_keepAtMost_120 : gD mBD_keepAtMost 120 (.iload_n 1) 1 121 := ⟨by decide +kernel, rfl⟩
theorem dBD_keepAtMost_121 : gD mBD_keepAtMost 121 (.aaload) 1 122 := ⟨by decide +kernel, rfl⟩
theorem dBD_keepAtMost_122 : gD mBD_keepAtMost 122 (.iload 6) 2 124 := ⟨by decide +kernel, rfl⟩
theorem dBD_keepAtMost_124 : gD mBD_keepAtMost 124 (.iaload) 1 125 := ⟨by decide +kernel, rfl⟩
theorem dBD_keepAtMost_125 : gD mBD_keepAtMost 125 (.iadd) 1 126 := ⟨by decide +kernel, rfl⟩
theorem dBD_keepAtMost_126 : gD mBD_keepAtMost 126 (.aload_n 0) 1 127 := ⟨by decide +kernel, rfl⟩
theorem dBD_keepAtMost_127 : gD mBD_keepAtMost 127 (.getfield 11) 3 130 := ⟨by decide +kernel, rfl⟩
theorem dBD_keepAtMost_130 : gD mBD_keepAtMost 130 (.iload 4) 2 132 := ⟨by decide +kernel, rfl⟩
theorem dBD_keepAtMost_132 : gD mBD_keepAtMost 132 (.aaload) 1 133 := ⟨by decide +kernel, rfl⟩
theorem dBD_keepAtMost_133 : gD mBD_keepAtMost 133 (.iload 6) 2 135 := ⟨by decide +kernel, rfl⟩
theorem dBD_keepAtMost_135 : gD mBD_keepAtMost 135 (.iaload) 1 136 := ⟨by decide +kernel, rfl⟩
theorem dBD_keepAtMost_136 : gB mBD_keepAtMost 136 (.if_icmp .ge 25) 25 161 139 := ⟨by decide +kernel, by decide, rfl⟩
theorem dBD_keepAtMost_139 : gD mBD_keepAtMost 139 (.aload_n 0) 1 140 := ⟨by decide +kernel, rfl⟩
theorem dBD_keepAtMost_140 : gD mBD_keepAtMost 140 (.getfield 11) 3 143 := ⟨by decide +kernel, rfl⟩
theorem dBD_keepAtMost_143 : gD mBD_keepAtMost 143 (.iload 4) 2 145 := ⟨by decide +kernel, rfl⟩
theorem dBD_keepAtMost_145 : gD mBD_keepAtMost 145 (.aaload) 1 146 := ⟨by decide +kernel, rfl⟩
theorem dBD_keepAtMost_146 : gD mBD_keepAtMost 146 (.iload 6) 2 148 := ⟨by decide +kernel, rfl⟩
theorem dBD_keepAtMost_148 : gD mBD_keepAtMost 148 (.iload 5) 2 150 := ⟨by decide +kernel, rfl⟩
theorem dBD_keepAtMost_150 : gD mBD_keepAtMost 150 (.aload_n 0) 1 151 := ⟨by decide +kernel, rfl⟩
theorem dBD_keepAtMost_151 : gD mBD_keepAtMost 151 (.getfield 11) 3 154 := ⟨by decide +kernel, rfl⟩
theorem dBD_keepAtMost_154 : gD mBD_keepAtMost 154 (.iload_n 1) 1 155 := ⟨by decide +kernel, rfl⟩
theorem dBD_keepAtMost_155 : gD mBD_keepAtMost 155 (.aaload) 1 156 := ⟨by decide +kernel, rfl⟩
theorem dBD_keepAtMost_156 : gD mBD_keepAtMost 156 (.iload 6) 2 158 := ⟨by decide +kernel, rfl⟩
theorem dBD_keepAtMost_158 : gD mBD_keepAtMost 158 (.iaload) 1 159 := ⟨by decide +kernel, rfl⟩
theorem dBD_keepAtMost_159 : gD mBD_keepAtMost 159 (.iadd) 1 160 := ⟨by decide +kernel, rfl⟩
theorem dBD_keepAtMost_160 : gD mBD_keepAtMost 160 (.iastore) 1 161 := ⟨by decide +kernel, rfl⟩
theorem dBD_keepAtMost_161 : gD mBD_keepAtMost 161 (.iinc 6 1) 3 164 := ⟨by decide +kernel, rfl⟩
theorem dBD_keepAtMost_164 : gB mBD_keepAtMost 164 (.goto (-73)) (-73) 91 167 := ⟨by decide +kernel, by decide, rfl⟩
theorem dBD_keepAtMost_167 : gD mBD_keepAtMost 167 (.iinc 4 1) 3 170 := ⟨by decide +kernel, rfl⟩
theorem dBD_keepAtMost_170 : gB mBD_keepAtMost 170 (.goto (-135)) (-135) 35 173 := ⟨by decide +kernel, by decide, rfl⟩
theorem dBD_keepAtMost_173 : decode mBD_keepAtMost.2.1 173 = .ok (.return_, 1) := by decide +kernel
end
section
theorem dDV_init_0 : gD mDV_init 0 (.aload_n 0) 1 1 := ⟨by decide +kernel, rfl⟩
theorem dDV_init_1 : gD mDV_init 1 (.invokespecial 3) 3 4 := ⟨by decide +kernel, rfl⟩
theorem dDV_init_4 : gD mDV_init 4 (.aload_n 0) 1 5 := ⟨by decide +kernel, rfl⟩
theorem dDV_init_5 : gD mDV_init 5 (.new 9) 3 8 := ⟨by decide +kernel, rfl⟩
theorem dDV_init_8 : gD mDV_init 8 (.dup) 1 9 := ⟨by decide +kernel, rfl⟩
theorem dDV_init_9 : gD mDV_init 9 (.invokespecial 11) 3 12 := ⟨by decide +kernel, rfl⟩
theorem dDV_init_12 : gD mDV_init 12 (.putfield 12) 3 15 := ⟨by decide +kernel, rfl⟩
theorem dDV_init_15 : gD mDV_init 15 (.aload_n 0) 1 16 := ⟨by decide +kernel, rfl⟩
theorem dDV_init_16 : gD mDV_init 16 (.bipush 6) 2 18 := ⟨by decide +kernel, rfl⟩
theorem dDV_init_18 : gD mDV_init 18 (.anewarray 16) 3 21 := ⟨by decide +kernel, rfl⟩
theorem dDV_init_21 : gD mDV_init 21 (.putfield 18) 3 24 := ⟨by decide +kernel, rfl⟩
theorem dDV_init_24 : gD mDV_init 24 (.aload_n 0) 1 25 := ⟨by decide +kernel, rfl⟩
theorem dDV_init_25 : gD mDV_init 25 (.bipush 6) 2 27 := ⟨by decide +kernel, rfl⟩
theorem dDV_init_27 : gD mDV_init 27 (.anewarray 16) 3 30 := ⟨by decide +kernel, rfl⟩
theorem dDV_init_30 : gD mDV_init 30 (.putfield 22) 3 33 := ⟨by decide +kernel, rfl⟩
theorem dDV_init_33 : gD mDV_init 33 (.aload_n 0) 1 34 := ⟨by decide +kernel, rfl⟩
theorem dDV_init_34 : gD mDV_init 34 (.new 25) 3 37 := ⟨by decide +kernel, rfl⟩
theorem dDV_init_37 : gD mDV_init 37 (.dup) 1 38 := ⟨by decide +kernel, rfl⟩
theorem dDV_init_38 : gD mDV_init 38 (.iload_n 1) 1 39 := ⟨by decide +kernel, rfl⟩
theorem dDV_init_39 : gD mDV_init 39 (.iconst 1) 1 40 := ⟨by decide +kernel, rfl⟩
theorem dDV_init_40 : gD mDV_init 40 (.bipush 24) 2 42 := ⟨by decide +kernel, rfl⟩
theorem dDV_init_42 : gD mDV_init 42 (.invokestatic 27) 3 45 := ⟨by decide +kernel, rfl⟩
theorem dDV_init_45 : gD mDV_init 45 (.iload_n 2) 1 46 := ⟨by decide +kernel, rfl⟩
theorem dDV_init_46 : gD mDV_init 46 (.iconst 1) 1 47 := ⟨by decide +kernel, rfl⟩
theorem dDV_init_47 : gD mDV_init 47 (.bipush 16) 2 49 := ⟨by decide +kernel, rfl⟩
theorem dDV_init_49 : gD mDV_init 49 (.invokestatic 27) 3 52 := ⟨by decide +kernel, rfl⟩
theorem dDV_init_52 : gD mDV_init 52 (.invokespecial 31) 3 55 := ⟨by decide +kernel, rfl⟩
theorem dDV_init_55 : gD mDV_init 55 (.putfield 34) 3 58 := ⟨by decide +kernel, rfl⟩
theorem dDV_init_58 : gD mDV_init 58 (.aload_n 0) 1 59 := ⟨by decide +kernel, rfl⟩
theorem dDV_init_59 : gD mDV_init 59 (.iconst 0) 1 60 := ⟨by decide +kernel, rfl⟩
theorem dDV_init_60 : gD mDV_init 60 (.aconst_null) 1 61 := ⟨by decide +kernel, rfl⟩
theorem dDV_init_61 : gD mDV_init 61 (.invokevirtual 38) 3 64 := ⟨by decide +kernel, rfl⟩
theorem dDV_init_64 : gD mDV_init 64 (.pop) 1 65 := ⟨by decide +kernel, rfl⟩
theorem dDV_init_65 : gD mDV_init 65 (.aload_n 0) 1 66 := ⟨by decide +kernel, rfl⟩
theorem dDV_init_66 : gD mDV_init 66 (.invokevirtual 42) 3 69 := ⟨by decide +kernel, rfl⟩
theorem dDV_init_69 : decode mDV_init.2.1 69 = .ok (.return_, 1) := by decide +kernel
theorem dDV_box_0 : gD mDV_box 0 (.aload_n 0) 1 1 := ⟨by decide +kernel, rfl⟩
theorem dDV_box_1 : gD mDV_box 1 (.getfield 45) 3 4 := ⟨by decide +kernel, rfl⟩
theorem dDV_box_4 : gD mDV_box 4 (.bipush 6) 2 6 := ⟨by decide +kernel, rfl⟩
theorem dDV_box_6 : gB mDV_box 6 (.if_icmp .ge 20) 20 26 9 := ⟨by decide +kernel, by decide, rfl⟩
theorem dDV_box_9 : gD mDV_box 9 (.iload_n 1) 1 10 := ⟨by decide +kernel, rfl⟩
theorem dDV_box_10 : gB mDV_box 10 (.ifCond .lt 16) 16 26 13 := ⟨by decide +kernel, by decide, rfl⟩
theorem dDV_box_13 : gD mDV_box 13 (.iload_n 1) 1 14 := ⟨by decide +kernel, rfl⟩
theorem dDV_box_14 : gD mDV_box 14 (.iconst 2) 1 15 := ⟨by decide +kernel, rfl⟩
theorem dDV_box_15 : gB mDV_box 15 (.if_icmp .gt 11) 11 26 18 := ⟨by decide +kernel, by decide, rfl⟩
theorem dDV_box_18 : gD mDV_box 18 (.aload_n 0) 1 19 := ⟨by decide +kernel, rfl⟩
theorem dDV_box_19 : gD mDV_box 19 (.iload_n 2) 1 20 := ⟨by decide +kernel, rfl⟩
theorem dDV_box_20 : gD mDV_box 20 (.invokevirtual 49) 3 23 := ⟨by decide +kernel, rfl⟩
theorem dDV_box_23 : gB mDV_box 23 (.ifCond .ne 5) 5 28 26 := ⟨by decide +kernel, by decide, rfl⟩
theorem dDV_box_26 : gD mDV_box 26 (.iconst (-1)) 1 27 := ⟨by decide +kernel, rfl⟩
theorem dDV_box_27 : decode mDV_box.2.1 27 = .ok (.ireturn, 1) := by decide +kernel
theorem dDV_box_28 : gD mDV_box 28 (.aload_n 0) 1 29 := ⟨by decide +kernel, rfl⟩
theorem dDV_box_29 : gD mDV_box 29 (.iload_n 1) 1 30 := ⟨by decide +kernel, rfl⟩
theorem dDV_box_30 : gD mDV_box 30 (.aload_n 0) 1 31 := ⟨by decide +kernel, rfl⟩
theorem dDV_box_31 : gD mDV_box 31 (.getfield 18) 3 34 := ⟨by decide +kernel, rfl⟩
theorem dDV_box_34 : gD mDV_box 34 (.iload_n 2) 1 35 := ⟨by decide +kernel, rfl⟩
theorem dDV_box_35 : gD mDV_box 35 (.aaload) 1 36 := ⟨by decide +kernel, rfl⟩
theorem dDV_box_36 : gD mDV_box 36 (.invokevirtual 38) 3 39 := ⟨by decide +kernel, rfl⟩
theorem dDV_box_39 : decode mDV_box.2.1 39 = .ok (.ireturn, 1) := by decide +kernel
theorem dDV_constrain_0 : gD mDV_constrain 0 (.aload_n 0) 1 1 := ⟨by decide +kernel, rfl⟩
theorem dDV_constrain_1 : gD mDV_constrain 1 (.getfield 34) 3 4 := ⟨by decide +kernel, rfl⟩
theorem dDV_constrain_4 : gD mDV_constrain 4 (.iload_n 1) 1 5 := ⟨by decide +kernel, rfl⟩
theorem dDV_constrain_5 : gD mDV_constrain 5 (.iload_n 2) 1 6 := ⟨by decide +kernel, rfl⟩
theorem dDV_constrain_6 : gD mDV_constrain 6 (.invokevirtual 53) 3 9 := ⟨by decide +kernel, rfl⟩
theorem dDV_constrain_9 : gB mDV_constrain 9 (.ifCond .eq 32) 32 41 12 := ⟨by decide +kernel, by decide, rfl⟩
theorem dDV_constrain_12 : gD mDV_constrain 12 (.iload_n 3) 1 13 := ⟨by decide +kernel, rfl⟩
theorem dDV_constrain_13 : gD mDV_constrain 13 (.invokestatic 57) 3 16 := ⟨by decide +kernel, rfl⟩
theorem dDV_constrain_16 : gB mDV_constrain 16 (.ifCond .eq 25) 25 41 19 := ⟨by decide +kernel, by decide, rfl⟩
theorem dDV_constrain_19 : gD mDV_constrain 19 (.iload 4) 2 21 := ⟨by decide +kernel, rfl⟩
theorem dDV_constrain_21 : gB mDV_constrain 21 (.ifCond .lt 20) 20 41 24 := ⟨by decide +kernel, by decide, rfl⟩
theorem dDV_constrain_24 : gD mDV_constrain 24 (.iload 4) 2 26 := ⟨by decide +kernel, rfl⟩
theorem dDV_constrain_26 : gD mDV_constrain 26 (.iconst 1) 1 27 := ⟨by decide +kernel, rfl⟩
theorem dDV_constrain_27 : gB mDV_constrain 27 (.if_icmp .gt 14) 14 41 30 := ⟨by decide +kernel, by decide, rfl⟩
theorem dDV_constrain_30 : gD mDV_constrain 30 (.iload 5) 2 32 := ⟨by decide +kernel, rfl⟩
theorem dDV_constrain_32 : gB mDV_constrain 32 (.ifCond .lt 9) 9 41 35 := ⟨by decide +kernel, by decide, rfl⟩
theorem dDV_constrain_35 : gD mDV_constrain 35 (.iload 5) 2 37 := ⟨by decide +kernel, rfl⟩
theorem dDV_constrain_37 : gD mDV_constrain 37 (.iconst 3) 1 38 := ⟨by decide +kernel, rfl⟩
theorem dDV_constrain_38 : gB mDV_constrain 38 (.if_icmp .le 5) 5 43 41 := ⟨by decide +kernel, by decide, rfl⟩
theorem dDV_constrain_41 : gD mDV_constrain 41 (.iconst (-1)) 1 42 := ⟨by decide +kernel, rfl⟩
theorem dDV_constrain_42 : decode mDV_constrain.2.1 42 = .ok (.ireturn, 1) := by decide +kernel
theorem dDV_constrain_43 : gD mDV_constrain 43 (.aload_n 0) 1 44 := ⟨by decide +kernel, rfl⟩
theorem dDV_constrain_44 : gD mDV_constrain 44 (.getfield 34) 3 47 := ⟨by decide +kernel, rfl⟩
theorem dDV_constrain_47 : gD mDV_constrain 47 (.invokevirtual 60) 3 50 := ⟨by decide +kernel, rfl⟩
theorem dDV_constrain_50 : gD mDV_constrain 50 (.istore 6) 2 52 := ⟨by decide +kernel, rfl⟩
theorem dDV_constrain_52 : gD mDV_constrain 52 (.iload 6) 2 54 := ⟨by decide +kernel, rfl⟩
theorem dDV_constrain_54 : gD mDV_constrain 54 (.iconst (-1)) 1 55 := ⟨by decide +kernel, rfl⟩
theorem dDV_constrain_55 : gB mDV_constrain 55 (.if_icmp .ne 6) 6 61 58 := ⟨by decide +kernel, by decide, rfl⟩
theorem dDV_constrain_58 : gD mDV_constrain 58 (.bipush (-2)) 2 60 := ⟨by decide +kernel, rfl⟩
theorem dDV_constrain_60 : decode mDV_constrain.2.1 60 = .ok (.ireturn, 1) := by decide +kernel
theorem dDV_constrain_61 : gD mDV_constrain 61 (.aload_n 0) 1 62 := ⟨by decide +kernel, rfl⟩
theorem dDV_constrain_62 : gD mDV_constrain 62 (.getfield 34) 3 65 := ⟨by decide +kernel, rfl⟩
theorem dDV_constrain_65 : gD mDV_constrain 65 (.iload 6) 2 67 := ⟨by decide +kernel, rfl⟩
theorem dDV_constrain_67 : gD mDV_constrain 67 (.new 64) 3 70 := ⟨by decide +kernel, rfl⟩
theorem dDV_constrain_70 : gD mDV_constrain 70 (.dup) 1 71 := ⟨by decide +kernel, rfl⟩
theorem dDV_constrain_71 : gD mDV_constrain 71 (.iload_n 1) 1 72 := ⟨by decide +kernel, rfl⟩
theorem dDV_constrain_72 : gD mDV_constrain 72 (.iload_n 2) 1 73 := ⟨by decide +kernel, rfl⟩
theorem dDV_constrain_73 : gD mDV_constrain 73 (.iload_n 3) 1 74 := ⟨by decide +kernel, rfl⟩
theorem dDV_constrain_74 : gD mDV_constrain 74 (.iload 4) 2 76 := ⟨by decide +kernel, rfl⟩
theorem dDV_constrain_76 : gD mDV_constrain 76 (.iload 5) 2 78 := ⟨by decide +kernel, rfl⟩
theorem dDV_constrain_78 : gD mDV_constrain 78 (.invokespecial 66) 3 81 := ⟨by decide +kernel, rfl⟩
theorem dDV_constrain_81 : gD mDV_constrain 81 (.invokevirtual 69) 3 84 := ⟨by decide +kernel, rfl⟩
theorem dDV_constrain_84 : gB mDV_constrain 84 (.ifCond .ne 6) 6 90 87 := ⟨by decide +kernel, by decide, rfl⟩
theorem dDV_constrain_87 : gD mDV_constrain 87 (.bipush (-3)) 2 89 := ⟨by decide +kernel, rfl⟩
theorem dDV_constrain_89 : decode mDV_constrain.2.1 89 = .ok (.ireturn, 1) := by decide +kernel
theorem dDV_constrain_90 : gD mDV_constrain 90 (.aload_n 0) 1 91 := ⟨by decide +kernel, rfl⟩
theorem dDV_constrain_91 : gD mDV_constrain 91 (.invokevirtual 42) 3 94 := ⟨by decide +kernel, rfl⟩
theorem dDV_constrain_94 : gD mDV_constrain 94 (.iload 6) 2 96 := ⟨by decide +kernel, rfl⟩
theorem dDV_constrain_96 : decode mDV_constrain.2.1 96 = .ok (.ireturn, 1) := by decide +kernel
theorem dDV_remove_0 : gD mDV_remove 0 (.aload_n 0) 1 1 := ⟨by decide +kernel, rfl⟩
theorem dDV_remove_1 : gD mDV_remove 1 (.getfield 34) 3 4 := ⟨by decide +kernel, rfl⟩
theorem dDV_remove_4 : gD mDV_remove 4 (.iload_n 1) 1 5 := ⟨by decide +kernel, rfl⟩
theorem dDV_remove_5 : gD mDV_remove 5 (.invokevirtual 73) 3 8 := ⟨by decide +kernel, rfl⟩
theorem dDV_remove_8 : gB mDV_remove 8 (.ifnonnull 5) 5 13 11 := ⟨by decide +kernel, by decide, rfl⟩
theorem dDV_remove_11 : gD mDV_remove 11 (.iconst 0) 1 12 := ⟨by decide +kernel, rfl⟩
theorem dDV_remove_12 : decode mDV_remove.2.1 12 = .ok (.ireturn, 1) := by decide +kernel
theorem dDV_remove_13 : gD mDV_remove 13 (.aload_n 0) 1 14 := ⟨by decide +kernel, rfl⟩
theorem dDV_remove_14 : gD mDV_remove 14 (.getfield 34) 3 17 := ⟨by decide +kernel, rfl⟩
theorem dDV_remove_17 : gD mDV_remove 17 (.iload_n 1) 1 18 := ⟨by decide +kernel, rfl⟩
theorem dDV_remove_18 : gD mDV_remove 18 (.invokevirtual 77) 3 21 := ⟨by decide +kernel, rfl⟩
theorem dDV_remove_21 : gD mDV_remove 21 (.aload_n 0) 1 22 := ⟨by decide +kernel, rfl⟩
theorem dDV_remove_22 : gD mDV_remove 22 (.invokevirtual 42) 3 25 := ⟨by decide +kernel, rfl⟩
theorem dDV_remove_25 : gD mDV_remove 25 (.iconst 1) 1 26 := ⟨by decide +kernel, rfl⟩
theorem dDV_remove_26 : decode mDV_remove.2.1 26 = .ok (.ireturn, 1) := by decide +kernel
theorem dDV_suggest_0 : gD mDV_suggest 0 (.aload_n 0) 1 1 := ⟨by decide +kernel, rfl⟩
theorem dDV_suggest_1 : gD mDV_suggest 1 (.getfield 34) 3 4 := ⟨by decide +kernel, rfl⟩
theorem dDV_suggest_4 : gD mDV_suggest 4 (.iload_n 1) 1 5 := ⟨by decide +kernel, rfl⟩
theorem dDV_suggest_5 : gD mDV_suggest 5 (.invokevirtual 81) 3 8 := ⟨by decide +kernel, rfl⟩
theorem dDV_suggest_8 : gB mDV_suggest 8 (.ifCond .eq 10) 10 18 11 := ⟨by decide +kernel, by decide, rfl⟩
theorem dDV_suggest_11 : gD mDV_suggest 11 (.iload_n 2) 1 12 := ⟨by decide +kernel, rfl⟩
theorem dDV_suggest_12 : gD mDV_suggest 12 (.invokestatic 57) 3 15 := ⟨by decide +kernel, rfl⟩
theorem dDV_suggest_15 : gB mDV_suggest 15 (.ifCond .ne 5) 5 20 18 := ⟨by decide +kernel, by decide, rfl⟩
theorem dDV_suggest_18 : gD mDV_suggest 18 (.iconst 0) 1 19 := ⟨by decide +kernel, rfl⟩
theorem dDV_suggest_19 : decode mDV_suggest.2.1 19 = .ok (.ireturn, 1) := by decide +kernel
theorem dDV_suggest_20 : gD mDV_suggest 20 (.aload_n 0) 1 21 := ⟨by decide +kernel, rfl⟩
theorem dDV_suggest_21 : gD mDV_suggest 21 (.getfield 34) 3 24 := ⟨by decide +kernel, rfl⟩
theorem dDV_suggest_24 : gD mDV_suggest 24 (.iload_n 1) 1 25 := ⟨by decide +kernel, rfl⟩
theorem dDV_suggest_25 : gD mDV_suggest 25 (.iload_n 2) 1 26 := ⟨by decide +kernel, rfl⟩
theorem dDV_suggest_26 : gD mDV_suggest 26 (.invokevirtual 84) 3 29 := ⟨by decide +kernel, rfl⟩
theorem dDV_suggest_29 : gD mDV_suggest 29 (.aload_n 0) 1 30 := ⟨by decide +kernel, rfl⟩
theorem dDV_suggest_30 : gD mDV_suggest 30 (.invokevirtual 42) 3 33 := ⟨by decide +kernel, rfl⟩
theorem dDV_suggest_33 : gD mDV_suggest 33 (.iconst 1) 1 34 := ⟨by decide +kernel, rfl⟩
theorem dDV_suggest_34 : decode mDV_suggest.2.1 34 = .ok (.ireturn, 1) := by decide +kernel
theorem dDV_resize_0 : gD mDV_resize 0 (.iload_n 1) 1 1 := ⟨by decide +kernel, rfl⟩
theorem dDV_resize_1 : gD mDV_resize 1 (.iconst 1) 1 2 := ⟨by decide +kernel, rfl⟩
theorem dDV_resize_2 : gB mDV_resize 2 (.if_icmp .lt 32) 32 34 5 := ⟨by decide +kernel, by decide, rfl⟩
theorem dDV_resize_5 : gD mDV_resize 5 (.iload_n 1) 1 6 := ⟨by decide +kernel, rfl⟩
theorem dDV_resize_6 : gD mDV_resize 6 (.bipush 24) 2 8 := ⟨by decide +kernel, rfl⟩
theorem dDV_resize_8 : gB mDV_resize 8 (.if_icmp .gt 26) 26 34 11 := ⟨by decide +kernel, by decide, rfl⟩
theorem dDV_resize_11 : gD mDV_resize 11 (.iload_n 2) 1 12 := ⟨by decide +kernel, rfl⟩
theorem dDV_resize_12 : gD mDV_resize 12 (.iconst 1) 1 13 := ⟨by decide +kernel, rfl⟩
theorem dDV_resize_13 : gB mDV_resize 13 (.if_icmp .lt 21) 21 34 16 := ⟨by decide +kernel, by decide, rfl⟩
theorem dDV_resize_16 : gD mDV_resize 16 (.iload_n 2) 1 17 := ⟨by decide +kernel, rfl⟩
theorem dDV_resize_17 : gD mDV_resize 17 (.bipush 16) 2 19 := ⟨by decide +kernel, rfl⟩
theorem dDV_resize_19 : gB mDV_resize 19 (.if_icmp .gt 15) 15 34 22 := ⟨by decide +kernel, by decide, rfl⟩
theorem dDV_resize_22 : gD mDV_resize 22 (.aload_n 0) 1 23 := ⟨by decide +kernel, rfl⟩
theorem dDV_resize_23 : gD mDV_resize 23 (.getfield 34) 3 26 := ⟨by decide +kernel, rfl⟩
theorem dDV_resize_26 : gD mDV_resize 26 (.iload_n 1) 1 27 := ⟨by decide +kernel, rfl⟩
theorem dDV_resize_27 : gD mDV_resize 27 (.iload_n 2) 1 28 := ⟨by decide +kernel, rfl⟩
theorem dDV_resize_28 : gD mDV_resize 28 (.invokevirtual 87) 3 31 := ⟨by decide +kernel, rfl⟩
theorem dDV_resize_31 : gB mDV_resize 31 (.ifCond .ne 5) 5 36 34 := ⟨by decide +kernel, by decide, rfl⟩
theorem dDV_resize_34 : gD mDV_resize 34 (.iconst 0) 1 35 := ⟨by decide +kernel, rfl⟩
theorem dDV_resize_35 : decode mDV_resize.2.1 35 = .ok (.ireturn, 1) := by decide +kernel
theorem dDV_resize_36 : gD mDV_resize 36 (.aload_n 0) 1 37 := ⟨by decide +kernel, rfl⟩
theorem dDV_resize_37 : gD mDV_resize 37 (.invokevirtual 42) 3 40 := ⟨by decide +kernel, rfl⟩
theorem dDV_resize_40 : gD mDV_resize 40 (.iconst 1) 1 41 := ⟨by decide +kernel, rfl⟩
theorem dDV_resize_41 : decode mDV_resize.2.1 41 = .ok (.ireturn, 1) := by decide +kernel
theorem dDV_place_0 : gD mDV_place 0 (.aload_n 0) 1 1 := ⟨by decide +kernel, rfl⟩
theorem dDV_place_1 : gD mDV_place 1 (.getfield 34) 3 4 := ⟨by decide +kernel, rfl⟩
theorem dDV_place_4 : gD mDV_place 4 (.iload_n 1) 1 5 := ⟨by decide +kernel, rfl⟩
theorem dDV_place_5 : gD mDV_place 5 (.invokevirtual 81) 3 8 := ⟨by decide +kernel, rfl⟩
theorem dDV_place_8 : gB mDV_place 8 (.ifCond .eq 15) 15 23 11 := ⟨by decide +kernel, by decide, rfl⟩
theorem dDV_place_11 : gD mDV_place 11 (.aload_n 0) 1 12 := ⟨by decide +kernel, rfl⟩
theorem dDV_place_12 : gD mDV_place 12 (.getfield 34) 3 15 := ⟨by decide +kernel, rfl⟩
theorem dDV_place_15 : gD mDV_place 15 (.getfield 90) 3 18 := ⟨by decide +kernel, rfl⟩
theorem dDV_place_18 : gD mDV_place 18 (.iload_n 1) 1 19 := ⟨by decide +kernel, rfl⟩
theorem dDV_place_19 : gD mDV_place 19 (.iaload) 1 20 := ⟨by decide +kernel, rfl⟩
theorem dDV_place_20 : gB mDV_place 20 (.goto 4) 4 24 23 := ⟨by decide +kernel, by decide, rfl⟩
theorem dDV_place_23 : gD mDV_place 23 (.iconst 0) 1 24 := ⟨by decide +kernel, rfl⟩
theorem dDV_place_24 : decode mDV_place.2.1 24 = .ok (.ireturn, 1) := by decide +kernel
theorem dDV_error_0 : gD mDV_error 0 (.aload_n 0) 1 1 := ⟨by decide +kernel, rfl⟩
theorem dDV_error_1 : gD mDV_error 1 (.getfield 34) 3 4 := ⟨by decide +kernel, rfl⟩
theorem dDV_error_4 : gD mDV_error 4 (.iload_n 1) 1 5 := ⟨by decide +kernel, rfl⟩
theorem dDV_error_5 : gD mDV_error 5 (.invokevirtual 73) 3 8 := ⟨by decide +kernel, rfl⟩
theorem dDV_error_8 : gD mDV_error 8 (.astore_n 2) 1 9 := ⟨by decide +kernel, rfl⟩
theorem dDV_error_9 : gD mDV_error 9 (.aload_n 2) 1 10 := ⟨by decide +kernel, rfl⟩
theorem dDV_error_10 : gB mDV_error 10 (.ifnonnull 7) 7 17 13 := ⟨by decide +kernel, by decide, rfl⟩
theorem dDV_error_13 : gD mDV_error 13 (.iconst (-1)) 1 14 := ⟨by decide +kernel, rfl⟩
theorem dDV_error_14 : gB mDV_error 14 (.goto 14) 14 28 17 := ⟨by decide +kernel, by decide, rfl⟩
theorem dDV_error_17 : gD mDV_error 17 (.aload_n 2) 1 18 := ⟨by decide +kernel, rfl⟩
theorem dDV_error_18 : gD mDV_error 18 (.aload_n 0) 1 19 := ⟨by decide +kernel, rfl⟩
theorem dDV_error_19 : gD mDV_error 19 (.getfield 34) 3 22 := ⟨by decide +kernel, rfl⟩
theorem dDV_error_22 : gD mDV_error 22 (.getfield 90) 3 25 := ⟨by decide +kernel, rfl⟩
theorem dDV_error_25 : gD mDV_error 25 (.invokevirtual 94) 3 28 := ⟨by decide +kernel, rfl⟩
theorem dDV_error_28 : decode mDV_error.2.1 28 = .ok (.ireturn, 1) := by decide +kernel
theorem dDV_hide_0 : gD mDV_hide 0 (.aload_n 0) 1 1 := ⟨by decide +kernel, rfl⟩
theorem dDV_hide_1 : gD mDV_hide 1 (.iload_n 1) 1 2 := ⟨by decide +kernel, rfl⟩
theorem dDV_hide_2 : gD mDV_hide 2 (.invokevirtual 98) 3 5 := ⟨by decide +kernel, rfl⟩
theorem dDV_hide_5 : gB mDV_hide 5 (.ifCond .eq 16) 16 21 8 := ⟨by decide +kernel, by decide, rfl⟩
theorem dDV_hide_8 : gD mDV_hide 8 (.aload_n 0) 1 9 := ⟨by decide +kernel, rfl⟩
theorem dDV_hide_9 : gD mDV_hide 9 (.getfield 18) 3 12 := ⟨by decide +kernel, rfl⟩
theorem dDV_hide_12 : gD mDV_hide 12 (.iload_n 1) 1 13 := ⟨by decide +kernel, rfl⟩
theorem dDV_hide_13 : gD mDV_hide 13 (.aaload) 1 14 := ⟨by decide +kernel, rfl⟩
theorem dDV_hide_14 : gD mDV_hide 14 (.getfield 101) 3 17 := ⟨by decide +kernel, rfl⟩
theorem dDV_hide_17 : gD mDV_hide 17 (.iload_n 2) 1 18 := ⟨by decide +kernel, rfl⟩
theorem dDV_hide_18 : gB mDV_hide 18 (.if_icmp .ne 5) 5 23 21 := ⟨by decide +kernel, by decide, rfl⟩
theorem dDV_hide_21 : gD mDV_hide 21 (.iconst 0) 1 22 := ⟨by decide +kernel, rfl⟩
theorem dDV_hide_22 : decode mDV_hide.2.1 22 = .ok (.ireturn, 1) := by decide +kernel
theorem dDV_hide_23 : gD mDV_hide 23 (.aload_n 0) 1 24 := ⟨by decide +kernel, rfl⟩
theorem dDV_hide_24 : gD mDV_hide 24 (.getfield 18) 3 27 := ⟨by decide +kernel, rfl⟩
theorem dDV_hide_27 : gD mDV_hide 27 (.iload_n 1) 1 28 := ⟨by decide +kernel, rfl⟩
theorem dDV_hide_28 : gD mDV_hide 28 (.aaload) 1 29 := ⟨by decide +kernel, rfl⟩
theorem dDV_hide_29 : gD mDV_hide 29 (.iload_n 2) 1 30 := ⟨by decide +kernel, rfl⟩
theorem dDV_hide_30 : gD mDV_hide 30 (.putfield 101) 3 33 := ⟨by decide +kernel, rfl⟩
theorem dDV_hide_33 : gD mDV_hide 33 (.aload_n 0) 1 34 := ⟨by decide +kernel, rfl⟩
theorem dDV_hide_34 : gD mDV_hide 34 (.invokevirtual 42) 3 37 := ⟨by decide +kernel, rfl⟩
theorem dDV_hide_37 : gD mDV_hide 37 (.iconst 1) 1 38 := ⟨by decide +kernel, rfl⟩
theorem dDV_hide_38 : decode mDV_hide.2.1 38 = .ok (.ireturn, 1) := by decide +kernel
theorem dDV_raise_0 : gD mDV_raise 0 (.aload_n 0) 1 1 := ⟨by decide +kernel, rfl⟩
theorem dDV_raise_1 : gD mDV_raise 1 (.iload_n 1) 1 2 := ⟨by decide +kernel, rfl⟩
theorem dDV_raise_2 : gD mDV_raise 2 (.invokevirtual 98) 3 5 := ⟨by decide +kernel, rfl⟩
theorem dDV_raise_5 : gB mDV_raise 5 (.ifCond .eq 16) 16 21 8 := ⟨by decide +kernel, by decide, rfl⟩
theorem dDV_raise_8 : gD mDV_raise 8 (.aload_n 0) 1 9 := ⟨by decide +kernel, rfl⟩
theorem dDV_raise_9 : gD mDV_raise 9 (.aload_n 0) 1 10 := ⟨by decide +kernel, rfl⟩
theorem dDV_raise_10 : gD mDV_raise 10 (.getfield 18) 3 13 := ⟨by decide +kernel, rfl⟩
theorem dDV_raise_13 : gD mDV_raise 13 (.iload_n 1) 1 14 := ⟨by decide +kernel, rfl⟩
theorem dDV_raise_14 : gD mDV_raise 14 (.aaload) 1 15 := ⟨by decide +kernel, rfl⟩
theorem dDV_raise_15 : gD mDV_raise 15 (.invokevirtual 105) 3 18 := ⟨by decide +kernel, rfl⟩
theorem dDV_raise_18 : gB mDV_raise 18 (.ifCond .eq 5) 5 23 21 := ⟨by decide +kernel, by decide, rfl⟩
theorem dDV_raise_21 : gD mDV_raise 21 (.iconst 0) 1 22 := ⟨by decide +kernel, rfl⟩
theorem dDV_raise_22 : decode mDV_raise.2.1 22 = .ok (.ireturn, 1) := by decide +kernel
theorem dDV_raise_23 : gD mDV_raise 23 (.aload_n 0) 1 24 := ⟨by decide +kernel, rfl⟩
theorem dDV_raise_24 : gD mDV_raise 24 (.aload_n 0) 1 25 := ⟨by decide +kernel, rfl⟩
theorem dDV_raise_25 : gD mDV_raise 25 (.getfield 18) 3 28 := ⟨by decide +kernel, rfl⟩
theorem dDV_raise_28 : gD mDV_raise 28 (.iload_n 1) 1 29 := ⟨by decide +kernel, rfl⟩
theorem dDV_raise_29 : gD mDV_raise 29 (.aaload) 1 30 := ⟨by decide +kernel, rfl⟩
theorem dDV_raise_30 : gD mDV_raise 30 (.invokevirtual 109) 3 33 := ⟨by decide +kernel, rfl⟩
theorem dDV_raise_33 : gD mDV_raise 33 (.aload_n 0) 1 34 := ⟨by decide +kernel, rfl⟩
theorem dDV_raise_34 : gD mDV_raise 34 (.getfield 12) 3 37 := ⟨by decide +kernel, rfl⟩
theorem dDV_raise_37 : gD mDV_raise 37 (.aload_n 0) 1 38 := ⟨by decide +kernel, rfl⟩
theorem dDV_raise_38 : gD mDV_raise 38 (.getfield 18) 3 41 := ⟨by decide +kernel, rfl⟩
theorem dDV_raise_41 : gD mDV_raise 41 (.iload_n 1) 1 42 := ⟨by decide +kernel, rfl⟩
theorem dDV_raise_42 : gD mDV_raise 42 (.aaload) 1 43 := ⟨by decide +kernel, rfl⟩
theorem dDV_raise_43 : gD mDV_raise 43 (.getfield 113) 3 46 := ⟨by decide +kernel, rfl⟩
theorem dDV_raise_46 : gD mDV_raise 46 (.invokevirtual 117) 3 49 := ⟨by decide +kernel, rfl⟩
theorem dDV_raise_49 : gD mDV_raise 49 (.iconst 1) 1 50 := ⟨by decide +kernel, rfl⟩
theorem dDV_raise_50 : decode mDV_raise.2.1 50 = .ok (.ireturn, 1) := by decide +kernel
theorem dDV_hit_0 : gD mDV_hit 0 (.aload_n 0) 1 1 := ⟨by decide +kernel, rfl⟩
theorem dDV_hit_1 : gD mDV_hit 1 (.iload_n 1) 1 2 := ⟨by decide +kernel, rfl⟩
theorem dDV_hit_2 : gD mDV_hit 2 (.iload_n 2) 1 3 := ⟨by decide +kernel, rfl⟩
theorem dDV_hit_3 : gD mDV_hit 3 (.invokevirtual 121) 3 6 := ⟨by decide +kernel, rfl⟩
theorem dDV_hit_6 : gD mDV_hit 6 (.invokestatic 125) 3 9 := ⟨by decide +kernel, rfl⟩
theorem dDV_hit_9 : decode mDV_hit.2.1 9 = .ok (.ireturn, 1) := by decide +kernel
theorem dDV_press_0 : gD mDV_press 0 (.aload_n 0) 1 1 := ⟨by decide +kernel, rfl⟩
theorem dDV_press_1 : gD mDV_press 1 (.getfield 129) 3 4 := ⟨by decide +kernel, rfl⟩
theorem dDV_press_4 : gB mDV_press 4 (.ifnull 6) 6 10 7 := ⟨by decide +kernel, by decide, rfl⟩
theorem dDV_press_7 : gD mDV_press 7 (.bipush (-2)) 2 9 := ⟨by decide +kernel, rfl⟩
theorem dDV_press_9 : decode mDV_press.2.1 9 = .ok (.ireturn, 1) := by decide +kernel
theorem dDV_press_10 : gD mDV_press 10 (.aload_n 0) 1 11 := ⟨by decide +kernel, rfl⟩
theorem dDV_press_11 : gD mDV_press 11 (.iload_n 1) 1 12 := ⟨by decide +kernel, rfl⟩
theorem dDV_press_12 : gD mDV_press 12 (.iload_n 2) 1 13 := ⟨by decide +kernel, rfl⟩
theorem dDV_press_13 : gD mDV_press 13 (.invokevirtual 121) 3 16 := ⟨by decide +kernel, rfl⟩
theorem dDV_press_16 : gD mDV_press 16 (.astore_n 3) 1 17 := ⟨by decide +kernel, rfl⟩
theorem dDV_press_17 : gD mDV_press 17 (.aload_n 0) 1 18 := ⟨by decide +kernel, rfl⟩
theorem dDV_press_18 : gD mDV_press 18 (.aload_n 3) 1 19 := ⟨by decide +kernel, rfl⟩
theorem dDV_press_19 : gB mDV_press 19 (.ifnull 14) 14 33 22 := ⟨by decide +kernel, by decide, rfl⟩
theorem dDV_press_22 : gD mDV_press 22 (.aload_n 3) 1 23 := ⟨by decide +kernel, rfl⟩
theorem dDV_press_23 : gD mDV_press 23 (.invokevirtual 133) 3 26 := ⟨by decide +kernel, rfl⟩
theorem dDV_press_26 : gB mDV_press 26 (.ifCond .eq 7) 7 33 29 := ⟨by decide +kernel, by decide, rfl⟩
theorem dDV_press_29 : gD mDV_press 29 (.aload_n 3) 1 30 := ⟨by decide +kernel, rfl⟩
theorem dDV_press_30 : gB mDV_press 30 (.goto 4) 4 34 33 := ⟨by decide +kernel, by decide, rfl⟩
theorem dDV_press_33 : gD mDV_press 33 (.aconst_null) 1 34 := ⟨by decide +kernel, rfl⟩
theorem dDV_press_34 : gD mDV_press 34 (.putfield 137) 3 37 := ⟨by decide +kernel, rfl⟩
theorem dDV_press_37 : gD mDV_press 37 (.aload_n 0) 1 38 := ⟨by decide +kernel, rfl⟩
theorem dDV_press_38 : gD mDV_press 38 (.aload_n 0) 1 39 := ⟨by decide +kernel, rfl⟩
theorem dDV_press_39 : gD mDV_press 39 (.getfield 137) 3 42 := ⟨by decide +kernel, rfl⟩
theorem dDV_press_42 : gD mDV_press 42 (.putfield 129) 3 45 := ⟨by decide +kernel, rfl⟩
theorem dDV_press_45 : gD mDV_press 45 (.aload_n 0) 1 46 := ⟨by decide +kernel, rfl⟩
theorem dDV_press_46 : gD mDV_press 46 (.invokevirtual 42) 3 49 := ⟨by decide +kernel, rfl⟩
theorem dDV_press_49 : gD mDV_press 49 (.aload_n 3) 1 50 := ⟨by decide +kernel, rfl⟩
theorem dDV_press_50 : gD mDV_press 50 (.invokestatic 125) 3 53 := ⟨by decide +kernel, rfl⟩
theorem dDV_press_53 : decode mDV_press.2.1 53 = .ok (.ireturn, 1) := by decide +kernel
theorem dDV_release_0 : gD mDV_release 0 (.aload_n 0) 1 1 := ⟨by decide +kernel, rfl⟩
theorem dDV_release_1 : gD mDV_release 1 (.getfield 129) 3 4 := ⟨by decide +kernel, rfl⟩
theorem dDV_release_4 : gB mDV_release 4 (.ifnonnull 6) 6 10 7 := ⟨by decide +kernel, by decide, rfl⟩
theorem dDV_release_7 : gD mDV_release 7 (.bipush (-2)) 2 9 := ⟨by decide +kernel, rfl⟩
theorem dDV_release_9 : decode mDV_release.2.1 9 = .ok (.ireturn, 1) := by decide +kernel
theorem dDV_release_10 : gD mDV_release 10 (.aload_n 0) 1 11 := ⟨by decide +kernel, rfl⟩
theorem dDV_release_11 : gD mDV_release 11 (.iload_n 1) 1 12 := ⟨by decide +kernel, rfl⟩
theorem dDV_release_12 : gD mDV_release 12 (.iload_n 2) 1 13 := ⟨by decide +kernel, rfl⟩
theorem dDV_release_13 : gD mDV_release 13 (.invokevirtual 121) 3 16 := ⟨by decide +kernel, rfl⟩
theorem dDV_release_16 : gD mDV_release 16 (.aload_n 0) 1 17 := ⟨by decide +kernel, rfl⟩
theorem dDV_release_17 : gD mDV_release 17 (.getfield 129) 3 20 := ⟨by decide +kernel, rfl⟩
theorem dDV_release_20 : gB mDV_release 20 (.if_acmp .ne 10) 10 30 23 := ⟨by decide +kernel, by decide, rfl⟩
theorem dDV_release_23 : gD mDV_release 23 (.aload_n 0) 1 24 := ⟨by decide +kernel, rfl⟩
theorem dDV_release_24 : gD mDV_release 24 (.getfield 129) 3 27 := ⟨by decide +kernel, rfl⟩
theorem dDV_release_27 : gB mDV_release 27 (.goto 4) 4 31 30 := ⟨by decide +kernel, by decide, rfl⟩
theorem dDV_release_30 : gD mDV_release 30 (.aconst_null) 1 31 := ⟨by decide +kernel, rfl⟩
theorem dDV_release_31 : gD mDV_release 31 (.astore_n 3) 1 32 := ⟨by decide +kernel, rfl⟩
theorem dDV_release_32 : gD mDV_release 32 (.aload_n 0) 1 33 := ⟨by decide +kernel, rfl⟩
theorem dDV_release_33 : gD mDV_release 33 (.aconst_null) 1 34 := ⟨by decide +kernel, rfl⟩
theorem dDV_release_34 : gD mDV_release 34 (.putfield 129) 3 37 := ⟨by decide +kernel, rfl⟩
theorem dDV_release_37 : gD mDV_release 37 (.aload_n 3) 1 38 := ⟨by decide +kernel, rfl⟩
theorem dDV_release_38 : gB mDV_release 38 (.ifnull 7) 7 45 41 := ⟨by decide +kernel, by decide, rfl⟩
theorem dDV_release_41 : gD mDV_release 41 (.aload_n 3) 1 42 := ⟨by decide +kernel, rfl⟩
theorem dDV_release_42 : gD mDV_release 42 (.invokestatic 140) 3 45 := ⟨by decide +kernel, rfl⟩
theorem dDV_release_45 : gD mDV_release 45 (.aload_n 0) 1 46 := ⟨by decide +kernel, rfl⟩
theorem dDV_release_46 : gD mDV_release 46 (.invokevirtual 42) 3 49 := ⟨by decide +kernel, rfl⟩
theorem dDV_release_49 : gD mDV_release 49 (.aload_n 3) 1 50 := ⟨by decide +kernel, rfl⟩
theorem dDV_release_50 : gD mDV_release 50 (.invokestatic 125) 3 53 := ⟨by decide +kernel, rfl⟩
theorem dDV_release_53 : decode mDV_release.2.1 53 = .ok (.ireturn, 1) := by decide +kernel
theorem dDV_step_0 : gD mDV_step 0 (.iload_n 1) 1 1 := ⟨by decide +kernel, rfl⟩
theorem dDV_step_1 : gB mDV_step 1 (.ifCond .eq 7) 7 8 4 := ⟨by decide +kernel, by decide, rfl⟩
theorem dDV_step_4 : gD mDV_step 4 (.iconst (-1)) 1 5 := ⟨by decide +kernel, rfl⟩
theorem dDV_step_5 : gB mDV_step 5 (.goto 4) 4 9 8 := ⟨by decide +kernel, by decide, rfl⟩
theorem dDV_step_8 : gD mDV_step 8 (.iconst 1) 1 9 := ⟨by decide +kernel, rfl⟩
theorem dDV_step_9 : gD mDV_step 9 (.istore_n 2) 1 10 := ⟨by decide +kernel, rfl⟩
theorem dDV_step_10 : gD mDV_step 10 (.iload_n 1) 1 11 := ⟨by decide +kernel, rfl⟩
theorem dDV_step_11 : gB mDV_step 11 (.ifCond .eq 10) 10 21 14 := ⟨by decide +kernel, by decide, rfl⟩
theorem dDV_step_14 : gD mDV_step 14 (.aload_n 0) 1 15 := ⟨by decide +kernel, rfl⟩
theorem dDV_step_15 : gD mDV_step 15 (.getfield 45) 3 18 := ⟨by decide +kernel, rfl⟩
theorem dDV_step_18 : gB mDV_step 18 (.goto 4) 4 22 21 := ⟨by decide +kernel, by decide, rfl⟩
theorem dDV_step_21 : gD mDV_step 21 (.iconst (-1)) 1 22 := ⟨by decide +kernel, rfl⟩
theorem dDV_step_22 : gD mDV_step 22 (.istore_n 3) 1 23 := ⟨by decide +kernel, rfl⟩
theorem dDV_step_23 : gD mDV_step 23 (.aload_n 0) 1 24 := ⟨by decide +kernel, rfl⟩
theorem dDV_step_24 : gD mDV_step 24 (.getfield 137) 3 27 := ⟨by decide +kernel, rfl⟩
theorem dDV_step_27 : gB mDV_step 27 (.ifnull 11) 11 38 30 := ⟨by decide +kernel, by decide, rfl⟩
theorem dDV_step_30 : gD mDV_step 30 (.aload_n 0) 1 31 := ⟨by decide +kernel, rfl⟩
theorem dDV_step_31 : gD mDV_step 31 (.getfield 137) 3 34 := ⟨by decide +kernel, rfl⟩
theorem dDV_step_34 : gD mDV_step 34 (.getfield 143) 3 37 := ⟨by decide +kernel, rfl⟩
theorem dDV_step_37 : gD mDV_step 37 (.istore_n 3) 1 38 := ⟨by decide +kernel, rfl⟩
theorem dDV_step_38 : gD mDV_step 38 (.iconst 1) 1 39 := ⟨by decide +kernel, rfl⟩
theorem dDV_step_39 : gD mDV_step 39 (.istore 4) 2 41 := ⟨by decide +kernel, rfl⟩
theorem dDV_step_41 : gD mDV_step 41 (.iload 4) 2 43 := ⟨by decide +kernel, rfl⟩
theorem dDV_step_43 : gD mDV_step 43 (.aload_n 0) 1 44 := ⟨by decide +kernel, rfl⟩
theorem dDV_step_44 : gD mDV_step 44 (.getfield 45) 3 47 := ⟨by decide +kernel, rfl⟩
theorem dDV_step_47 : gB mDV_step 47 (.if_icmp .gt 46) 46 93 50 := ⟨by decide +kernel, by decide, rfl⟩
theorem dDV_step_50 : gD mDV_step 50 (.aload_n 0) 1 51 := ⟨by decide +kernel, rfl⟩
theorem dDV_step_51 : gD mDV_step 51 (.getfield 18) 3 54 := ⟨by decide +kernel, rfl⟩
theorem dDV_step_54 : gD mDV_step 54 (.iload_n 3) 1 55 := ⟨by decide +kernel, rfl⟩
theorem dDV_step_55 : gD mDV_step 55 (.iload 4) 2 57 := ⟨by decide +kernel, rfl⟩
theorem dDV_step_57 : gD mDV_step 57 (.iload_n 2) 1 58 := ⟨by decide +kernel, rfl⟩
theorem dDV_step_58 : gD mDV_step 58 (.imul) 1 59 := ⟨by decide +kernel, rfl⟩
theorem dDV_step_59 : gD mDV_step 59 (.iadd) 1 60 := ⟨by decide +kernel, rfl⟩
theorem dDV_step_60 : gD mDV_step 60 (.aload_n 0) 1 61 := ⟨by decide +kernel, rfl⟩
theorem dDV_step_61 : gD mDV_step 61 (.getfield 45) 3 64 := ⟨by decide +kernel, rfl⟩
theorem dDV_step_64 : gD mDV_step 64 (.invokestatic 146) 3 67 := ⟨by decide +kernel, rfl⟩
theorem dDV_step_67 : gD mDV_step 67 (.aaload) 1 68 := ⟨by decide +kernel, rfl⟩
theorem dDV_step_68 : gD mDV_step 68 (.astore 5) 2 70 := ⟨by decide +kernel, rfl⟩
theorem dDV_step_70 : gD mDV_step 70 (.aload 5) 2 72 := ⟨by decide +kernel, rfl⟩
theorem dDV_step_72 : gD mDV_step 72 (.invokevirtual 133) 3 75 := ⟨by decide +kernel, rfl⟩
theorem dDV_step_75 : gB mDV_step 75 (.ifCond .eq 12) 12 87 78 := ⟨by decide +kernel, by decide, rfl⟩
theorem dDV_step_78 : gD mDV_step 78 (.aload_n 0) 1 79 := ⟨by decide +kernel, rfl⟩
theorem dDV_step_79 : gD mDV_step 79 (.aload 5) 2 81 := ⟨by decide +kernel, rfl⟩
theorem dDV_step_81 : gD mDV_step 81 (.putfield 137) 3 84 := ⟨by decide +kernel, rfl⟩
theorem dDV_step_84 : gB mDV_step 84 (.goto 9) 9 93 87 := ⟨by decide +kernel, by decide, rfl⟩
theorem dDV_step_87 : gD mDV_step 87 (.iinc 4 1) 3 90 := ⟨by decide +kernel, rfl⟩
theorem dDV_step_90 : gB mDV_step 90 (.goto (-49)) (-49) 41 93 := ⟨by decide +kernel, by decide, rfl⟩
theorem dDV_step_93 : gD mDV_step 93 (.aload_n 0) 1 94 := ⟨by decide +kernel, rfl⟩
theorem dDV_step_94 : gD mDV_step 94 (.invokevirtual 42) 3 97 := ⟨by decide +kernel, rfl⟩
theorem dDV_step_97 : gD mDV_step 97 (.aload_n 0) 1 98 := ⟨by decide +kernel, rfl⟩
theorem dDV_step_98 : gD mDV_step 98 (.getfield 137) 3 101 := ⟨by decide +kernel, rfl⟩
theorem dDV_step_101 : gD mDV_step 101 (.invokestatic 125) 3 104 := ⟨by decide +kernel, rfl⟩
theorem dDV_step_104 : decode mDV_step.2.1 104 = .ok (.ireturn, 1) := by decide +kernel
theorem dDV_key_0 : gD mDV_key 0 (.aload_n 0) 1 1 := ⟨by decide +kernel, rfl⟩
theorem dDV_key_1 : gD mDV_key 1 (.getfield 137) 3 4 := ⟨by decide +kernel, rfl⟩
theorem dDV_key_4 : gB mDV_key 4 (.ifnull 14) 14 18 7 := ⟨by decide +kernel, by decide, rfl⟩
theorem dDV_key_7 : gD mDV_key 7 (.aload_n 0) 1 8 := ⟨by decide +kernel, rfl⟩
theorem dDV_key_8 : gD mDV_key 8 (.getfield 137) 3 11 := ⟨by decide +kernel, rfl⟩
theorem dDV_key_11 : gD mDV_key 11 (.invokestatic 140) 3 14 := ⟨by decide +kernel, rfl⟩
theorem dDV_key_14 : gD mDV_key 14 (.aload_n 0) 1 15 := ⟨by decide +kernel, rfl⟩
theorem dDV_key_15 : gD mDV_key 15 (.invokevirtual 42) 3 18 := ⟨by decide +kernel, rfl⟩
theorem dDV_key_18 : gD mDV_key 18 (.aload_n 0) 1 19 := ⟨by decide +kernel, rfl⟩
theorem dDV_key_19 : gD mDV_key 19 (.getfield 137) 3 22 := ⟨by decide +kernel, rfl⟩
theorem dDV_key_22 : gD mDV_key 22 (.invokestatic 125) 3 25 := ⟨by decide +kernel, rfl⟩
theorem dDV_key_25 : decode mDV_key.2.1 25 = .ok (.ireturn, 1) := by decide +kernel
theorem dDV_attention_0 : gD mDV_attention 0 (.aload_n 0) 1 1 := ⟨by decide +kernel, rfl⟩
theorem dDV_attention_1 : gD mDV_attention 1 (.getfield 137) 3 4 := ⟨by decide +kernel, rfl⟩
theorem dDV_attention_4 : gD mDV_attention 4 (.invokestatic 125) 3 7 := ⟨by decide +kernel, rfl⟩
theorem dDV_attention_7 : gD mDV_attention 7 (.iconst 1) 1 8 := ⟨by decide +kernel, rfl⟩
theorem dDV_attention_8 : gD mDV_attention 8 (.iadd) 1 9 := ⟨by decide +kernel, rfl⟩
theorem dDV_attention_9 : gD mDV_attention 9 (.bipush 8) 2 11 := ⟨by decide +kernel, rfl⟩
theorem dDV_attention_11 : gD mDV_attention 11 (.aload_n 0) 1 12 := ⟨by decide +kernel, rfl⟩
theorem dDV_attention_12 : gD mDV_attention 12 (.getfield 129) 3 15 := ⟨by decide +kernel, rfl⟩
theorem dDV_attention_15 : gD mDV_attention 15 (.invokestatic 125) 3 18 := ⟨by decide +kernel, rfl⟩
theorem dDV_attention_18 : gD mDV_attention 18 (.iconst 1) 1 19 := ⟨by decide +kernel, rfl⟩
theorem dDV_attention_19 : gD mDV_attention 19 (.iadd) 1 20 := ⟨by decide +kernel, rfl⟩
theorem dDV_attention_20 : gD mDV_attention 20 (.imul) 1 21 := ⟨by decide +kernel, rfl⟩
theorem dDV_attention_21 : gD mDV_attention 21 (.iadd) 1 22 := ⟨by decide +kernel, rfl⟩
theorem dDV_attention_22 : decode mDV_attention.2.1 22 = .ok (.ireturn, 1) := by decide +kernel
theorem dDV_count_0 : gD mDV_count 0 (.aload_n 0) 1 1 := ⟨by decide +kernel, rfl⟩
theorem dDV_count_1 : gD mDV_count 1 (.iload_n 1) 1 2 := ⟨by decide +kernel, rfl⟩
theorem dDV_count_2 : gD mDV_count 2 (.invokevirtual 49) 3 5 := ⟨by decide +kernel, rfl⟩
theorem dDV_count_5 : gB mDV_count 5 (.ifCond .eq 15) 15 20 8 := ⟨by decide +kernel, by decide, rfl⟩
theorem dDV_count_8 : gD mDV_count 8 (.aload_n 0) 1 9 := ⟨by decide +kernel, rfl⟩
theorem dDV_count_9 : gD mDV_count 9 (.getfield 18) 3 12 := ⟨by decide +kernel, rfl⟩
theorem dDV_count_12 : gD mDV_count 12 (.iload_n 1) 1 13 := ⟨by decide +kernel, rfl⟩
theorem dDV_count_13 : gD mDV_count 13 (.aaload) 1 14 := ⟨by decide +kernel, rfl⟩
theorem dDV_count_14 : gD mDV_count 14 (.getfield 152) 3 17 := ⟨by decide +kernel, rfl⟩
theorem dDV_count_17 : gB mDV_count 17 (.goto 4) 4 21 20 := ⟨by decide +kernel, by decide, rfl⟩
theorem dDV_count_20 : gD mDV_count 20 (.iconst (-1)) 1 21 := ⟨by decide +kernel, rfl⟩
theorem dDV_count_21 : decode mDV_count.2.1 21 = .ok (.ireturn, 1) := by decide +kernel
theorem dDV_damage_0 : gD mDV_damage 0 (.aload_n 0) 1 1 := ⟨by decide +kernel, rfl⟩
theorem dDV_damage_1 : gD mDV_damage 1 (.getfield 12) 3 4 := ⟨by decide +kernel, rfl⟩
theorem dDV_damage_4 : gD mDV_damage 4 (.invokevirtual 155) 3 7 := ⟨by decide +kernel, rfl⟩
theorem dDV_damage_7 : decode mDV_damage.2.1 7 = .ok (.ireturn, 1) := by decide +kernel
theorem dDV_paint_0 : gD mDV_paint 0 (.iconst 0) 1 1 := ⟨by decide +kernel, rfl⟩
theorem dDV_paint_1 : gD mDV_paint 1 (.istore_n 1) 1 2 := ⟨by decide +kernel, rfl⟩
theorem dDV_paint_2 : gD mDV_paint 2 (.iconst 0) 1 3 := ⟨by decide +kernel, rfl⟩
theorem dDV_paint_3 : gD mDV_paint 3 (.istore_n 2) 1 4 := ⟨by decide +kernel, rfl⟩
theorem dDV_paint_4 : gD mDV_paint 4 (.iload_n 2) 1 5 := ⟨by decide +kernel, rfl⟩
theorem dDV_paint_5 : gD mDV_paint 5 (.bipush 16) 2 7 := ⟨by decide +kernel, rfl⟩
theorem dDV_paint_7 : gB mDV_paint 7 (.if_icmp .ge 56) 56 63 10 := ⟨by decide +kernel, by decide, rfl⟩
theorem dDV_paint_10 : gD mDV_paint 10 (.iconst 0) 1 11 := ⟨by decide +kernel, rfl⟩
theorem dDV_paint_11 : gD mDV_paint 11 (.istore_n 3) 1 12 := ⟨by decide +kernel, rfl⟩
theorem dDV_paint_12 : gD mDV_paint 12 (.iload_n 3) 1 13 := ⟨by decide +kernel, rfl⟩
theorem dDV_paint_13 : gD mDV_paint 13 (.bipush 24) 2 15 := ⟨by decide +kernel, rfl⟩
theorem dDV_paint_15 : gB mDV_paint 15 (.if_icmp .ge 42) 42 57 18 := ⟨by decide +kernel, by decide, rfl⟩
theorem dDV_paint_18 : gD mDV_paint 18 (.aload_n 0) 1 19 := ⟨by decide +kernel, rfl⟩
theorem dDV_paint_19 : gD mDV_paint 19 (.getfield 12) 3 22 := ⟨by decide +kernel, rfl⟩
theorem dDV_paint_22 : gD mDV_paint 22 (.iload_n 3) 1 23 := ⟨by decide +kernel, rfl⟩
theorem dDV_paint_23 : gD mDV_paint 23 (.iload_n 2) 1 24 := ⟨by decide +kernel, rfl⟩
theorem dDV_paint_24 : gD mDV_paint 24 (.invokevirtual 158) 3 27 := ⟨by decide +kernel, rfl⟩
theorem dDV_paint_27 : gB mDV_paint 27 (.ifCond .eq 24) 24 51 30 := ⟨by decide +kernel, by decide, rfl⟩
theorem dDV_paint_30 : gD mDV_paint 30 (.aload_n 0) 1 31 := ⟨by decide +kernel, rfl⟩
theorem dDV_paint_31 : gD mDV_paint 31 (.getfield 12) 3 34 := ⟨by decide +kernel, rfl⟩
theorem dDV_paint_34 : gD mDV_paint 34 (.iload_n 3) 1 35 := ⟨by decide +kernel, rfl⟩
theorem dDV_paint_35 : gD mDV_paint 35 (.iload_n 2) 1 36 := ⟨by decide +kernel, rfl⟩
theorem dDV_paint_36 : gD mDV_paint 36 (.aload_n 0) 1 37 := ⟨by decide +kernel, rfl⟩
theorem dDV_paint_37 : gD mDV_paint 37 (.iload_n 3) 1 38 := ⟨by decide +kernel, rfl⟩
theorem dDV_paint_38 : gD mDV_paint 38 (.iload_n 2) 1 39 := ⟨by decide +kernel, rfl⟩
theorem dDV_paint_39 : gD mDV_paint 39 (.invokevirtual 161) 3 42 := ⟨by decide +kernel, rfl⟩
theorem dDV_paint_42 : gD mDV_paint 42 (.invokevirtual 164) 3 45 := ⟨by decide +kernel, rfl⟩
theorem dDV_paint_45 : gB mDV_paint 45 (.ifCond .eq 6) 6 51 48 := ⟨by decide +kernel, by decide, rfl⟩
theorem dDV_paint_48 : gD mDV_paint 48 (.iinc 1 1) 3 51 := ⟨by decide +kernel, rfl⟩
theorem dDV_paint_51 : gD mDV_paint 51 (.iinc 3 1) 3 54 := ⟨by decide +kernel, rfl⟩
theorem dDV_paint_54 : gB mDV_paint 54 (.goto (-42)) (-42) 12 57 := ⟨by decide +kernel, by decide, rfl⟩
theorem dDV_paint_57 : gD mDV_paint 57 (.iinc 2 1) 3 60 := ⟨by decide +kernel, rfl⟩
theorem dDV_paint_60 : gB mDV_paint 60 (.goto (-56)) (-56) 4 63 := ⟨by decide +kernel, by decide, rfl⟩
theorem dDV_paint_63 : gD mDV_paint 63 (.iload_n 1) 1 64 := ⟨by decide +kernel, rfl⟩
theorem dDV_paint_64 : decode mDV_paint.2.1 64 = .ok (.ireturn, 1) := by decide +kernel
theorem dDV_pixel_0 : gD mDV_pixel 0 (.iload_n 1) 1 1 := ⟨by decide +kernel, rfl⟩
theorem dDV_pixel_1 : gB mDV_pixel 1 (.ifCond .lt 23) 23 24 4 := ⟨by decide +kernel, by decide, rfl⟩
theorem dDV_pixel_4 : gD mDV_pixel 4 (.iload_n 1) 1 5 := ⟨by decide +kernel, rfl⟩
theorem dDV_pixel_5 : gD mDV_pixel 5 (.bipush 24) 2 7 := ⟨by decide +kernel, rfl⟩
theorem dDV_pixel_7 : gB mDV_pixel 7 (.if_icmp .ge 17) 17 24 10 := ⟨by decide +kernel, by decide, rfl⟩
theorem dDV_pixel_10 : gD mDV_pixel 10 (.iload_n 2) 1 11 := ⟨by decide +kernel, rfl⟩
theorem dDV_pixel_11 : gB mDV_pixel 11 (.ifCond .lt 13) 13 24 14 := ⟨by decide +kernel, by decide, rfl⟩
theorem dDV_pixel_14 : gD mDV_pixel 14 (.iload_n 2) 1 15 := ⟨by decide +kernel, rfl⟩
theorem dDV_pixel_15 : gD mDV_pixel 15 (.bipush 16) 2 17 := ⟨by decide +kernel, rfl⟩
theorem dDV_pixel_17 : gB mDV_pixel 17 (.if_icmp .ge 7) 7 24 20 := ⟨by decide +kernel, by decide, rfl⟩
theorem dDV_pixel_20 : gD mDV_pixel 20 (.iconst 1) 1 21 := ⟨by decide +kernel, rfl⟩
theorem dDV_pixel_21 : gB mDV_pixel 21 (.goto 4) 4 25 24 := ⟨by decide +kernel, by decide, rfl⟩
theorem dDV_pixel_24 : gD mDV_pixel 24 (.iconst 0) 1 25 := ⟨by decide +kernel, rfl⟩
theorem dDV_pixel_25 : gD mDV_pixel 25 (.istore_n 3) 1 26 := ⟨by decide +kernel, rfl⟩
theorem dDV_pixel_26 : gD mDV_pixel 26 (.iload_n 3) 1 27 := ⟨by decide +kernel, rfl⟩
theorem dDV_pixel_27 : gB mDV_pixel 27 (.ifCond .eq 15) 15 42 30 := ⟨by decide +kernel, by decide, rfl⟩
theorem dDV_pixel_30 : gD mDV_pixel 30 (.aload_n 0) 1 31 := ⟨by decide +kernel, rfl⟩
theorem dDV_pixel_31 : gD mDV_pixel 31 (.getfield 12) 3 34 := ⟨by decide +kernel, rfl⟩
theorem dDV_pixel_34 : gD mDV_pixel 34 (.iload_n 1) 1 35 := ⟨by decide +kernel, rfl⟩
theorem dDV_pixel_35 : gD mDV_pixel 35 (.iload_n 2) 1 36 := ⟨by decide +kernel, rfl⟩
theorem dDV_pixel_36 : gD mDV_pixel 36 (.invokevirtual 168) 3 39 := ⟨by decide +kernel, rfl⟩
theorem dDV_pixel_39 : gB mDV_pixel 39 (.goto 4) 4 43 42 := ⟨by decide +kernel, by decide, rfl⟩
theorem dDV_pixel_42 : gD mDV_pixel 42 (.iconst (-1)) 1 43 := ⟨by decide +kernel, rfl⟩
theorem dDV_pixel_43 : decode mDV_pixel.2.1 43 = .ok (.ireturn, 1) := by decide +kernel
theorem dDV_nearest_0 : gD mDV_nearest 0 (.iload_n 0) 1 1 := ⟨by decide +kernel, rfl⟩
theorem dDV_nearest_1 : gD mDV_nearest 1 (.iload_n 1) 1 2 := ⟨by decide +kernel, rfl⟩
theorem dDV_nearest_2 : gB mDV_nearest 2 (.if_icmp .ge 5) 5 7 5 := ⟨by decide +kernel, by decide, rfl⟩
theorem dDV_nearest_5 : gD mDV_nearest 5 (.iload_n 1) 1 6 := ⟨by decide +kernel, rfl⟩
theorem dDV_nearest_6 : decode mDV_nearest.2.1 6 = .ok (.ireturn, 1) := by decide +kernel
theorem dDV_nearest_7 : gD mDV_nearest 7 (.iload_n 0) 1 8 := ⟨by decide +kernel, rfl⟩
theorem dDV_nearest_8 : gD mDV_nearest 8 (.iload_n 2) 1 9 := ⟨by decide +kernel, rfl⟩
theorem dDV_nearest_9 : gB mDV_nearest 9 (.if_icmp .le 7) 7 16 12 := ⟨by decide +kernel, by decide, rfl⟩
theorem dDV_nearest_12 : gD mDV_nearest 12 (.iload_n 2) 1 13 := ⟨by decide +kernel, rfl⟩
theorem dDV_nearest_13 : gB mDV_nearest 13 (.goto 4) 4 17 16 := ⟨by decide +kernel, by decide, rfl⟩
theorem dDV_nearest_16 : gD mDV_nearest 16 (.iload_n 0) 1 17 := ⟨by decide +kernel, rfl⟩
theorem dDV_nearest_17 : decode mDV_nearest.2.1 17 = .ok (.ireturn, 1) := by decide +kernel
theorem dDV_isNear_0 : gD mDV_isNear 0 (.iload_n 0) 1 1 := ⟨by decide +kernel, rfl⟩
theorem dDV_isNear_1 : gD mDV_isNear 1 (.bipush (-99)) 2 3 := ⟨by decide +kernel, rfl⟩
theorem dDV_isNear_3 : gB mDV_isNear 3 (.if_icmp .lt 13) 13 16 6 := ⟨by decide +kernel, by decide, rfl⟩
theorem dDV_isNear_6 : gD mDV_isNear 6 (.iload_n 0) 1 7 := ⟨by decide +kernel, rfl⟩
theorem dDV_isNear_7 : gD mDV_isNear 7 (.bipush 99) 2 9 := ⟨by decide +kernel, rfl⟩
theorem dDV_isNear_9 : gB mDV_isNear 9 (.if_icmp .gt 7) 7 16 12 := ⟨by decide +kernel, by decide, rfl⟩
theorem dDV_isNear_12 : gD mDV_isNear 12 (.iconst 1) 1 13 := ⟨by decide +kernel, rfl⟩
theorem dDV_isNear_13 : gB mDV_isNear 13 (.goto 4) 4 17 16 := ⟨by decide +kernel, by decide, rfl⟩
theorem dDV_isNear_16 : gD mDV_isNear 16 (.iconst 0) 1 17 := ⟨by decide +kernel, rfl⟩
theorem dDV_isNear_17 : decode mDV_isNear.2.1 17 = .ok (.ireturn, 1) := by decide +kernel
theorem dDV_numberOf_0 : gD mDV_numberOf 0 (.aload_n 0) 1 1 := ⟨by decide +kernel, rfl⟩
theorem dDV_numberOf_1 : gB mDV_numberOf 1 (.ifnonnull 7) 7 8 4 := ⟨by decide +kernel, by decide, rfl⟩
theorem dDV_numberOf_4 : gD mDV_numberOf 4 (.iconst (-1)) 1 5 := ⟨by decide +kernel, rfl⟩
theorem dDV_numberOf_5 : gB mDV_numberOf 5 (.goto 7) 7 12 8 := ⟨by decide +kernel, by decide, rfl⟩
theorem dDV_numberOf_8 : gD mDV_numberOf 8 (.aload_n 0) 1 9 := ⟨by decide +kernel, rfl⟩
theorem dDV_numberOf_9 : gD mDV_numberOf 9 (.getfield 143) 3 12 := ⟨by decide +kernel, rfl⟩
theorem dDV_numberOf_12 : decode mDV_numberOf.2.1 12 = .ok (.ireturn, 1) := by decide +kernel
theorem dDV_isBox_0 : gD mDV_isBox 0 (.iload_n 1) 1 1 := ⟨by decide +kernel, rfl⟩
theorem dDV_isBox_1 : gB mDV_isBox 1 (.ifCond .lt 15) 15 16 4 := ⟨by decide +kernel, by decide, rfl⟩
theorem dDV_isBox_4 : gD mDV_isBox 4 (.iload_n 1) 1 5 := ⟨by decide +kernel, rfl⟩
theorem dDV_isBox_5 : gD mDV_isBox 5 (.aload_n 0) 1 6 := ⟨by decide +kernel, rfl⟩
theorem dDV_isBox_6 : gD mDV_isBox 6 (.getfield 45) 3 9 := ⟨by decide +kernel, rfl⟩
theorem dDV_isBox_9 : gB mDV_isBox 9 (.if_icmp .ge 7) 7 16 12 := ⟨by decide +kernel, by decide, rfl⟩
theorem dDV_isBox_12 : gD mDV_isBox 12 (.iconst 1) 1 13 := ⟨by decide +kernel, rfl⟩
theorem dDV_isBox_13 : gB mDV_isBox 13 (.goto 4) 4 17 16 := ⟨by decide +kernel, by decide, rfl⟩
theorem dDV_isBox_16 : gD mDV_isBox 16 (.iconst 0) 1 17 := ⟨by decide +kernel, rfl⟩
theorem dDV_isBox_17 : decode mDV_isBox.2.1 17 = .ok (.ireturn, 1) := by decide +kernel
theorem dDV_isInnerBox_0 : gD mDV_isInnerBox 0 (.iload_n 1) 1 1 := ⟨by decide +kernel, rfl⟩
theorem dDV_isInnerBox_1 : gB mDV_isInnerBox 1 (.ifCond .le 15) 15 16 4 := ⟨by decide +kernel, by decide, rfl⟩
theorem dDV_isInnerBox_4 : gD mDV_isInnerBox 4 (.iload_n 1) 1 5 := ⟨by decide +kernel, rfl⟩
theorem dDV_isInnerBox_5 : gD mDV_isInnerBox 5 (.aload_n 0) 1 6 := ⟨by decide +kernel, rfl⟩
theorem dDV_isInnerBox_6 : gD mDV_isInnerBox 6 (.getfield 45) 3 9 := ⟨by decide +kernel, rfl⟩
theorem dDV_isInnerBox_9 : gB mDV_isInnerBox 9 (.if_icmp .ge 7) 7 16 12 := ⟨by decide +kernel, by decide, rfl⟩
theorem dDV_isInnerBox_12 : gD mDV_isInnerBox 12 (.iconst 1) 1 13 := ⟨by decide +kernel, rfl⟩
theorem dDV_isInnerBox_13 : gB mDV_isInnerBox 13 (.goto 4) 4 17 16 := ⟨by decide +kernel, by decide, rfl⟩
theorem dDV_isInnerBox_16 : gD mDV_isInnerBox 16 (.iconst 0) 1 17 := ⟨by decide +kernel, rfl⟩
theorem dDV_isInnerBox_17 : decode mDV_isInnerBox.2.1 17 = .ok (.ireturn, 1) := by decide +kernel
theorem dDV_addBox_0 : gD mDV_addBox 0 (.aload_n 0) 1 1 := ⟨by decide +kernel, rfl⟩
theorem dDV_addBox_1 : gD mDV_addBox 1 (.getfield 45) 3 4 := ⟨by decide +kernel, rfl⟩
theorem dDV_addBox_4 : gD mDV_addBox 4 (.istore_n 3) 1 5 := ⟨by decide +kernel, rfl⟩
theorem dDV_addBox_5 : gD mDV_addBox 5 (.new 16) 3 8 := ⟨by decide +kernel, rfl⟩
theorem dDV_addBox_8 : gD mDV_addBox 8 (.dup) 1 9 := ⟨by decide +kernel, rfl⟩
theorem dDV_addBox_9 : gD mDV_addBox 9 (.iload_n 3) 1 10 := ⟨by decide +kernel, rfl⟩
theorem dDV_addBox_10 : gD mDV_addBox 10 (.iload_n 1) 1 11 := ⟨by decide +kernel, rfl⟩
theorem dDV_addBox_11 : gD mDV_addBox 11 (.aload_n 2) 1 12 := ⟨by decide +kernel, rfl⟩
theorem dDV_addBox_12 : gD mDV_addBox 12 (.invokespecial 171) 3 15 := ⟨by decide +kernel, rfl⟩
theorem dDV_addBox_15 : gD mDV_addBox 15 (.astore 4) 2 17 := ⟨by decide +kernel, rfl⟩
theorem dDV_addBox_17 : gD mDV_addBox 17 (.aload_n 0) 1 18 := ⟨by decide +kernel, rfl⟩
theorem dDV_addBox_18 : gD mDV_addBox 18 (.getfield 18) 3 21 := ⟨by decide +kernel, rfl⟩
theorem dDV_addBox_21 : gD mDV_addBox 21 (.iload_n 3) 1 22 := ⟨by decide +kernel, rfl⟩
theorem dDV_addBox_22 : gD mDV_addBox 22 (.aload 4) 2 24 := ⟨by decide +kernel, rfl⟩
theorem dDV_addBox_24 : gD mDV_addBox 24 (.aastore) 1 25 := ⟨by decide +kernel, rfl⟩
theorem dDV_addBox_25 : gD mDV_addBox 25 (.aload_n 0) 1 26 := ⟨by decide +kernel, rfl⟩
theorem dDV_addBox_26 : gD mDV_addBox 26 (.getfield 22) 3 29 := ⟨by decide +kernel, rfl⟩
theorem dDV_addBox_29 : gD mDV_addBox 29 (.iload_n 3) 1 30 := ⟨by decide +kernel, rfl⟩
theorem dDV_addBox_30 : gD mDV_addBox 30 (.aload 4) 2 32 := ⟨by decide +kernel, rfl⟩
theorem dDV_addBox_32 : gD mDV_addBox 32 (.aastore) 1 33 := ⟨by decide +kernel, rfl⟩
theorem dDV_addBox_33 : gD mDV_addBox 33 (.aload_n 0) 1 34 := ⟨by decide +kernel, rfl⟩
theorem dDV_addBox_34 : gD mDV_addBox 34 (.dup) 1 35 := ⟨by decide +kernel, rfl⟩
theorem dDV_addBox_35 : gD mDV_addBox 35 (.getfield 45) 3 38 := ⟨by decide +kernel, rfl⟩
theorem dDV_addBox_38 : gD mDV_addBox 38 (.iconst 1) 1 39 := ⟨by decide +kernel, rfl⟩
theorem dDV_addBox_39 : gD mDV_addBox 39 (.iadd) 1 40 := ⟨by decide +kernel, rfl⟩
theorem dDV_addBox_40 : gD mDV_addBox 40 (.putfield 45) 3 43 := ⟨by decide +kernel, rfl⟩
theorem dDV_addBox_43 : gD mDV_addBox 43 (.aload_n 0) 1 44 := ⟨by decide +kernel, rfl⟩
theorem dDV_addBox_44 : gD mDV_addBox 44 (.getfield 34) 3 47 := ⟨by decide +kernel, rfl⟩
theorem dDV_addBox_47 : gD mDV_addBox 47 (.aload_n 0) 1 48 := ⟨by decide +kernel, rfl⟩
theorem dDV_addBox_48 : gD mDV_addBox 48 (.getfield 45) 3 51 := ⟨by decide +kernel, rfl⟩
theorem dDV_addBox_51 : gD mDV_addBox 51 (.iconst 4) 1 52 := ⟨by decide +kernel, rfl⟩
theorem dDV_addBox_52 : gD mDV_addBox 52 (.imul) 1 53 := ⟨by decide +kernel, rfl⟩
theorem dDV_addBox_53 : gD mDV_addBox 53 (.putfield 174) 3 56 := ⟨by decide +kernel, rfl⟩
theorem dDV_addBox_56 : gD mDV_addBox 56 (.iload_n 3) 1 57 := ⟨by decide +kernel, rfl⟩
theorem dDV_addBox_57 : decode mDV_addBox.2.1 57 = .ok (.ireturn, 1) := by decide +kernel
theorem dDV_isLastOfItsParent_0 : gD mDV_isLastOfItsParent 0 (.aload_n 1) 1 1 := ⟨by decide +kernel, rfl⟩
theorem dDV_isLastOfItsParent_1 : gD mDV_isLastOfItsParent 1 (.astore_n 2) 1 2 := ⟨by decide +kernel, rfl⟩
theorem dDV_isLastOfItsParent_2 : gD mDV_isLastOfItsParent 2 (.iconst 0) 1 3 := ⟨by decide +kernel, rfl⟩
theorem dDV_isLastOfItsParent_3 : gD mDV_isLastOfItsParent 3 (.istore_n 3) 1 4 := ⟨by decide +kernel, rfl⟩
theorem dDV_isLastOfItsParent_4 : gD mDV_isLastOfItsParent 4 (.iload_n 3) 1 5 := ⟨by decide +kernel, rfl⟩
theorem dDV_isLastOfItsParent_5 : gD mDV_isLastOfItsParent 5 (.aload_n 0) 1 6 := ⟨by decide +kernel, rfl⟩
theorem dDV_isLastOfItsParent_6 : gD mDV_isLastOfItsParent 6 (.getfield 45) 3 9 := ⟨by decide +kernel, rfl⟩
theorem dDV_isLastOfItsParent_9 : gB mDV_isLastOfItsParent 9 (.if_icmp .ge 32) 32 41 12 := ⟨by decide +kernel, by decide, rfl⟩
theorem dDV_isLastOfItsParent_12 : gD mDV_isLastOfItsParent 12 (.aload_n 0) 1 13 := ⟨by decide +kernel, rfl⟩
theorem dDV_isLastOfItsParent_13 : gD mDV_isLastOfItsParent 13 (.getfield 22) 3 16 := ⟨by decide +kernel, rfl⟩
theorem dDV_isLastOfItsParent_16 : gD mDV_isLastOfItsParent 16 (.iload_n 3) 1 17 := ⟨by decide +kernel, rfl⟩
theorem dDV_isLastOfItsParent_17 : gD mDV_isLastOfItsParent 17 (.aaload) 1 18 := ⟨by decide +kernel, rfl⟩
theorem dDV_isLastOfItsParent_18 : gD mDV_isLastOfItsParent 18 (.getfield 177) 3 21 := ⟨by decide +kernel, rfl⟩
theorem dDV_isLastOfItsParent_21 : gD mDV_isLastOfItsParent 21 (.aload_n 1) 1 22 := ⟨by decide +kernel, rfl⟩
theorem dDV_isLastOfItsParent_22 : gD mDV_isLastOfItsParent 22 (.getfield 177) 3 25 := ⟨by decide +kernel, rfl⟩
theorem dDV_isLastOfItsParent_25 : gB mDV_isLastOfItsParent 25 (.if_acmp .ne 10) 10 35 28 := ⟨by decide +kernel, by decide, rfl⟩
theorem dDV_isLastOfItsParent_28 : gD mDV_isLastOfItsParent 28 (.aload_n 0) 1 29 := ⟨by decide +kernel, rfl⟩
theorem dDV_isLastOfItsParent_29 : gD mDV_isLastOfItsParent 29 (.getfield 22) 3 32 := ⟨by decide +kernel, rfl⟩
theorem dDV_isLastOfItsParent_32 : gD mDV_isLastOfItsParent 32 (.iload_n 3) 1 33 := ⟨by decide +kernel, rfl⟩
theorem dDV_isLastOfItsParent_33 : gD mDV_isLastOfItsParent 33 (.aaload) 1 34 := ⟨by decide +kernel, rfl⟩
theorem dDV_isLastOfItsParent_34 : gD mDV_isLastOfItsParent 34 (.astore_n 2) 1 35 := ⟨by decide +kernel, rfl⟩
theorem dDV_isLastOfItsParent_35 : gD mDV_isLastOfItsParent 35 (.iinc 3 1) 3 38 := ⟨by decide +kernel, rfl⟩
theorem dDV_isLastOfItsParent_38 : gB mDV_isLastOfItsParent 38 (.goto (-34)) (-34) 4 41 := ⟨by decide +kernel, by decide, rfl⟩
theorem dDV_isLastOfItsParent_41 : gD mDV_isLastOfItsParent 41 (.aload_n 2) 1 42 := ⟨by decide +kernel, rfl⟩
theorem dDV_isLastOfItsParent_42 : gD mDV_isLastOfItsParent 42 (.aload_n 1) 1 43 := ⟨by decide +kernel, rfl⟩
theorem dDV_isLastOfItsParent_43 : gB mDV_isLastOfItsParent 43 (.if_acmp .ne 7) 7 50 46 := ⟨by decide +kernel, by decide, rfl⟩
theorem dDV_isLastOfItsParent_46 : gD mDV_isLastOfItsParent 46 (.iconst 1) 1 47 := ⟨by decide +kernel, rfl⟩
theorem dDV_isLastOfItsParent_47 : gB mDV_isLastOfItsParent 47 (.goto 4) 4 51 50 := ⟨by decide +kernel, by decide, rfl⟩
theorem dDV_isLastOfItsParent_50 : gD mDV_isLastOfItsParent 50 (.iconst 0) 1 51 := ⟨by decide +kernel, rfl⟩
theorem dDV_isLastOfItsParent_51 : decode mDV_isLastOfItsParent.2.1 51 = .ok (.ireturn, 1) := by decide +kernel
theorem dDV_bringToFront_0 : gD mDV_bringToFront 0 (.iconst 0) 1 1 := ⟨by decide +kernel, rfl⟩
theorem dDV_bringToFront_1 : gD mDV_bringToFront 1 (.istore_n 2) 1 2 := ⟨by decide +kernel, rfl⟩
theorem dDV_bringToFront_2 : gD mDV_bringToFront 2 (.iconst 0) 1 3 := ⟨by decide +kernel, rfl⟩
theorem dDV_bringToFront_3 : gD mDV_bringToFront 3 (.istore_n 3) 1 4 := ⟨by decide +kernel, rfl⟩
theorem dDV_bringToFront_4 : gD mDV_bringToFront 4 (.iload_n 3) 1 5 := ⟨by decide +kernel, rfl⟩
theorem dDV_bringToFront_5 : gD mDV_bringToFront 5 (.aload_n 0) 1 6 := ⟨by decide +kernel, rfl⟩
theorem dDV_bringToFront_6 : gD mDV_bringToFront 6 (.getfield 45) 3 9 := ⟨by decide +kernel, rfl⟩
theorem dDV_bringToFront_9 : gB mDV_bringToFront 9 (.if_icmp .ge 34) 34 43 12 := ⟨by decide +kernel, by decide, rfl⟩
theorem dDV_bringToFront_12 : gD mDV_bringToFront 12 (.aload_n 0) 1 13 := ⟨by decide +kernel, rfl⟩
theorem dDV_bringToFront_13 : gD mDV_bringToFront 13 (.getfield 22) 3 16 := ⟨by decide +kernel, rfl⟩
theorem dDV_bringToFront_16 : gD mDV_bringToFront 16 (.iload_n 3) 1 17 := ⟨by decide +kernel, rfl⟩
theorem dDV_bringToFront_17 : gD mDV_bringToFront 17 (.aaload) 1 18 := ⟨by decide +kernel, rfl⟩
theorem dDV_bringToFront_18 : gD mDV_bringToFront 18 (.aload_n 1) 1 19 := ⟨by decide +kernel, rfl⟩
theorem dDV_bringToFront_19 : gB mDV_bringToFront 19 (.if_acmp .eq 18) 18 37 22 := ⟨by decide +kernel, by decide, rfl⟩
theorem dDV_bringToFront_22 : gD mDV_bringToFront 22 (.aload_n 0) 1 23 := ⟨by decide +kernel, rfl⟩
theorem dDV_bringToFront_23 : gD mDV_bringToFront 23 (.getfield 22) 3 26 := ⟨by decide +kernel, rfl⟩
theorem dDV_bringToFront_26 : gD mDV_bringToFront 26 (.iload_n 2) 1 27 := ⟨by decide +kernel, rfl⟩
theorem dDV_bringToFront_27 : gD mDV_bringToFront 27 (.aload_n 0) 1 28 := ⟨by decide +kernel, rfl⟩
theorem dDV_bringToFront_28 : gD mDV_bringToFront 28 (.getfield 22) 3 31 := ⟨by decide +kernel, rfl⟩
theorem dDV_bringToFront_31 : gD mDV_bringToFront 31 (.iload_n 3) 1 32 := ⟨by decide +kernel, rfl⟩
theorem dDV_bringToFront_32 : gD mDV_bringToFront 32 (.aaload) 1 33 := ⟨by decide +kernel, rfl⟩
theorem dDV_bringToFront_33 : gD mDV_bringToFront 33 (.aastore) 1 34 := ⟨by decide +kernel, rfl⟩
theorem dDV_bringToFront_34 : gD mDV_bringToFront 34 (.iinc 2 1) 3 37 := ⟨by decide +kernel, rfl⟩
theorem dDV_bringToFront_37 : gD mDV_bringToFront 37 (.iinc 3 1) 3 40 := ⟨by decide +kernel, rfl⟩
theorem dDV_bringToFront_40 : gB mDV_bringToFront 40 (.goto (-36)) (-36) 4 43 := ⟨by decide +kernel, by decide, rfl⟩
theorem dDV_bringToFront_43 : gD mDV_bringToFront 43 (.aload_n 0) 1 44 := ⟨by decide +kernel, rfl⟩
theorem dDV_bringToFront_44 : gD mDV_bringToFront 44 (.getfield 22) 3 47 := ⟨by decide +kernel, rfl⟩
theorem dDV_bringToFront_47 : gD mDV_bringToFront 47 (.aload_n 0) 1 48 := ⟨by decide +kernel, rfl⟩
theorem dDV_bringToFront_48 : gD mDV_bringToFront 48 (.getfield 45) 3 51 := ⟨by decide +kernel, rfl⟩
theorem dDV_bringToFront_51 : gD mDV_bringToFront 51 (.iconst 1) 1 52 := ⟨by decide +kernel, rfl⟩
theorem dDV_bringToFront_52 : gD mDV_bringToFront 52 (.isub) 1 53 := ⟨by decide +kernel, rfl⟩
theorem dDV_bringToFront_53 : gD mDV_bringToFront 53 (.aload_n 1) 1 54 := ⟨by decide +kernel, rfl⟩
theorem dDV_bringToFront_54 : gD mDV_bringToFront 54 (.aastore) 1 55 := ⟨by decide +kernel, rfl⟩
theorem dDV_bringToFront_55 : decode mDV_bringToFront.2.1 55 = .ok (.return_, 1) := by decide +kernel
theorem dDV_frontBox_0 : gD mDV_frontBox 0 (.aconst_null) 1 1 := ⟨by decide +kernel, rfl⟩
theorem dDV_frontBox_1 : gD mDV_frontBox 1 (.astore_n 3) 1 2 := ⟨by decide +kernel, rfl⟩
theorem dDV_frontBox_2 : gD mDV_frontBox 2 (.aload_n 0) 1 3 := ⟨by decide +kernel, rfl⟩
theorem dDV_frontBox_3 : gD mDV_frontBox 3 (.aconst_null) 1 4 := ⟨by decide +kernel, rfl⟩
theorem dDV_frontBox_4 : gD mDV_frontBox 4 (.iload_n 1) 1 5 := ⟨by decide +kernel, rfl⟩
theorem dDV_frontBox_5 : gD mDV_frontBox 5 (.iload_n 2) 1 6 := ⟨by decide +kernel, rfl⟩
theorem dDV_frontBox_6 : gD mDV_frontBox 6 (.invokevirtual 180) 3 9 := ⟨by decide +kernel, rfl⟩
theorem dDV_frontBox_9 : gD mDV_frontBox 9 (.astore 4) 2 11 := ⟨by decide +kernel, rfl⟩
theorem dDV_frontBox_11 : gD mDV_frontBox 11 (.iconst 0) 1 12 := ⟨by decide +kernel, rfl⟩
theorem dDV_frontBox_12 : gD mDV_frontBox 12 (.istore 5) 2 14 := ⟨by decide +kernel, rfl⟩
theorem dDV_frontBox_14 : gD mDV_frontBox 14 (.iload 5) 2 16 := ⟨by decide +kernel, rfl⟩
theorem dDV_frontBox_16 : gD mDV_frontBox 16 (.bipush 6) 2 18 := ⟨by decide +kernel, rfl⟩
theorem dDV_frontBox_18 : gB mDV_frontBox 18 (.if_icmp .ge 26) 26 44 21 := ⟨by decide +kernel, by decide, rfl⟩
theorem dDV_frontBox_21 : gD mDV_frontBox 21 (.aload 4) 2 23 := ⟨by decide +kernel, rfl⟩
theorem dDV_frontBox_23 : gB mDV_frontBox 23 (.ifnull 21) 21 44 26 := ⟨by decide +kernel, by decide, rfl⟩
theorem dDV_frontBox_26 : gD mDV_frontBox 26 (.aload 4) 2 28 := ⟨by decide +kernel, rfl⟩
theorem dDV_frontBox_28 : gD mDV_frontBox 28 (.astore_n 3) 1 29 := ⟨by decide +kernel, rfl⟩
theorem dDV_frontBox_29 : gD mDV_frontBox 29 (.aload_n 0) 1 30 := ⟨by decide +kernel, rfl⟩
theorem dDV_frontBox_30 : gD mDV_frontBox 30 (.aload_n 3) 1 31 := ⟨by decide +kernel, rfl⟩
theorem dDV_frontBox_31 : gD mDV_frontBox 31 (.iload_n 1) 1 32 := ⟨by decide +kernel, rfl⟩
theorem dDV_frontBox_32 : gD mDV_frontBox 32 (.iload_n 2) 1 33 := ⟨by decide +kernel, rfl⟩
theorem dDV_frontBox_33 : gD mDV_frontBox 33 (.invokevirtual 180) 3 36 := ⟨by decide +kernel, rfl⟩
theorem dDV_frontBox_36 : gD mDV_frontBox 36 (.astore 4) 2 38 := ⟨by decide +kernel, rfl⟩
theorem dDV_frontBox_38 : gD mDV_frontBox 38 (.iinc 5 1) 3 41 := ⟨by decide +kernel, rfl⟩
theorem dDV_frontBox_41 : gB mDV_frontBox 41 (.goto (-27)) (-27) 14 44 := ⟨by decide +kernel, by decide, rfl⟩
theorem dDV_frontBox_44 : gD mDV_frontBox 44 (.aload_n 3) 1 45 := ⟨by decide +kernel, rfl⟩
theorem dDV_frontBox_45 : decode mDV_frontBox.2.1 45 = .ok (.areturn, 1) := by decide +kernel
theorem dDV_frontChild_0 : gD mDV_frontChild 0 (.aload_n 0) 1 1 := ⟨by decide +kernel, rfl⟩
theorem dDV_frontChild_1 : gD mDV_frontChild 1 (.getfield 45) 3 4 := ⟨by decide +kernel, rfl⟩
theorem dDV_frontChild_4 : gD mDV_frontChild 4 (.iconst 1) 1 5 := ⟨by decide +kernel, rfl⟩
theorem dDV_frontChild_5 : gD mDV_frontChild 5 (.isub) 1 6 := ⟨by decide +kernel, rfl⟩
theorem dDV_frontChild_6 : gD mDV_frontChild 6 (.istore 4) 2 8 := ⟨by decide +kernel, rfl⟩
theorem dDV_frontChild_8 : gD mDV_frontChild 8 (.iload 4) 2 10 := ⟨by decide +kernel, rfl⟩
theorem dDV_frontChild_10 : gB mDV_frontChild 10 (.ifCond .lt 49) 49 59 13 := ⟨by decide +kernel, by decide, rfl⟩
theorem dDV_frontChild_13 : gD mDV_frontChild 13 (.aload_n 0) 1 14 := ⟨by decide +kernel, rfl⟩
theorem dDV_frontChild_14 : gD mDV_frontChild 14 (.getfield 22) 3 17 := ⟨by decide +kernel, rfl⟩
theorem dDV_frontChild_17 : gD mDV_frontChild 17 (.iload 4) 2 19 := ⟨by decide +kernel, rfl⟩
theorem dDV_frontChild_19 : gD mDV_frontChild 19 (.aaload) 1 20 := ⟨by decide +kernel, rfl⟩
theorem dDV_frontChild_20 : gD mDV_frontChild 20 (.getfield 177) 3 23 := ⟨by decide +kernel, rfl⟩
theorem dDV_frontChild_23 : gD mDV_frontChild 23 (.aload_n 1) 1 24 := ⟨by decide +kernel, rfl⟩
theorem dDV_frontChild_24 : gB mDV_frontChild 24 (.if_acmp .ne 29) 29 53 27 := ⟨by decide +kernel, by decide, rfl⟩
theorem dDV_frontChild_27 : gD mDV_frontChild 27 (.aload_n 0) 1 28 := ⟨by decide +kernel, rfl⟩
theorem dDV_frontChild_28 : gD mDV_frontChild 28 (.getfield 22) 3 31 := ⟨by decide +kernel, rfl⟩
theorem dDV_frontChild_31 : gD mDV_frontChild 31 (.iload 4) 2 33 := ⟨by decide +kernel, rfl⟩
theorem dDV_frontChild_33 : gD mDV_frontChild 33 (.aaload) 1 34 := ⟨by decide +kernel, rfl⟩
theorem dDV_frontChild_34 : gD mDV_frontChild 34 (.getfield 113) 3 37 := ⟨by decide +kernel, rfl⟩
theorem dDV_frontChild_37 : gD mDV_frontChild 37 (.iload_n 2) 1 38 := ⟨by decide +kernel, rfl⟩
theorem dDV_frontChild_38 : gD mDV_frontChild 38 (.iload_n 3) 1 39 := ⟨by decide +kernel, rfl⟩
theorem dDV_frontChild_39 : gD mDV_frontChild 39 (.invokevirtual 184) 3 42 := ⟨by decide +kernel, rfl⟩
theorem dDV_frontChild_42 : gB mDV_frontChild 42 (.ifCond .eq 11) 11 53 45 := ⟨by decide +kernel, by decide, rfl⟩
theorem dDV_frontChild_45 : gD mDV_frontChild 45 (.aload_n 0) 1 46 := ⟨by decide +kernel, rfl⟩
theorem dDV_frontChild_46 : gD mDV_frontChild 46 (.getfield 22) 3 49 := ⟨by decide +kernel, rfl⟩
theorem dDV_frontChild_49 : gD mDV_frontChild 49 (.iload 4) 2 51 := ⟨by decide +kernel, rfl⟩
theorem dDV_frontChild_51 : gD mDV_frontChild 51 (.aaload) 1 52 := ⟨by decide +kernel, rfl⟩
theorem dDV_frontChild_52 : decode mDV_frontChild.2.1 52 = .ok (.areturn, 1) := by decide +kernel
theorem dDV_frontChild_53 : gD mDV_frontChild 53 (.iinc 4 (-1)) 3 56 := ⟨by decide +kernel, rfl⟩
theorem dDV_frontChild_56 : gB mDV_frontChild 56 (.goto (-48)) (-48) 8 59 := ⟨by decide +kernel, by decide, rfl⟩
theorem dDV_frontChild_59 : gD mDV_frontChild 59 (.aconst_null) 1 60 := ⟨by decide +kernel, rfl⟩
theorem dDV_frontChild_60 : decode mDV_frontChild.2.1 60 = .ok (.areturn, 1) := by decide +kernel
theorem dDV_pictureAt_0 : gD mDV_pictureAt 0 (.aload_n 0) 1 1 := ⟨by decide +kernel, rfl⟩
theorem dDV_pictureAt_1 : gD mDV_pictureAt 1 (.iload_n 1) 1 2 := ⟨by decide +kernel, rfl⟩
theorem dDV_pictureAt_2 : gD mDV_pictureAt 2 (.iload_n 2) 1 3 := ⟨by decide +kernel, rfl⟩
theorem dDV_pictureAt_3 : gD mDV_pictureAt 3 (.invokevirtual 121) 3 6 := ⟨by decide +kernel, rfl⟩
theorem dDV_pictureAt_6 : gD mDV_pictureAt 6 (.astore_n 3) 1 7 := ⟨by decide +kernel, rfl⟩
theorem dDV_pictureAt_7 : gD mDV_pictureAt 7 (.aload_n 3) 1 8 := ⟨by decide +kernel, rfl⟩
theorem dDV_pictureAt_8 : gB mDV_pictureAt 8 (.ifnonnull 7) 7 15 11 := ⟨by decide +kernel, by decide, rfl⟩
theorem dDV_pictureAt_11 : gD mDV_pictureAt 11 (.iconst 0) 1 12 := ⟨by decide +kernel, rfl⟩
theorem dDV_pictureAt_12 : gB mDV_pictureAt 12 (.goto 7) 7 19 15 := ⟨by decide +kernel, by decide, rfl⟩
theorem dDV_pictureAt_15 : gD mDV_pictureAt 15 (.aload_n 3) 1 16 := ⟨by decide +kernel, rfl⟩
theorem dDV_pictureAt_16 : gD mDV_pictureAt 16 (.getfield 189) 3 19 := ⟨by decide +kernel, rfl⟩
theorem dDV_pictureAt_19 : decode mDV_pictureAt.2.1 19 = .ok (.ireturn, 1) := by decide +kernel
theorem dDV_activate_0 : gD mDV_activate 0 (.aload_n 0) 1 1 := ⟨by decide +kernel, rfl⟩
theorem dDV_activate_1 : gD mDV_activate 1 (.astore_n 1) 1 2 := ⟨by decide +kernel, rfl⟩
theorem dDV_activate_2 : gD mDV_activate 2 (.iconst 0) 1 3 := ⟨by decide +kernel, rfl⟩
theorem dDV_activate_3 : gD mDV_activate 3 (.istore_n 2) 1 4 := ⟨by decide +kernel, rfl⟩
theorem dDV_activate_4 : gD mDV_activate 4 (.iload_n 2) 1 5 := ⟨by decide +kernel, rfl⟩
theorem dDV_activate_5 : gD mDV_activate 5 (.bipush 6) 2 7 := ⟨by decide +kernel, rfl⟩
theorem dDV_activate_7 : gB mDV_activate 7 (.if_icmp .ge 28) 28 35 10 := ⟨by decide +kernel, by decide, rfl⟩
theorem dDV_activate_10 : gD mDV_activate 10 (.aload_n 1) 1 11 := ⟨by decide +kernel, rfl⟩
theorem dDV_activate_11 : gB mDV_activate 11 (.ifnull 24) 24 35 14 := ⟨by decide +kernel, by decide, rfl⟩
theorem dDV_activate_14 : gD mDV_activate 14 (.aload_n 1) 1 15 := ⟨by decide +kernel, rfl⟩
theorem dDV_activate_15 : gD mDV_activate 15 (.dup) 1 16 := ⟨by decide +kernel, rfl⟩
theorem dDV_activate_16 : gD mDV_activate 16 (.getfield 152) 3 19 := ⟨by decide +kernel, rfl⟩
theorem dDV_activate_19 : gD mDV_activate 19 (.iconst 1) 1 20 := ⟨by decide +kernel, rfl⟩
theorem dDV_activate_20 : gD mDV_activate 20 (.iadd) 1 21 := ⟨by decide +kernel, rfl⟩
theorem dDV_activate_21 : gD mDV_activate 21 (.putfield 152) 3 24 := ⟨by decide +kernel, rfl⟩
theorem dDV_activate_24 : gD mDV_activate 24 (.aload_n 1) 1 25 := ⟨by decide +kernel, rfl⟩
theorem dDV_activate_25 : gD mDV_activate 25 (.getfield 177) 3 28 := ⟨by decide +kernel, rfl⟩
theorem dDV_activate_28 : gD mDV_activate 28 (.astore_n 1) 1 29 := ⟨by decide +kernel, rfl⟩
theorem dDV_activate_29 : gD mDV_activate 29 (.iinc 2 1) 3 32 := ⟨by decide +kernel, rfl⟩
theorem dDV_activate_32 : gB mDV_activate 32 (.goto (-28)) (-28) 4 35 := ⟨by decide +kernel, by decide, rfl⟩
theorem dDV_activate_35 : gD mDV_activate 35 (.aload_n 0) 1 36 := ⟨by decide +kernel, rfl⟩
theorem dDV_activate_36 : gD mDV_activate 36 (.getfield 192) 3 39 := ⟨by decide +kernel, rfl⟩
theorem dDV_activate_39 : gD mDV_activate 39 (.iconst 2) 1 40 := ⟨by decide +kernel, rfl⟩
theorem dDV_activate_40 : gB mDV_activate 40 (.if_icmp .ne 19) 19 59 43 := ⟨by decide +kernel, by decide, rfl⟩
theorem dDV_activate_43 : gD mDV_activate 43 (.aload_n 0) 1 44 := ⟨by decide +kernel, rfl⟩
theorem dDV_activate_44 : gD mDV_activate 44 (.aload_n 0) 1 45 := ⟨by decide +kernel, rfl⟩
theorem dDV_activate_45 : gD mDV_activate 45 (.getfield 195) 3 48 := ⟨by decide +kernel, rfl⟩
theorem dDV_activate_48 : gB mDV_activate 48 (.ifCond .ne 7) 7 55 51 := ⟨by decide +kernel, by decide, rfl⟩
theorem dDV_activate_51 : gD mDV_activate 51 (.iconst 1) 1 52 := ⟨by decide +kernel, rfl⟩
theorem dDV_activate_52 : gB mDV_activate 52 (.goto 4) 4 56 55 := ⟨by decide +kernel, by decide, rfl⟩
theorem dDV_activate_55 : gD mDV_activate 55 (.iconst 0) 1 56 := ⟨by decide +kernel, rfl⟩
theorem dDV_activate_56 : gD mDV_activate 56 (.putfield 195) 3 59 := ⟨by decide +kernel, rfl⟩
theorem dDV_activate_59 : decode mDV_activate.2.1 59 = .ok (.return_, 1) := by decide +kernel
theorem dDV_showChanges_0 : gD mDV_showChanges 0 (.iconst 0) 1 1 := ⟨by decide +kernel, rfl⟩
theorem dDV_showChanges_1 : gD mDV_showChanges 1 (.istore_n 1) 1 2 := ⟨by decide +kernel, rfl⟩
theorem dDV_showChanges_2 : gD mDV_showChanges 2 (.iload_n 1) 1 3 := ⟨by decide +kernel, rfl⟩
theorem dDV_showChanges_3 : gD mDV_showChanges 3 (.aload_n 0) 1 4 := ⟨by decide +kernel, rfl⟩
theorem dDV_showChanges_4 : gD mDV_showChanges 4 (.getfield 45) 3 7 := ⟨by decide +kernel, rfl⟩
theorem dDV_showChanges_7 : gB mDV_showChanges 7 (.if_icmp .ge 25) 25 32 10 := ⟨by decide +kernel, by decide, rfl⟩
theorem dDV_showChanges_10 : gD mDV_showChanges 10 (.aload_n 0) 1 11 := ⟨by decide +kernel, rfl⟩
theorem dDV_showChanges_11 : gD mDV_showChanges 11 (.getfield 18) 3 14 := ⟨by decide +kernel, rfl⟩
theorem dDV_showChanges_14 : gD mDV_showChanges 14 (.iload_n 1) 1 15 := ⟨by decide +kernel, rfl⟩
theorem dDV_showChanges_15 : gD mDV_showChanges 15 (.aaload) 1 16 := ⟨by decide +kernel, rfl⟩
theorem dDV_showChanges_16 : gD mDV_showChanges 16 (.aload_n 0) 1 17 := ⟨by decide +kernel, rfl⟩
theorem dDV_showChanges_17 : gD mDV_showChanges 17 (.getfield 34) 3 20 := ⟨by decide +kernel, rfl⟩
theorem dDV_showChanges_20 : gD mDV_showChanges 20 (.getfield 90) 3 23 := ⟨by decide +kernel, rfl⟩
theorem dDV_showChanges_23 : gD mDV_showChanges 23 (.invokevirtual 198) 3 26 := ⟨by decide +kernel, rfl⟩
theorem dDV_showChanges_26 : gD mDV_showChanges 26 (.iinc 1 1) 3 29 := ⟨by decide +kernel, rfl⟩
theorem dDV_showChanges_29 : gB mDV_showChanges 29 (.goto (-27)) (-27) 2 32 := ⟨by decide +kernel, by decide, rfl⟩
theorem dDV_showChanges_32 : gD mDV_showChanges 32 (.aload_n 0) 1 33 := ⟨by decide +kernel, rfl⟩
theorem dDV_showChanges_33 : gD mDV_showChanges 33 (.getfield 137) 3 36 := ⟨by decide +kernel, rfl⟩
theorem dDV_showChanges_36 : gB mDV_showChanges 36 (.ifnull 18) 18 54 39 := ⟨by decide +kernel, by decide, rfl⟩
theorem dDV_showChanges_39 : gD mDV_showChanges 39 (.aload_n 0) 1 40 := ⟨by decide +kernel, rfl⟩
theorem dDV_showChanges_40 : gD mDV_showChanges 40 (.getfield 137) 3 43 := ⟨by decide +kernel, rfl⟩
theorem dDV_showChanges_43 : gD mDV_showChanges 43 (.invokevirtual 133) 3 46 := ⟨by decide +kernel, rfl⟩
theorem dDV_showChanges_46 : gB mDV_showChanges 46 (.ifCond .ne 8) 8 54 49 := ⟨by decide +kernel, by decide, rfl⟩
theorem dDV_showChanges_49 : gD mDV_showChanges 49 (.aload_n 0) 1 50 := ⟨by decide +kernel, rfl⟩
theorem dDV_showChanges_50 : gD mDV_showChanges 50 (.aconst_null) 1 51 := ⟨by decide +kernel, rfl⟩
theorem dDV_showChanges_51 : gD mDV_showChanges 51 (.putfield 137) 3 54 := ⟨by decide +kernel, rfl⟩
theorem dDV_showChanges_54 : gD mDV_showChanges 54 (.aload_n 0) 1 55 := ⟨by decide +kernel, rfl⟩
theorem dDV_showChanges_55 : gD mDV_showChanges 55 (.getfield 129) 3 58 := ⟨by decide +kernel, rfl⟩
theorem dDV_showChanges_58 : gB mDV_showChanges 58 (.ifnull 18) 18 76 61 := ⟨by decide +kernel, by decide, rfl⟩
theorem dDV_showChanges_61 : gD mDV_showChanges 61 (.aload_n 0) 1 62 := ⟨by decide +kernel, rfl⟩
theorem dDV_showChanges_62 : gD mDV_showChanges 62 (.getfield 129) 3 65 := ⟨by decide +kernel, rfl⟩
theorem dDV_showChanges_65 : gD mDV_showChanges 65 (.invokevirtual 133) 3 68 := ⟨by decide +kernel, rfl⟩
theorem dDV_showChanges_68 : gB mDV_showChanges 68 (.ifCond .ne 8) 8 76 71 := ⟨by decide +kernel, by decide, rfl⟩
theorem dDV_showChanges_71 : gD mDV_showChanges 71 (.aload_n 0) 1 72 := ⟨by decide +kernel, rfl⟩
theorem dDV_showChanges_72 : gD mDV_showChanges 72 (.aconst_null) 1 73 := ⟨by decide +kernel, rfl⟩
theorem dDV_showChanges_73 : gD mDV_showChanges 73 (.putfield 129) 3 76 := ⟨by decide +kernel, rfl⟩
theorem dDV_showChanges_76 : gD mDV_showChanges 76 (.iconst 0) 1 77 := ⟨by decide +kernel, rfl⟩
theorem dDV_showChanges_77 : gD mDV_showChanges 77 (.istore_n 1) 1 78 := ⟨by decide +kernel, rfl⟩
theorem dDV_showChanges_78 : gD mDV_showChanges 78 (.iload_n 1) 1 79 := ⟨by decide +kernel, rfl⟩
theorem dDV_showChanges_79 : gD mDV_showChanges 79 (.aload_n 0) 1 80 := ⟨by decide +kernel, rfl⟩
theorem dDV_showChanges_80 : gD mDV_showChanges 80 (.getfield 45) 3 83 := ⟨by decide +kernel, rfl⟩
theorem dDV_showChanges_83 : gB mDV_showChanges 83 (.if_icmp .ge 19) 19 102 86 := ⟨by decide +kernel, by decide, rfl⟩
theorem dDV_showChanges_86 : gD mDV_showChanges 86 (.aload_n 0) 1 87 := ⟨by decide +kernel, rfl⟩
theorem dDV_showChanges_87 : gD mDV_showChanges 87 (.aload_n 0) 1 88 := ⟨by decide +kernel, rfl⟩
theorem dDV_showChanges_88 : gD mDV_showChanges 88 (.getfield 18) 3 91 := ⟨by decide +kernel, rfl⟩
theorem dDV_showChanges_91 : gD mDV_showChanges 91 (.iload_n 1) 1 92 := ⟨by decide +kernel, rfl⟩
theorem dDV_showChanges_92 : gD mDV_showChanges 92 (.aaload) 1 93 := ⟨by decide +kernel, rfl⟩
theorem dDV_showChanges_93 : gD mDV_showChanges 93 (.invokevirtual 202) 3 96 := ⟨by decide +kernel, rfl⟩
theorem dDV_showChanges_96 : gD mDV_showChanges 96 (.iinc 1 1) 3 99 := ⟨by decide +kernel, rfl⟩
theorem dDV_showChanges_99 : gB mDV_showChanges 99 (.goto (-21)) (-21) 78 102 := ⟨by decide +kernel, by decide, rfl⟩
theorem dDV_showChanges_102 : decode mDV_showChanges.2.1 102 = .ok (.return_, 1) := by decide +kernel
theorem dDV_showBox_0 : gD mDV_showBox 0 (.aload_n 0) 1 1 := ⟨by decide +kernel, rfl⟩
theorem dDV_showBox_1 : gD mDV_showBox 1 (.aload_n 1) 1 2 := ⟨by decide +kernel, rfl⟩
theorem dDV_showBox_2 : gD mDV_showBox 2 (.invokevirtual 205) 3 5 := ⟨by decide +kernel, rfl⟩
theorem dDV_showBox_5 : gD mDV_showBox 5 (.istore_n 2) 1 6 := ⟨by decide +kernel, rfl⟩
theorem dDV_showBox_6 : gD mDV_showBox 6 (.iload_n 2) 1 7 := ⟨by decide +kernel, rfl⟩
theorem dDV_showBox_7 : gD mDV_showBox 7 (.aload_n 1) 1 8 := ⟨by decide +kernel, rfl⟩
theorem dDV_showBox_8 : gD mDV_showBox 8 (.getfield 189) 3 11 := ⟨by decide +kernel, rfl⟩
theorem dDV_showBox_11 : gB mDV_showBox 11 (.if_icmp .ne 17) 17 28 14 := ⟨by decide +kernel, by decide, rfl⟩
theorem dDV_showBox_14 : gD mDV_showBox 14 (.aload_n 1) 1 15 := ⟨by decide +kernel, rfl⟩
theorem dDV_showBox_15 : gD mDV_showBox 15 (.getfield 113) 3 18 := ⟨by decide +kernel, rfl⟩
theorem dDV_showBox_18 : gD mDV_showBox 18 (.aload_n 1) 1 19 := ⟨by decide +kernel, rfl⟩
theorem dDV_showBox_19 : gD mDV_showBox 19 (.getfield 208) 3 22 := ⟨by decide +kernel, rfl⟩
theorem dDV_showBox_22 : gD mDV_showBox 22 (.invokevirtual 211) 3 25 := ⟨by decide +kernel, rfl⟩
theorem dDV_showBox_25 : gB mDV_showBox 25 (.ifCond .ne 25) 25 50 28 := ⟨by decide +kernel, by decide, rfl⟩
theorem dDV_showBox_28 : gD mDV_showBox 28 (.aload_n 0) 1 29 := ⟨by decide +kernel, rfl⟩
theorem dDV_showBox_29 : gD mDV_showBox 29 (.getfield 12) 3 32 := ⟨by decide +kernel, rfl⟩
theorem dDV_showBox_32 : gD mDV_showBox 32 (.aload_n 1) 1 33 := ⟨by decide +kernel, rfl⟩
theorem dDV_showBox_33 : gD mDV_showBox 33 (.getfield 208) 3 36 := ⟨by decide +kernel, rfl⟩
theorem dDV_showBox_36 : gD mDV_showBox 36 (.invokevirtual 117) 3 39 := ⟨by decide +kernel, rfl⟩
theorem dDV_showBox_39 : gD mDV_showBox 39 (.aload_n 0) 1 40 := ⟨by decide +kernel, rfl⟩
theorem dDV_showBox_40 : gD mDV_showBox 40 (.getfield 12) 3 43 := ⟨by decide +kernel, rfl⟩
theorem dDV_showBox_43 : gD mDV_showBox 43 (.aload_n 1) 1 44 := ⟨by decide +kernel, rfl⟩
theorem dDV_showBox_44 : gD mDV_showBox 44 (.getfield 113) 3 47 := ⟨by decide +kernel, rfl⟩
theorem dDV_showBox_47 : gD mDV_showBox 47 (.invokevirtual 117) 3 50 := ⟨by decide +kernel, rfl⟩
theorem dDV_showBox_50 : gD mDV_showBox 50 (.aload_n 1) 1 51 := ⟨by decide +kernel, rfl⟩
theorem dDV_showBox_51 : gD mDV_showBox 51 (.iload_n 2) 1 52 := ⟨by decide +kernel, rfl⟩
theorem dDV_showBox_52 : gD mDV_showBox 52 (.putfield 189) 3 55 := ⟨by decide +kernel, rfl⟩
theorem dDV_showBox_55 : decode mDV_showBox.2.1 55 = .ok (.return_, 1) := by decide +kernel
theorem dDV_colourOf_0 : gD mDV_colourOf 0 (.iconst 1) 1 1 := ⟨by decide +kernel, rfl⟩
theorem dDV_colourOf_1 : gD mDV_colourOf 1 (.aload_n 1) 1 2 := ⟨by decide +kernel, rfl⟩
theorem dDV_colourOf_2 : gD mDV_colourOf 2 (.getfield 143) 3 5 := ⟨by decide +kernel, rfl⟩
theorem dDV_colourOf_5 : gD mDV_colourOf 5 (.iadd) 1 6 := ⟨by decide +kernel, rfl⟩
theorem dDV_colourOf_6 : gD mDV_colourOf 6 (.aload_n 1) 1 7 := ⟨by decide +kernel, rfl⟩
theorem dDV_colourOf_7 : gD mDV_colourOf 7 (.getfield 195) 3 10 := ⟨by decide +kernel, rfl⟩
theorem dDV_colourOf_10 : gB mDV_colourOf 10 (.ifCond .eq 8) 8 18 13 := ⟨by decide +kernel, by decide, rfl⟩
theorem dDV_colourOf_13 : gD mDV_colourOf 13 (.bipush 8) 2 15 := ⟨by decide +kernel, rfl⟩
theorem dDV_colourOf_15 : gB mDV_colourOf 15 (.goto 4) 4 19 18 := ⟨by decide +kernel, by decide, rfl⟩
theorem dDV_colourOf_18 : gD mDV_colourOf 18 (.iconst 0) 1 19 := ⟨by decide +kernel, rfl⟩
theorem dDV_colourOf_19 : gD mDV_colourOf 19 (.iadd) 1 20 := ⟨by decide +kernel, rfl⟩
theorem dDV_colourOf_20 : gD mDV_colourOf 20 (.aload_n 1) 1 21 := ⟨by decide +kernel, rfl⟩
theorem dDV_colourOf_21 : gD mDV_colourOf 21 (.aload_n 0) 1 22 := ⟨by decide +kernel, rfl⟩
theorem dDV_colourOf_22 : gD mDV_colourOf 22 (.getfield 137) 3 25 := ⟨by decide +kernel, rfl⟩
theorem dDV_colourOf_25 : gB mDV_colourOf 25 (.if_acmp .ne 8) 8 33 28 := ⟨by decide +kernel, by decide, rfl⟩
theorem dDV_colourOf_28 : gD mDV_colourOf 28 (.bipush 16) 2 30 := ⟨by decide +kernel, rfl⟩
theorem dDV_colourOf_30 : gB mDV_colourOf 30 (.goto 4) 4 34 33 := ⟨by decide +kernel, by decide, rfl⟩
theorem dDV_colourOf_33 : gD mDV_colourOf 33 (.iconst 0) 1 34 := ⟨by decide +kernel, rfl⟩
theorem dDV_colourOf_34 : gD mDV_colourOf 34 (.iadd) 1 35 := ⟨by decide +kernel, rfl⟩
theorem dDV_colourOf_35 : gD mDV_colourOf 35 (.aload_n 1) 1 36 := ⟨by decide +kernel, rfl⟩
theorem dDV_colourOf_36 : gD mDV_colourOf 36 (.aload_n 0) 1 37 := ⟨by decide +kernel, rfl⟩
theorem dDV_colourOf_37 : gD mDV_colourOf 37 (.getfield 129) 3 40 := ⟨by decide +kernel, rfl⟩
theorem dDV_colourOf_40 : gB mDV_colourOf 40 (.if_acmp .ne 8) 8 48 43 := ⟨by decide +kernel, by decide, rfl⟩
theorem dDV_colourOf_43 : gD mDV_colourOf 43 (.bipush 32) 2 45 := ⟨by decide +kernel, rfl⟩
theorem dDV_colourOf_45 : gB mDV_colourOf 45 (.goto 4) 4 49 48 := ⟨by decide +kernel, by decide, rfl⟩
theorem dDV_colourOf_48 : gD mDV_colourOf 48 (.iconst 0) 1 49 := ⟨by decide +kernel, rfl⟩
theorem dDV_colourOf_49 : gD mDV_colourOf 49 (.iadd) 1 50 := ⟨by decide +kernel, rfl⟩
theorem dDV_colourOf_50 : decode mDV_colourOf.2.1 50 = .ok (.ireturn, 1) := by decide +kernel
end
section
theorem dLA_init_0 : gD mLA_init 0 (.aload_n 0) 1 1 := ⟨by decide +kernel, rfl⟩
theorem dLA_init_1 : gD mLA_init 1 (.invokespecial 3) 3 4 := ⟨by decide +kernel, rfl⟩
theorem dLA_init_4 : gD mLA_init 4 (.aload_n 0) 1 5 := ⟨by decide +kernel, rfl⟩
theorem dLA_init_5 : gD mLA_init 5 (.bipush 24) 2 7 := ⟨by decide +kernel, rfl⟩
theorem dLA_init_7 : gD mLA_init 7 (.newarray .int) 2 9 := ⟨by decide +kernel, rfl⟩
theorem dLA_init_9 : gD mLA_init 9 (.putfield 9) 3 12 := ⟨by decide +kernel, rfl⟩
theorem dLA_init_12 : gD mLA_init 12 (.aload_n 0) 1 13 := ⟨by decide +kernel, rfl⟩
theorem dLA_init_13 : gD mLA_init 13 (.bipush 16) 2 15 := ⟨by decide +kernel, rfl⟩
theorem dLA_init_15 : gD mLA_init 15 (.anewarray 15) 3 18 := ⟨by decide +kernel, rfl⟩
theorem dLA_init_18 : gD mLA_init 18 (.putfield 17) 3 21 := ⟨by decide +kernel, rfl⟩
theorem dLA_init_21 : gD mLA_init 21 (.aload_n 0) 1 22 := ⟨by decide +kernel, rfl⟩
theorem dLA_init_22 : gD mLA_init 22 (.new 21) 3 25 := ⟨by decide +kernel, rfl⟩
theorem dLA_init_25 : gD mLA_init 25 (.dup) 1 26 := ⟨by decide +kernel, rfl⟩
theorem dLA_init_26 : gD mLA_init 26 (.invokespecial 23) 3 29 := ⟨by decide +kernel, rfl⟩
theorem dLA_init_29 : gD mLA_init 29 (.putfield 24) 3 32 := ⟨by decide +kernel, rfl⟩
theorem dLA_init_32 : gD mLA_init 32 (.aload_n 0) 1 33 := ⟨by decide +kernel, rfl⟩
theorem dLA_init_33 : gD mLA_init 33 (.iload_n 1) 1 34 := ⟨by decide +kernel, rfl⟩
theorem dLA_init_34 : gD mLA_init 34 (.putfield 28) 3 37 := ⟨by decide +kernel, rfl⟩
theorem dLA_init_37 : gD mLA_init 37 (.aload_n 0) 1 38 := ⟨by decide +kernel, rfl⟩
theorem dLA_init_38 : gD mLA_init 38 (.iload_n 2) 1 39 := ⟨by decide +kernel, rfl⟩
theorem dLA_init_39 : gD mLA_init 39 (.putfield 32) 3 42 := ⟨by decide +kernel, rfl⟩
theorem dLA_init_42 : gD mLA_init 42 (.aload_n 0) 1 43 := ⟨by decide +kernel, rfl⟩
theorem dLA_init_43 : gD mLA_init 43 (.getfield 9) 3 46 := ⟨by decide +kernel, rfl⟩
theorem dLA_init_46 : gD mLA_init 46 (.iconst 1) 1 47 := ⟨by decide +kernel, rfl⟩
theorem dLA_init_47 : gD mLA_init 47 (.iload_n 1) 1 48 := ⟨by decide +kernel, rfl⟩
theorem dLA_init_48 : gD mLA_init 48 (.iastore) 1 49 := ⟨by decide +kernel, rfl⟩
theorem dLA_init_49 : gD mLA_init 49 (.aload_n 0) 1 50 := ⟨by decide +kernel, rfl⟩
theorem dLA_init_50 : gD mLA_init 50 (.getfield 9) 3 53 := ⟨by decide +kernel, rfl⟩
theorem dLA_init_53 : gD mLA_init 53 (.iconst 3) 1 54 := ⟨by decide +kernel, rfl⟩
theorem dLA_init_54 : gD mLA_init 54 (.iload_n 2) 1 55 := ⟨by decide +kernel, rfl⟩
theorem dLA_init_55 : gD mLA_init 55 (.iastore) 1 56 := ⟨by decide +kernel, rfl⟩
theorem dLA_init_56 : decode mLA_init.2.1 56 = .ok (.return_, 1) := by decide +kernel
theorem dLA_isEdge_0 : gD mLA_isEdge 0 (.iload_n 1) 1 1 := ⟨by decide +kernel, rfl⟩
theorem dLA_isEdge_1 : gB mLA_isEdge 1 (.ifCond .lt 15) 15 16 4 := ⟨by decide +kernel, by decide, rfl⟩
theorem dLA_isEdge_4 : gD mLA_isEdge 4 (.iload_n 1) 1 5 := ⟨by decide +kernel, rfl⟩
theorem dLA_isEdge_5 : gD mLA_isEdge 5 (.aload_n 0) 1 6 := ⟨by decide +kernel, rfl⟩
theorem dLA_isEdge_6 : gD mLA_isEdge 6 (.getfield 35) 3 9 := ⟨by decide +kernel, rfl⟩
theorem dLA_isEdge_9 : gB mLA_isEdge 9 (.if_icmp .ge 7) 7 16 12 := ⟨by decide +kernel, by decide, rfl⟩
theorem dLA_isEdge_12 : gD mLA_isEdge 12 (.iconst 1) 1 13 := ⟨by decide +kernel, rfl⟩
theorem dLA_isEdge_13 : gB mLA_isEdge 13 (.goto 4) 4 17 16 := ⟨by decide +kernel, by decide, rfl⟩
theorem dLA_isEdge_16 : gD mLA_isEdge 16 (.iconst 0) 1 17 := ⟨by decide +kernel, rfl⟩
theorem dLA_isEdge_17 : decode mLA_isEdge.2.1 17 = .ok (.ireturn, 1) := by decide +kernel
theorem dLA_canJoin_0 : gD mLA_canJoin 0 (.aload_n 0) 1 1 := ⟨by decide +kernel, rfl⟩
theorem dLA_canJoin_1 : gD mLA_canJoin 1 (.iload_n 1) 1 2 := ⟨by decide +kernel, rfl⟩
theorem dLA_canJoin_2 : gD mLA_canJoin 2 (.invokevirtual 38) 3 5 := ⟨by decide +kernel, rfl⟩
theorem dLA_canJoin_5 : gB mLA_canJoin 5 (.ifCond .eq 31) 31 36 8 := ⟨by decide +kernel, by decide, rfl⟩
theorem dLA_canJoin_8 : gD mLA_canJoin 8 (.aload_n 0) 1 9 := ⟨by decide +kernel, rfl⟩
theorem dLA_canJoin_9 : gD mLA_canJoin 9 (.iload_n 2) 1 10 := ⟨by decide +kernel, rfl⟩
theorem dLA_canJoin_10 : gD mLA_canJoin 10 (.invokevirtual 38) 3 13 := ⟨by decide +kernel, rfl⟩
theorem dLA_canJoin_13 : gB mLA_canJoin 13 (.ifCond .eq 23) 23 36 16 := ⟨by decide +kernel, by decide, rfl⟩
theorem dLA_canJoin_16 : gD mLA_canJoin 16 (.iload_n 1) 1 17 := ⟨by decide +kernel, rfl⟩
theorem dLA_canJoin_17 : gD mLA_canJoin 17 (.iload_n 2) 1 18 := ⟨by decide +kernel, rfl⟩
theorem dLA_canJoin_18 : gB mLA_canJoin 18 (.if_icmp .eq 18) 18 36 21 := ⟨by decide +kernel, by decide, rfl⟩
theorem dLA_canJoin_21 : gD mLA_canJoin 21 (.iload_n 1) 1 22 := ⟨by decide +kernel, rfl⟩
theorem dLA_canJoin_22 : gD mLA_canJoin 22 (.invokestatic 42) 3 25 := ⟨by decide +kernel, rfl⟩
theorem dLA_canJoin_25 : gD mLA_canJoin 25 (.iload_n 2) 1 26 := ⟨by decide +kernel, rfl⟩
theorem dLA_canJoin_26 : gD mLA_canJoin 26 (.invokestatic 42) 3 29 := ⟨by decide +kernel, rfl⟩
theorem dLA_canJoin_29 : gB mLA_canJoin 29 (.if_icmp .ne 7) 7 36 32 := ⟨by decide +kernel, by decide, rfl⟩
theorem dLA_canJoin_32 : gD mLA_canJoin 32 (.iconst 1) 1 33 := ⟨by decide +kernel, rfl⟩
theorem dLA_canJoin_33 : gB mLA_canJoin 33 (.goto 4) 4 37 36 := ⟨by decide +kernel, by decide, rfl⟩
theorem dLA_canJoin_36 : gD mLA_canJoin 36 (.iconst 0) 1 37 := ⟨by decide +kernel, rfl⟩
theorem dLA_canJoin_37 : decode mLA_canJoin.2.1 37 = .ok (.ireturn, 1) := by decide +kernel
theorem dLA_isTopOrBottom_0 : gD mLA_isTopOrBottom 0 (.iload_n 0) 1 1 := ⟨by decide +kernel, rfl⟩
theorem dLA_isTopOrBottom_1 : gD mLA_isTopOrBottom 1 (.iconst 4) 1 2 := ⟨by decide +kernel, rfl⟩
theorem dLA_isTopOrBottom_2 : gD mLA_isTopOrBottom 2 (.irem) 1 3 := ⟨by decide +kernel, rfl⟩
theorem dLA_isTopOrBottom_3 : gD mLA_isTopOrBottom 3 (.iconst 2) 1 4 := ⟨by decide +kernel, rfl⟩
theorem dLA_isTopOrBottom_4 : gB mLA_isTopOrBottom 4 (.if_icmp .lt 7) 7 11 7 := ⟨by decide +kernel, by decide, rfl⟩
theorem dLA_isTopOrBottom_7 : gD mLA_isTopOrBottom 7 (.iconst 1) 1 8 := ⟨by decide +kernel, rfl⟩
theorem dLA_isTopOrBottom_8 : gB mLA_isTopOrBottom 8 (.goto 4) 4 12 11 := ⟨by decide +kernel, by decide, rfl⟩
theorem dLA_isTopOrBottom_11 : gD mLA_isTopOrBottom 11 (.iconst 0) 1 12 := ⟨by decide +kernel, rfl⟩
theorem dLA_isTopOrBottom_12 : decode mLA_isTopOrBottom.2.1 12 = .ok (.ireturn, 1) := by decide +kernel
theorem dLA_freeNumber_0 : gD mLA_freeNumber 0 (.iconst 0) 1 1 := ⟨by decide +kernel, rfl⟩
theorem dLA_freeNumber_1 : gD mLA_freeNumber 1 (.istore_n 1) 1 2 := ⟨by decide +kernel, rfl⟩
theorem dLA_freeNumber_2 : gD mLA_freeNumber 2 (.iload_n 1) 1 3 := ⟨by decide +kernel, rfl⟩
theorem dLA_freeNumber_3 : gD mLA_freeNumber 3 (.bipush 16) 2 5 := ⟨by decide +kernel, rfl⟩
theorem dLA_freeNumber_5 : gB mLA_freeNumber 5 (.if_icmp .ge 20) 20 25 8 := ⟨by decide +kernel, by decide, rfl⟩
theorem dLA_freeNumber_8 : gD mLA_freeNumber 8 (.aload_n 0) 1 9 := ⟨by decide +kernel, rfl⟩
theorem dLA_freeNumber_9 : gD mLA_freeNumber 9 (.getfield 17) 3 12 := ⟨by decide +kernel, rfl⟩
theorem dLA_freeNumber_12 : gD mLA_freeNumber 12 (.iload_n 1) 1 13 := ⟨by decide +kernel, rfl⟩
theorem dLA_freeNumber_13 : gD mLA_freeNumber 13 (.aaload) 1 14 := ⟨by decide +kernel, rfl⟩
theorem dLA_freeNumber_14 : gB mLA_freeNumber 14 (.ifnonnull 5) 5 19 17 := ⟨by decide +kernel, by decide, rfl⟩
theorem dLA_freeNumber_17 : gD mLA_freeNumber 17 (.iload_n 1) 1 18 := ⟨by decide +kernel, rfl⟩
theorem dLA_freeNumber_18 : decode mLA_freeNumber.2.1 18 = .ok (.ireturn, 1) := by decide +kernel
theorem dLA_freeNumber_19 : gD mLA_freeNumber 19 (.iinc 1 1) 3 22 := ⟨by decide +kernel, rfl⟩
theorem dLA_freeNumber_22 : gB mLA_freeNumber 22 (.goto (-20)) (-20) 2 25 := ⟨by decide +kernel, by decide, rfl⟩
theorem dLA_freeNumber_25 : gD mLA_freeNumber 25 (.iconst (-1)) 1 26 := ⟨by decide +kernel, rfl⟩
theorem dLA_freeNumber_26 : decode mLA_freeNumber.2.1 26 = .ok (.ireturn, 1) := by decide +kernel
theorem dLA_constraintAt_0 : gD mLA_constraintAt 0 (.iload_n 1) 1 1 := ⟨by decide +kernel, rfl⟩
theorem dLA_constraintAt_1 : gB mLA_constraintAt 1 (.ifCond .lt 18) 18 19 4 := ⟨by decide +kernel, by decide, rfl⟩
theorem dLA_constraintAt_4 : gD mLA_constraintAt 4 (.iload_n 1) 1 5 := ⟨by decide +kernel, rfl⟩
theorem dLA_constraintAt_5 : gD mLA_constraintAt 5 (.bipush 16) 2 7 := ⟨by decide +kernel, rfl⟩
theorem dLA_constraintAt_7 : gB mLA_constraintAt 7 (.if_icmp .ge 12) 12 19 10 := ⟨by decide +kernel, by decide, rfl⟩
theorem dLA_constraintAt_10 : gD mLA_constraintAt 10 (.aload_n 0) 1 11 := ⟨by decide +kernel, rfl⟩
theorem dLA_constraintAt_11 : gD mLA_constraintAt 11 (.getfield 17) 3 14 := ⟨by decide +kernel, rfl⟩
theorem dLA_constraintAt_14 : gD mLA_constraintAt 14 (.iload_n 1) 1 15 := ⟨by decide +kernel, rfl⟩
theorem dLA_constraintAt_15 : gD mLA_constraintAt 15 (.aaload) 1 16 := ⟨by decide +kernel, rfl⟩
theorem dLA_constraintAt_16 : gB mLA_constraintAt 16 (.goto 4) 4 20 19 := ⟨by decide +kernel, by decide, rfl⟩
theorem dLA_constraintAt_19 : gD mLA_constraintAt 19 (.aconst_null) 1 20 := ⟨by decide +kernel, rfl⟩
theorem dLA_constraintAt_20 : decode mLA_constraintAt.2.1 20 = .ok (.areturn, 1) := by decide +kernel
theorem dLA_add_0 : gD mLA_add 0 (.aload_n 0) 1 1 := ⟨by decide +kernel, rfl⟩
theorem dLA_add_1 : gD mLA_add 1 (.getfield 17) 3 4 := ⟨by decide +kernel, rfl⟩
theorem dLA_add_4 : gD mLA_add 4 (.iload_n 1) 1 5 := ⟨by decide +kernel, rfl⟩
theorem dLA_add_5 : gD mLA_add 5 (.aload_n 2) 1 6 := ⟨by decide +kernel, rfl⟩
theorem dLA_add_6 : gD mLA_add 6 (.aastore) 1 7 := ⟨by decide +kernel, rfl⟩
theorem dLA_add_7 : gD mLA_add 7 (.aload_n 0) 1 8 := ⟨by decide +kernel, rfl⟩
theorem dLA_add_8 : gD mLA_add 8 (.invokevirtual 45) 3 11 := ⟨by decide +kernel, rfl⟩
theorem dLA_add_11 : gD mLA_add 11 (.istore_n 3) 1 12 := ⟨by decide +kernel, rfl⟩
theorem dLA_add_12 : gD mLA_add 12 (.iload_n 3) 1 13 := ⟨by decide +kernel, rfl⟩
theorem dLA_add_13 : gB mLA_add 13 (.ifCond .ne 10) 10 23 16 := ⟨by decide +kernel, by decide, rfl⟩
theorem dLA_add_16 : gD mLA_add 16 (.aload_n 0) 1 17 := ⟨by decide +kernel, rfl⟩
theorem dLA_add_17 : gD mLA_add 17 (.getfield 17) 3 20 := ⟨by decide +kernel, rfl⟩
theorem dLA_add_20 : gD mLA_add 20 (.iload_n 1) 1 21 := ⟨by decide +kernel, rfl⟩
theorem dLA_add_21 : gD mLA_add 21 (.aconst_null) 1 22 := ⟨by decide +kernel, rfl⟩
theorem dLA_add_22 : gD mLA_add 22 (.aastore) 1 23 := ⟨by decide +kernel, rfl⟩
theorem dLA_add_23 : gD mLA_add 23 (.iload_n 3) 1 24 := ⟨by decide +kernel, rfl⟩
theorem dLA_add_24 : decode mLA_add.2.1 24 = .ok (.ireturn, 1) := by decide +kernel
theorem dLA_takeAway_0 : gD mLA_takeAway 0 (.aload_n 0) 1 1 := ⟨by decide +kernel, rfl⟩
theorem dLA_takeAway_1 : gD mLA_takeAway 1 (.getfield 17) 3 4 := ⟨by decide +kernel, rfl⟩
theorem dLA_takeAway_4 : gD mLA_takeAway 4 (.iload_n 1) 1 5 := ⟨by decide +kernel, rfl⟩
theorem dLA_takeAway_5 : gD mLA_takeAway 5 (.aconst_null) 1 6 := ⟨by decide +kernel, rfl⟩
theorem dLA_takeAway_6 : gD mLA_takeAway 6 (.aastore) 1 7 := ⟨by decide +kernel, rfl⟩
theorem dLA_takeAway_7 : gD mLA_takeAway 7 (.aload_n 0) 1 8 := ⟨by decide +kernel, rfl⟩
theorem dLA_takeAway_8 : gD mLA_takeAway 8 (.invokevirtual 45) 3 11 := ⟨by decide +kernel, rfl⟩
theorem dLA_takeAway_11 : gD mLA_takeAway 11 (.pop) 1 12 := ⟨by decide +kernel, rfl⟩
theorem dLA_takeAway_12 : decode mLA_takeAway.2.1 12 = .ok (.return_, 1) := by decide +kernel
theorem dLA_setSize_0 : gD mLA_setSize 0 (.aload_n 0) 1 1 := ⟨by decide +kernel, rfl⟩
theorem dLA_setSize_1 : gD mLA_setSize 1 (.getfield 28) 3 4 := ⟨by decide +kernel, rfl⟩
theorem dLA_setSize_4 : gD mLA_setSize 4 (.istore_n 3) 1 5 := ⟨by decide +kernel, rfl⟩
theorem dLA_setSize_5 : gD mLA_setSize 5 (.aload_n 0) 1 6 := ⟨by decide +kernel, rfl⟩
theorem dLA_setSize_6 : gD mLA_setSize 6 (.getfield 32) 3 9 := ⟨by decide +kernel, rfl⟩
theorem dLA_setSize_9 : gD mLA_setSize 9 (.istore 4) 2 11 := ⟨by decide +kernel, rfl⟩
theorem dLA_setSize_11 : gD mLA_setSize 11 (.aload_n 0) 1 12 := ⟨by decide +kernel, rfl⟩
theorem dLA_setSize_12 : gD mLA_setSize 12 (.iload_n 1) 1 13 := ⟨by decide +kernel, rfl⟩
theorem dLA_setSize_13 : gD mLA_setSize 13 (.putfield 28) 3 16 := ⟨by decide +kernel, rfl⟩
theorem dLA_setSize_16 : gD mLA_setSize 16 (.aload_n 0) 1 17 := ⟨by decide +kernel, rfl⟩
theorem dLA_setSize_17 : gD mLA_setSize 17 (.iload_n 2) 1 18 := ⟨by decide +kernel, rfl⟩
theorem dLA_setSize_18 : gD mLA_setSize 18 (.putfield 32) 3 21 := ⟨by decide +kernel, rfl⟩
theorem dLA_setSize_21 : gD mLA_setSize 21 (.aload_n 0) 1 22 := ⟨by decide +kernel, rfl⟩
theorem dLA_setSize_22 : gD mLA_setSize 22 (.invokevirtual 45) 3 25 := ⟨by decide +kernel, rfl⟩
theorem dLA_setSize_25 : gD mLA_setSize 25 (.istore 5) 2 27 := ⟨by decide +kernel, rfl⟩
theorem dLA_setSize_27 : gD mLA_setSize 27 (.iload 5) 2 29 := ⟨by decide +kernel, rfl⟩
theorem dLA_setSize_29 : gB mLA_setSize 29 (.ifCond .ne 14) 14 43 32 := ⟨by decide +kernel, by decide, rfl⟩
theorem dLA_setSize_32 : gD mLA_setSize 32 (.aload_n 0) 1 33 := ⟨by decide +kernel, rfl⟩
theorem dLA_setSize_33 : gD mLA_setSize 33 (.iload_n 3) 1 34 := ⟨by decide +kernel, rfl⟩
theorem dLA_setSize_34 : gD mLA_setSize 34 (.putfield 28) 3 37 := ⟨by decide +kernel, rfl⟩
theorem dLA_setSize_37 : gD mLA_setSize 37 (.aload_n 0) 1 38 := ⟨by decide +kernel, rfl⟩
theorem dLA_setSize_38 : gD mLA_setSize 38 (.iload 4) 2 40 := ⟨by decide +kernel, rfl⟩
theorem dLA_setSize_40 : gD mLA_setSize 40 (.putfield 32) 3 43 := ⟨by decide +kernel, rfl⟩
theorem dLA_setSize_43 : gD mLA_setSize 43 (.iload 5) 2 45 := ⟨by decide +kernel, rfl⟩
theorem dLA_setSize_45 : decode mLA_setSize.2.1 45 = .ok (.ireturn, 1) := by decide +kernel
theorem dLA_solve_0 : gD mLA_solve 0 (.aload_n 0) 1 1 := ⟨by decide +kernel, rfl⟩
theorem dLA_solve_1 : gD mLA_solve 1 (.invokevirtual 49) 3 4 := ⟨by decide +kernel, rfl⟩
theorem dLA_solve_4 : gD mLA_solve 4 (.aload_n 0) 1 5 := ⟨by decide +kernel, rfl⟩
theorem dLA_solve_5 : gD mLA_solve 5 (.getfield 24) 3 8 := ⟨by decide +kernel, rfl⟩
theorem dLA_solve_8 : gD mLA_solve 8 (.getfield 52) 3 11 := ⟨by decide +kernel, rfl⟩
theorem dLA_solve_11 : gB mLA_solve 11 (.ifCond .eq 5) 5 16 14 := ⟨by decide +kernel, by decide, rfl⟩
theorem dLA_solve_14 : gD mLA_solve 14 (.iconst 0) 1 15 := ⟨by decide +kernel, rfl⟩
theorem dLA_solve_15 : decode mLA_solve.2.1 15 = .ok (.ireturn, 1) := by decide +kernel
theorem dLA_solve_16 : gD mLA_solve 16 (.aload_n 0) 1 17 := ⟨by decide +kernel, rfl⟩
theorem dLA_solve_17 : gD mLA_solve 17 (.invokevirtual 56) 3 20 := ⟨by decide +kernel, rfl⟩
theorem dLA_solve_20 : gD mLA_solve 20 (.iconst 1) 1 21 := ⟨by decide +kernel, rfl⟩
theorem dLA_solve_21 : decode mLA_solve.2.1 21 = .ok (.ireturn, 1) := by decide +kernel
theorem dLA_solveNear_0 : gD mLA_solveNear 0 (.aload_n 0) 1 1 := ⟨by decide +kernel, rfl⟩
theorem dLA_solveNear_1 : gD mLA_solveNear 1 (.invokevirtual 49) 3 4 := ⟨by decide +kernel, rfl⟩
theorem dLA_solveNear_4 : gD mLA_solveNear 4 (.aload_n 0) 1 5 := ⟨by decide +kernel, rfl⟩
theorem dLA_solveNear_5 : gD mLA_solveNear 5 (.getfield 24) 3 8 := ⟨by decide +kernel, rfl⟩
theorem dLA_solveNear_8 : gD mLA_solveNear 8 (.iload_n 1) 1 9 := ⟨by decide +kernel, rfl⟩
theorem dLA_solveNear_9 : gD mLA_solveNear 9 (.iconst 0) 1 10 := ⟨by decide +kernel, rfl⟩
theorem dLA_solveNear_10 : gD mLA_solveNear 10 (.iload_n 2) 1 11 := ⟨by decide +kernel, rfl⟩
theorem dLA_solveNear_11 : gD mLA_solveNear 11 (.invokevirtual 59) 3 14 := ⟨by decide +kernel, rfl⟩
theorem dLA_solveNear_14 : gD mLA_solveNear 14 (.pop) 1 15 := ⟨by decide +kernel, rfl⟩
theorem dLA_solveNear_15 : gD mLA_solveNear 15 (.aload_n 0) 1 16 := ⟨by decide +kernel, rfl⟩
theorem dLA_solveNear_16 : gD mLA_solveNear 16 (.invokevirtual 56) 3 19 := ⟨by decide +kernel, rfl⟩
theorem dLA_solveNear_19 : decode mLA_solveNear.2.1 19 = .ok (.return_, 1) := by decide +kernel
theorem dLA_demandAll_0 : gD mLA_demandAll 0 (.aload_n 0) 1 1 := ⟨by decide +kernel, rfl⟩
theorem dLA_demandAll_1 : gD mLA_demandAll 1 (.getfield 24) 3 4 := ⟨by decide +kernel, rfl⟩
theorem dLA_demandAll_4 : gD mLA_demandAll 4 (.aload_n 0) 1 5 := ⟨by decide +kernel, rfl⟩
theorem dLA_demandAll_5 : gD mLA_demandAll 5 (.getfield 35) 3 8 := ⟨by decide +kernel, rfl⟩
theorem dLA_demandAll_8 : gD mLA_demandAll 8 (.invokevirtual 63) 3 11 := ⟨by decide +kernel, rfl⟩
theorem dLA_demandAll_11 : gD mLA_demandAll 11 (.aload_n 0) 1 12 := ⟨by decide +kernel, rfl⟩
theorem dLA_demandAll_12 : gD mLA_demandAll 12 (.getfield 24) 3 15 := ⟨by decide +kernel, rfl⟩
theorem dLA_demandAll_15 : gD mLA_demandAll 15 (.iconst 1) 1 16 := ⟨by decide +kernel, rfl⟩
theorem dLA_demandAll_16 : gD mLA_demandAll 16 (.iconst 0) 1 17 := ⟨by decide +kernel, rfl⟩
theorem dLA_demandAll_17 : gD mLA_demandAll 17 (.aload_n 0) 1 18 := ⟨by decide +kernel, rfl⟩
theorem dLA_demandAll_18 : gD mLA_demandAll 18 (.getfield 28) 3 21 := ⟨by decide +kernel, rfl⟩
theorem dLA_demandAll_21 : gD mLA_demandAll 21 (.invokevirtual 67) 3 24 := ⟨by decide +kernel, rfl⟩
theorem dLA_demandAll_24 : gD mLA_demandAll 24 (.aload_n 0) 1 25 := ⟨by decide +kernel, rfl⟩
theorem dLA_demandAll_25 : gD mLA_demandAll 25 (.getfield 24) 3 28 := ⟨by decide +kernel, rfl⟩
theorem dLA_demandAll_28 : gD mLA_demandAll 28 (.iconst 2) 1 29 := ⟨by decide +kernel, rfl⟩
theorem dLA_demandAll_29 : gD mLA_demandAll 29 (.iconst 0) 1 30 := ⟨by decide +kernel, rfl⟩
theorem dLA_demandAll_30 : gD mLA_demandAll 30 (.iconst 0) 1 31 := ⟨by decide +kernel, rfl⟩
theorem dLA_demandAll_31 : gD mLA_demandAll 31 (.invokevirtual 67) 3 34 := ⟨by decide +kernel, rfl⟩
theorem dLA_demandAll_34 : gD mLA_demandAll 34 (.aload_n 0) 1 35 := ⟨by decide +kernel, rfl⟩
theorem dLA_demandAll_35 : gD mLA_demandAll 35 (.getfield 24) 3 38 := ⟨by decide +kernel, rfl⟩
theorem dLA_demandAll_38 : gD mLA_demandAll 38 (.iconst 3) 1 39 := ⟨by decide +kernel, rfl⟩
theorem dLA_demandAll_39 : gD mLA_demandAll 39 (.iconst 0) 1 40 := ⟨by decide +kernel, rfl⟩
theorem dLA_demandAll_40 : gD mLA_demandAll 40 (.aload_n 0) 1 41 := ⟨by decide +kernel, rfl⟩
theorem dLA_demandAll_41 : gD mLA_demandAll 41 (.getfield 32) 3 44 := ⟨by decide +kernel, rfl⟩
theorem dLA_demandAll_44 : gD mLA_demandAll 44 (.invokevirtual 67) 3 47 := ⟨by decide +kernel, rfl⟩
theorem dLA_demandAll_47 : gD mLA_demandAll 47 (.iconst 0) 1 48 := ⟨by decide +kernel, rfl⟩
theorem dLA_demandAll_48 : gD mLA_demandAll 48 (.istore_n 1) 1 49 := ⟨by decide +kernel, rfl⟩
theorem dLA_demandAll_49 : gD mLA_demandAll 49 (.iload_n 1) 1 50 := ⟨by decide +kernel, rfl⟩
theorem dLA_demandAll_50 : gD mLA_demandAll 50 (.aload_n 0) 1 51 := ⟨by decide +kernel, rfl⟩
theorem dLA_demandAll_51 : gD mLA_demandAll 51 (.getfield 35) 3 54 := ⟨by decide +kernel, rfl⟩
theorem dLA_demandAll_54 : gB mLA_demandAll 54 (.if_icmp .ge 37) 37 91 57 := ⟨by decide +kernel, by decide, rfl⟩
theorem dLA_demandAll_57 : gD mLA_demandAll 57 (.aload_n 0) 1 58 := ⟨by decide +kernel, rfl⟩
theorem dLA_demandAll_58 : gD mLA_demandAll 58 (.getfield 24) 3 61 := ⟨by decide +kernel, rfl⟩
theorem dLA_demandAll_61 : gD mLA_demandAll 61 (.iload_n 1) 1 62 := ⟨by decide +kernel, rfl⟩
theorem dLA_demandAll_62 : gD mLA_demandAll 62 (.iconst 1) 1 63 := ⟨by decide +kernel, rfl⟩
theorem dLA_demandAll_63 : gD mLA_demandAll 63 (.iadd) 1 64 := ⟨by decide +kernel, rfl⟩
theorem dLA_demandAll_64 : gD mLA_demandAll 64 (.iload_n 1) 1 65 := ⟨by decide +kernel, rfl⟩
theorem dLA_demandAll_65 : gD mLA_demandAll 65 (.iconst 0) 1 66 := ⟨by decide +kernel, rfl⟩
theorem dLA_demandAll_66 : gD mLA_demandAll 66 (.iadd) 1 67 := ⟨by decide +kernel, rfl⟩
theorem dLA_demandAll_67 : gD mLA_demandAll 67 (.iconst 0) 1 68 := ⟨by decide +kernel, rfl⟩
theorem dLA_demandAll_68 : gD mLA_demandAll 68 (.invokevirtual 71) 3 71 := ⟨by decide +kernel, rfl⟩
theorem dLA_demandAll_71 : gD mLA_demandAll 71 (.aload_n 0) 1 72 := ⟨by decide +kernel, rfl⟩
theorem dLA_demandAll_72 : gD mLA_demandAll 72 (.getfield 24) 3 75 := ⟨by decide +kernel, rfl⟩
theorem dLA_demandAll_75 : gD mLA_demandAll 75 (.iload_n 1) 1 76 := ⟨by decide +kernel, rfl⟩
theorem dLA_demandAll_76 : gD mLA_demandAll 76 (.iconst 3) 1 77 := ⟨by decide +kernel, rfl⟩
theorem dLA_demandAll_77 : gD mLA_demandAll 77 (.iadd) 1 78 := ⟨by decide +kernel, rfl⟩
theorem dLA_demandAll_78 : gD mLA_demandAll 78 (.iload_n 1) 1 79 := ⟨by decide +kernel, rfl⟩
theorem dLA_demandAll_79 : gD mLA_demandAll 79 (.iconst 2) 1 80 := ⟨by decide +kernel, rfl⟩
theorem dLA_demandAll_80 : gD mLA_demandAll 80 (.iadd) 1 81 := ⟨by decide +kernel, rfl⟩
theorem dLA_demandAll_81 : gD mLA_demandAll 81 (.iconst 0) 1 82 := ⟨by decide +kernel, rfl⟩
theorem dLA_demandAll_82 : gD mLA_demandAll 82 (.invokevirtual 71) 3 85 := ⟨by decide +kernel, rfl⟩
theorem dLA_demandAll_85 : gD mLA_demandAll 85 (.iinc 1 4) 3 88 := ⟨by decide +kernel, rfl⟩
theorem dLA_demandAll_88 : gB mLA_demandAll 88 (.goto (-39)) (-39) 49 91 := ⟨by decide +kernel, by decide, rfl⟩
theorem dLA_demandAll_91 : gD mLA_demandAll 91 (.iconst 0) 1 92 := ⟨by decide +kernel, rfl⟩
theorem dLA_demandAll_92 : gD mLA_demandAll 92 (.istore_n 1) 1 93 := ⟨by decide +kernel, rfl⟩
theorem dLA_demandAll_93 : gD mLA_demandAll 93 (.iload_n 1) 1 94 := ⟨by decide +kernel, rfl⟩
theorem dLA_demandAll_94 : gD mLA_demandAll 94 (.bipush 16) 2 96 := ⟨by decide +kernel, rfl⟩
theorem dLA_demandAll_96 : gB mLA_demandAll 96 (.if_icmp .ge 43) 43 139 99 := ⟨by decide +kernel, by decide, rfl⟩
theorem dLA_demandAll_99 : gD mLA_demandAll 99 (.aload_n 0) 1 100 := ⟨by decide +kernel, rfl⟩
theorem dLA_demandAll_100 : gD mLA_demandAll 100 (.getfield 17) 3 103 := ⟨by decide +kernel, rfl⟩
theorem dLA_demandAll_103 : gD mLA_demandAll 103 (.iload_n 1) 1 104 := ⟨by decide +kernel, rfl⟩
theorem dLA_demandAll_104 : gD mLA_demandAll 104 (.aaload) 1 105 := ⟨by decide +kernel, rfl⟩
theorem dLA_demandAll_105 : gB mLA_demandAll 105 (.ifnull 28) 28 133 108 := ⟨by decide +kernel, by decide, rfl⟩
theorem dLA_demandAll_108 : gD mLA_demandAll 108 (.aload_n 0) 1 109 := ⟨by decide +kernel, rfl⟩
theorem dLA_demandAll_109 : gD mLA_demandAll 109 (.getfield 17) 3 112 := ⟨by decide +kernel, rfl⟩
theorem dLA_demandAll_112 : gD mLA_demandAll 112 (.iload_n 1) 1 113 := ⟨by decide +kernel, rfl⟩
theorem dLA_demandAll_113 : gD mLA_demandAll 113 (.aaload) 1 114 := ⟨by decide +kernel, rfl⟩
theorem dLA_demandAll_114 : gD mLA_demandAll 114 (.getfield 74) 3 117 := ⟨by decide +kernel, rfl⟩
theorem dLA_demandAll_117 : gB mLA_demandAll 117 (.ifCond .ne 16) 16 133 120 := ⟨by decide +kernel, by decide, rfl⟩
theorem dLA_demandAll_120 : gD mLA_demandAll 120 (.aload_n 0) 1 121 := ⟨by decide +kernel, rfl⟩
theorem dLA_demandAll_121 : gD mLA_demandAll 121 (.getfield 17) 3 124 := ⟨by decide +kernel, rfl⟩
theorem dLA_demandAll_124 : gD mLA_demandAll 124 (.iload_n 1) 1 125 := ⟨by decide +kernel, rfl⟩
theorem dLA_demandAll_125 : gD mLA_demandAll 125 (.aaload) 1 126 := ⟨by decide +kernel, rfl⟩
theorem dLA_demandAll_126 : gD mLA_demandAll 126 (.aload_n 0) 1 127 := ⟨by decide +kernel, rfl⟩
theorem dLA_demandAll_127 : gD mLA_demandAll 127 (.getfield 24) 3 130 := ⟨by decide +kernel, rfl⟩
theorem dLA_demandAll_130 : gD mLA_demandAll 130 (.invokevirtual 77) 3 133 := ⟨by decide +kernel, rfl⟩
theorem dLA_demandAll_133 : gD mLA_demandAll 133 (.iinc 1 1) 3 136 := ⟨by decide +kernel, rfl⟩
theorem dLA_demandAll_136 : gB mLA_demandAll 136 (.goto (-43)) (-43) 93 139 := ⟨by decide +kernel, by decide, rfl⟩
theorem dLA_demandAll_139 : decode mLA_demandAll.2.1 139 = .ok (.return_, 1) := by decide +kernel
theorem dLA_chooseBest_0 : gD mLA_chooseBest 0 (.iconst 1) 1 1 := ⟨by decide +kernel, rfl⟩
theorem dLA_chooseBest_1 : gD mLA_chooseBest 1 (.istore_n 1) 1 2 := ⟨by decide +kernel, rfl⟩
theorem dLA_chooseBest_2 : gD mLA_chooseBest 2 (.iload_n 1) 1 3 := ⟨by decide +kernel, rfl⟩
theorem dLA_chooseBest_3 : gD mLA_chooseBest 3 (.iconst 3) 1 4 := ⟨by decide +kernel, rfl⟩
theorem dLA_chooseBest_4 : gB mLA_chooseBest 4 (.if_icmp .gt 58) 58 62 7 := ⟨by decide +kernel, by decide, rfl⟩
theorem dLA_chooseBest_7 : gD mLA_chooseBest 7 (.iconst 0) 1 8 := ⟨by decide +kernel, rfl⟩
theorem dLA_chooseBest_8 : gD mLA_chooseBest 8 (.istore_n 2) 1 9 := ⟨by decide +kernel, rfl⟩
theorem dLA_chooseBest_9 : gD mLA_chooseBest 9 (.iload_n 2) 1 10 := ⟨by decide +kernel, rfl⟩
theorem dLA_chooseBest_10 : gD mLA_chooseBest 10 (.bipush 16) 2 12 := ⟨by decide +kernel, rfl⟩
theorem dLA_chooseBest_12 : gB mLA_chooseBest 12 (.if_icmp .ge 44) 44 56 15 := ⟨by decide +kernel, by decide, rfl⟩
theorem dLA_chooseBest_15 : gD mLA_chooseBest 15 (.aload_n 0) 1 16 := ⟨by decide +kernel, rfl⟩
theorem dLA_chooseBest_16 : gD mLA_chooseBest 16 (.getfield 17) 3 19 := ⟨by decide +kernel, rfl⟩
theorem dLA_chooseBest_19 : gD mLA_chooseBest 19 (.iload_n 2) 1 20 := ⟨by decide +kernel, rfl⟩
theorem dLA_chooseBest_20 : gD mLA_chooseBest 20 (.aaload) 1 21 := ⟨by decide +kernel, rfl⟩
theorem dLA_chooseBest_21 : gB mLA_chooseBest 21 (.ifnull 29) 29 50 24 := ⟨by decide +kernel, by decide, rfl⟩
theorem dLA_chooseBest_24 : gD mLA_chooseBest 24 (.aload_n 0) 1 25 := ⟨by decide +kernel, rfl⟩
theorem dLA_chooseBest_25 : gD mLA_chooseBest 25 (.getfield 17) 3 28 := ⟨by decide +kernel, rfl⟩
theorem dLA_chooseBest_28 : gD mLA_chooseBest 28 (.iload_n 2) 1 29 := ⟨by decide +kernel, rfl⟩
theorem dLA_chooseBest_29 : gD mLA_chooseBest 29 (.aaload) 1 30 := ⟨by decide +kernel, rfl⟩
theorem dLA_chooseBest_30 : gD mLA_chooseBest 30 (.getfield 74) 3 33 := ⟨by decide +kernel, rfl⟩
theorem dLA_chooseBest_33 : gD mLA_chooseBest 33 (.iload_n 1) 1 34 := ⟨by decide +kernel, rfl⟩
theorem dLA_chooseBest_34 : gB mLA_chooseBest 34 (.if_icmp .ne 16) 16 50 37 := ⟨by decide +kernel, by decide, rfl⟩
theorem dLA_chooseBest_37 : gD mLA_chooseBest 37 (.aload_n 0) 1 38 := ⟨by decide +kernel, rfl⟩
theorem dLA_chooseBest_38 : gD mLA_chooseBest 38 (.getfield 17) 3 41 := ⟨by decide +kernel, rfl⟩
theorem dLA_chooseBest_41 : gD mLA_chooseBest 41 (.iload_n 2) 1 42 := ⟨by decide +kernel, rfl⟩
theorem dLA_chooseBest_42 : gD mLA_chooseBest 42 (.aaload) 1 43 := ⟨by decide +kernel, rfl⟩
theorem dLA_chooseBest_43 : gD mLA_chooseBest 43 (.aload_n 0) 1 44 := ⟨by decide +kernel, rfl⟩
theorem dLA_chooseBest_44 : gD mLA_chooseBest 44 (.getfield 24) 3 47 := ⟨by decide +kernel, rfl⟩
theorem dLA_chooseBest_47 : gD mLA_chooseBest 47 (.invokevirtual 81) 3 50 := ⟨by decide +kernel, rfl⟩
theorem dLA_chooseBest_50 : gD mLA_chooseBest 50 (.iinc 2 1) 3 53 := ⟨by decide +kernel, rfl⟩
theorem dLA_chooseBest_53 : gB mLA_chooseBest 53 (.goto (-44)) (-44) 9 56 := ⟨by decide +kernel, by decide, rfl⟩
theorem dLA_chooseBest_56 : gD mLA_chooseBest 56 (.iinc 1 1) 3 59 := ⟨by decide +kernel, rfl⟩
theorem dLA_chooseBest_59 : gB mLA_chooseBest 59 (.goto (-57)) (-57) 2 62 := ⟨by decide +kernel, by decide, rfl⟩
theorem dLA_chooseBest_62 : gD mLA_chooseBest 62 (.iconst 0) 1 63 := ⟨by decide +kernel, rfl⟩
theorem dLA_chooseBest_63 : gD mLA_chooseBest 63 (.istore_n 1) 1 64 := ⟨by decide +kernel, rfl⟩
theorem dLA_chooseBest_64 : gD mLA_chooseBest 64 (.iload_n 1) 1 65 := ⟨by decide +kernel, rfl⟩
theorem dLA_chooseBest_65 : gD mLA_chooseBest 65 (.aload_n 0) 1 66 := ⟨by decide +kernel, rfl⟩
theorem dLA_chooseBest_66 : gD mLA_chooseBest 66 (.getfield 35) 3 69 := ⟨by decide +kernel, rfl⟩
theorem dLA_chooseBest_69 : gB mLA_chooseBest 69 (.if_icmp .ge 30) 30 99 72 := ⟨by decide +kernel, by decide, rfl⟩
theorem dLA_chooseBest_72 : gD mLA_chooseBest 72 (.aload_n 0) 1 73 := ⟨by decide +kernel, rfl⟩
theorem dLA_chooseBest_73 : gD mLA_chooseBest 73 (.getfield 9) 3 76 := ⟨by decide +kernel, rfl⟩
theorem dLA_chooseBest_76 : gD mLA_chooseBest 76 (.iload_n 1) 1 77 := ⟨by decide +kernel, rfl⟩
theorem dLA_chooseBest_77 : gD mLA_chooseBest 77 (.aload_n 0) 1 78 := ⟨by decide +kernel, rfl⟩
theorem dLA_chooseBest_78 : gD mLA_chooseBest 78 (.getfield 24) 3 81 := ⟨by decide +kernel, rfl⟩
theorem dLA_chooseBest_81 : gD mLA_chooseBest 81 (.iload_n 1) 1 82 := ⟨by decide +kernel, rfl⟩
theorem dLA_chooseBest_82 : gD mLA_chooseBest 82 (.iconst 0) 1 83 := ⟨by decide +kernel, rfl⟩
theorem dLA_chooseBest_83 : gD mLA_chooseBest 83 (.aload_n 0) 1 84 := ⟨by decide +kernel, rfl⟩
theorem dLA_chooseBest_84 : gD mLA_chooseBest 84 (.getfield 9) 3 87 := ⟨by decide +kernel, rfl⟩
theorem dLA_chooseBest_87 : gD mLA_chooseBest 87 (.iload_n 1) 1 88 := ⟨by decide +kernel, rfl⟩
theorem dLA_chooseBest_88 : gD mLA_chooseBest 88 (.iaload) 1 89 := ⟨by decide +kernel, rfl⟩
theorem dLA_chooseBest_89 : gD mLA_chooseBest 89 (.invokevirtual 59) 3 92 := ⟨by decide +kernel, rfl⟩
theorem dLA_chooseBest_92 : gD mLA_chooseBest 92 (.iastore) 1 93 := ⟨by decide +kernel, rfl⟩
theorem dLA_chooseBest_93 : gD mLA_chooseBest 93 (.iinc 1 1) 3 96 := ⟨by decide +kernel, rfl⟩
theorem dLA_chooseBest_96 : gB mLA_chooseBest 96 (.goto (-32)) (-32) 64 99 := ⟨by decide +kernel, by decide, rfl⟩
theorem dLA_chooseBest_99 : decode mLA_chooseBest.2.1 99 = .ok (.return_, 1) := by decide +kernel
end
section
theorem dLW_cell_0 : gD mLW_cell 0 (.iload_n 1) 1 1 := ⟨by decide +kernel, rfl⟩
theorem dLW_cell_1 : gD mLW_cell 1 (.aload_n 0) 1 2 := ⟨by decide +kernel, rfl⟩
theorem dLW_cell_2 : gD mLW_cell 2 (.arraylength) 1 3 := ⟨by decide +kernel, rfl⟩
theorem dLW_cell_3 : gB mLW_cell 3 (.if_icmp .ge 9) 9 12 6 := ⟨by decide +kernel, by decide, rfl⟩
theorem dLW_cell_6 : gD mLW_cell 6 (.aload_n 0) 1 7 := ⟨by decide +kernel, rfl⟩
theorem dLW_cell_7 : gD mLW_cell 7 (.iload_n 1) 1 8 := ⟨by decide +kernel, rfl⟩
theorem dLW_cell_8 : gD mLW_cell 8 (.iaload) 1 9 := ⟨by decide +kernel, rfl⟩
theorem dLW_cell_9 : gB mLW_cell 9 (.goto 4) 4 13 12 := ⟨by decide +kernel, by decide, rfl⟩
theorem dLW_cell_12 : gD mLW_cell 12 (.iconst 0) 1 13 := ⟨by decide +kernel, rfl⟩
theorem dLW_cell_13 : decode mLW_cell.2.1 13 = .ok (.ireturn, 1) := by decide +kernel
theorem dLW_law_0 : gD mLW_law 0 (.new 7) 3 3 := ⟨by decide +kernel, rfl⟩
theorem dLW_law_3 : gD mLW_law 3 (.dup) 1 4 := ⟨by decide +kernel, rfl⟩
theorem dLW_law_4 : gD mLW_law 4 (.aload_n 0) 1 5 := ⟨by decide +kernel, rfl⟩
theorem dLW_law_5 : gD mLW_law 5 (.iconst 0) 1 6 := ⟨by decide +kernel, rfl⟩
theorem dLW_law_6 : gD mLW_law 6 (.invokestatic 9) 3 9 := ⟨by decide +kernel, rfl⟩
theorem dLW_law_9 : gD mLW_law 9 (.aload_n 0) 1 10 := ⟨by decide +kernel, rfl⟩
theorem dLW_law_10 : gD mLW_law 10 (.iconst 1) 1 11 := ⟨by decide +kernel, rfl⟩
theorem dLW_law_11 : gD mLW_law 11 (.invokestatic 9) 3 14 := ⟨by decide +kernel, rfl⟩
theorem dLW_law_14 : gD mLW_law 14 (.invokespecial 15) 3 17 := ⟨by decide +kernel, rfl⟩
theorem dLW_law_17 : gD mLW_law 17 (.astore_n 1) 1 18 := ⟨by decide +kernel, rfl⟩
theorem dLW_law_18 : gD mLW_law 18 (.new 18) 3 21 := ⟨by decide +kernel, rfl⟩
theorem dLW_law_21 : gD mLW_law 21 (.dup) 1 22 := ⟨by decide +kernel, rfl⟩
theorem dLW_law_22 : gD mLW_law 22 (.aload_n 0) 1 23 := ⟨by decide +kernel, rfl⟩
theorem dLW_law_23 : gD mLW_law 23 (.iconst 0) 1 24 := ⟨by decide +kernel, rfl⟩
theorem dLW_law_24 : gD mLW_law 24 (.invokestatic 9) 3 27 := ⟨by decide +kernel, rfl⟩
theorem dLW_law_27 : gD mLW_law 27 (.aload_n 0) 1 28 := ⟨by decide +kernel, rfl⟩
theorem dLW_law_28 : gD mLW_law 28 (.iconst 1) 1 29 := ⟨by decide +kernel, rfl⟩
theorem dLW_law_29 : gD mLW_law 29 (.invokestatic 9) 3 32 := ⟨by decide +kernel, rfl⟩
theorem dLW_law_32 : gD mLW_law 32 (.invokespecial 20) 3 35 := ⟨by decide +kernel, rfl⟩
theorem dLW_law_35 : gD mLW_law 35 (.astore_n 2) 1 36 := ⟨by decide +kernel, rfl⟩
theorem dLW_law_36 : gD mLW_law 36 (.iconst 2) 1 37 := ⟨by decide +kernel, rfl⟩
theorem dLW_law_37 : gD mLW_law 37 (.istore_n 3) 1 38 := ⟨by decide +kernel, rfl⟩
theorem dLW_law_38 : gD mLW_law 38 (.iload_n 3) 1 39 := ⟨by decide +kernel, rfl⟩
theorem dLW_law_39 : gD mLW_law 39 (.aload_n 0) 1 40 := ⟨by decide +kernel, rfl⟩
theorem dLW_law_40 : gD mLW_law 40 (.arraylength) 1 41 := ⟨by decide +kernel, rfl⟩
theorem dLW_law_41 : gD mLW_law 41 (.bipush 6) 2 43 := ⟨by decide +kernel, rfl⟩
theorem dLW_law_43 : gD mLW_law 43 (.isub) 1 44 := ⟨by decide +kernel, rfl⟩
theorem dLW_law_44 : gB mLW_law 44 (.if_icmp .gt 655) 655 699 47 := ⟨by decide +kernel, by decide, rfl⟩
theorem dLW_law_47 : gD mLW_law 47 (.aload_n 0) 1 48 := ⟨by decide +kernel, rfl⟩
theorem dLW_law_48 : gD mLW_law 48 (.iload_n 3) 1 49 := ⟨by decide +kernel, rfl⟩
theorem dLW_law_49 : gD mLW_law 49 (.iaload) 1 50 := ⟨by decide +kernel, rfl⟩
theorem dLW_law_50 : gD mLW_law 50 (.bipush 31) 2 52 := ⟨by decide +kernel, rfl⟩
theorem dLW_law_52 : gD mLW_law 52 (.iand) 1 53 := ⟨by decide +kernel, rfl⟩
theorem dLW_law_53 : decode mLW_law.2.1 53 = .ok (.tableswitch 640 0 18 #[91, 124, 187, 210, 243, 276, 299, 322, 371, 394, 427, 460, 493, 532, 545, 558, 581, 594, 607], 91) := by decide +kernel
theorem dLW_law_144 : gD mLW_law 144 (.aload_n 1) 1 145 := ⟨by decide +kernel, rfl⟩
theorem dLW_law_145 : gD mLW_law 145 (.aload_n 0) 1 146 := ⟨by decide +kernel, rfl⟩
theorem dLW_law_146 : gD mLW_law 146 (.iload_n 3) 1 147 := ⟨by decide +kernel, rfl⟩
theorem dLW_law_147 : gD mLW_law 147 (.iconst 1) 1 148 := ⟨by decide +kernel, rfl⟩
theorem dLW_law_148 : gD mLW_law 148 (.iadd) 1 149 := ⟨by decide +kernel, rfl⟩
theorem dLW_law_149 : gD mLW_law 149 (.iaload) 1 150 := ⟨by decide +kernel, rfl⟩
theorem dLW_law_150 : gD mLW_law 150 (.aload_n 0) 1 151 := ⟨by decide +kernel, rfl⟩
theorem dLW_law_151 : gD mLW_law 151 (.iload_n 3) 1 152 := ⟨by decide +kernel, rfl⟩
theorem dLW_law_152 : gD mLW_law 152 (.iconst 2) 1 153 := ⟨by decide +kernel, rfl⟩
theorem dLW_law_153 : gD mLW_law 153 (.iadd) 1 154 := ⟨by decide +kernel, rfl⟩
theorem dLW_law_154 : gD mLW_law 154 (.iaload) 1 155 := ⟨by decide +kernel, rfl⟩
theorem dLW_law_155 : gD mLW_law 155 (.invokevirtual 21) 3 158 := ⟨by decide +kernel, rfl⟩
theorem dLW_law_158 : gD mLW_law 158 (.aload_n 2) 1 159 := ⟨by decide +kernel, rfl⟩
theorem dLW_law_159 : gD mLW_law 159 (.aload_n 0) 1 160 := ⟨by decide +kernel, rfl⟩
theorem dLW_law_160 : gD mLW_law 160 (.iload_n 3) 1 161 := ⟨by decide +kernel, rfl⟩
theorem dLW_law_161 : gD mLW_law 161 (.iconst 1) 1 162 := ⟨by decide +kernel, rfl⟩
theorem dLW_law_162 : gD mLW_law 162 (.iadd) 1 163 := ⟨by decide +kernel, rfl⟩
theorem dLW_law_163 : gD mLW_law 163 (.iaload) 1 164 := ⟨by decide +kernel, rfl⟩
theorem dLW_law_164 : gD mLW_law 164 (.aload_n 0) 1 165 := ⟨by decide +kernel, rfl⟩
theorem dLW_law_165 : gD mLW_law 165 (.iload_n 3) 1 166 := ⟨by decide +kernel, rfl⟩
theorem dLW_law_166 : gD mLW_law 166 (.iconst 2) 1 167 := ⟨by decide +kernel, rfl⟩
theorem dLW_law_167 : gD mLW_law 167 (.iadd) 1 168 := ⟨by decide +kernel, rfl⟩
theorem dLW_law_168 : gD mLW_law 168 (.iaload) 1 169 := ⟨by decide +kernel, rfl⟩
theorem dLW_law_169 : gD mLW_law 169 (.invokevirtual 25) 3 172 := ⟨by decide +kernel, rfl⟩
theorem dLW_law_172 : gB mLW_law 172 (.if_icmp .eq 521) 521 693 175 := ⟨by decide +kernel, by decide, rfl⟩
theorem dLW_law_175 : gD mLW_law 175 (.iconst 0) 1 176 := ⟨by decide +kernel, rfl⟩
theorem dLW_law_176 : decode mLW_law.2.1 176 = .ok (.ireturn, 1) := by decide +kernel
theorem dLW_law_177 : gD mLW_law 177 (.aload_n 1) 1 178 := ⟨by decide +kernel, rfl⟩
theorem dLW_law_178 : gD mLW_law 178 (.aload_n 0) 1 179 := ⟨by decide +kernel, rfl⟩
theorem dLW_law_179 : gD mLW_law 179 (.iload_n 3) 1 180 := ⟨by decide +kernel, rfl⟩
theorem dLW_law_180 : gD mLW_law 180 (.iconst 1) 1 181 := ⟨by decide +kernel, rfl⟩
theorem dLW_law_181 : gD mLW_law 181 (.iadd) 1 182 := ⟨by decide +kernel, rfl⟩
theorem dLW_law_182 : gD mLW_law 182 (.iaload) 1 183 := ⟨by decide +kernel, rfl⟩
theorem dLW_law_183 : gD mLW_law 183 (.aload_n 0) 1 184 := ⟨by decide +kernel, rfl⟩
theorem dLW_law_184 : gD mLW_law 184 (.iload_n 3) 1 185 := ⟨by decide +kernel, rfl⟩
theorem dLW_law_185 : gD mLW_law 185 (.iconst 2) 1 186 := ⟨by decide +kernel, rfl⟩
theorem dLW_law_186 : gD mLW_law 186 (.iadd) 1 187 := ⟨by decide +kernel, rfl⟩
theorem dLW_law_187 : gD mLW_law 187 (.iaload) 1 188 := ⟨by decide +kernel, rfl⟩
theorem dLW_law_188 : gD mLW_law 188 (.aload_n 0) 1 189 := ⟨by decide +kernel, rfl⟩
theorem dLW_law_189 : gD mLW_law 189 (.iload_n 3) 1 190 := ⟨by decide +kernel, rfl⟩
theorem dLW_law_190 : gD mLW_law 190 (.iconst 3) 1 191 := ⟨by decide +kernel, rfl⟩
theorem dLW_law_191 : gD mLW_law 191 (.iadd) 1 192 := ⟨by decide +kernel, rfl⟩
theorem dLW_law_192 : gD mLW_law 192 (.iaload) 1 193 := ⟨by decide +kernel, rfl⟩
theorem dLW_law_193 : gD mLW_law 193 (.aload_n 0) 1 194 := ⟨by decide +kernel, rfl⟩
theorem dLW_law_194 : gD mLW_law 194 (.iload_n 3) 1 195 := ⟨by decide +kernel, rfl⟩
theorem dLW_law_195 : gD mLW_law 195 (.iconst 4) 1 196 := ⟨by decide +kernel, rfl⟩
theorem dLW_law_196 : gD mLW_law 196 (.iadd) 1 197 := ⟨by decide +kernel, rfl⟩
theorem dLW_law_197 : gD mLW_law 197 (.iaload) 1 198 := ⟨by decide +kernel, rfl⟩
theorem dLW_law_198 : gD mLW_law 198 (.aload_n 0) 1 199 := ⟨by decide +kernel, rfl⟩
theorem dLW_law_199 : gD mLW_law 199 (.iload_n 3) 1 200 := ⟨by decide +kernel, rfl⟩
theorem dLW_law_200 : gD mLW_law 200 (.iconst 5) 1 201 := ⟨by decide +kernel, rfl⟩
theorem dLW_law_201 : gD mLW_law 201 (.iadd) 1 202 := ⟨by decide +kernel, rfl⟩
theorem dLW_law_202 : gD mLW_law 202 (.iaload) 1 203 := ⟨by decide +kernel, rfl⟩
theorem dLW_law_203 : gD mLW_law 203 (.invokevirtual 26) 3 206 := ⟨by decide +kernel, rfl⟩
theorem dLW_law_206 : gD mLW_law 206 (.aload_n 2) 1 207 := ⟨by decide +kernel, rfl⟩
theorem dLW_law_207 : gD mLW_law 207 (.aload_n 0) 1 208 := ⟨by decide +kernel, rfl⟩
theorem dLW_law_208 : gD mLW_law 208 (.iload_n 3) 1 209 := ⟨by decide +kernel, rfl⟩
theorem dLW_law_209 : gD mLW_law 209 (.iconst 1) 1 210 := ⟨by decide +kernel, rfl⟩
theorem dLW_law_210 : gD mLW_law 210 (.iadd) 1 211 := ⟨by decide +kernel, rfl⟩
theorem dLW_law_211 : gD mLW_law 211 (.iaload) 1 212 := ⟨by decide +kernel, rfl⟩
theorem dLW_law_212 : gD mLW_law 212 (.aload_n 0) 1 213 := ⟨by decide +kernel, rfl⟩
theorem dLW_law_213 : gD mLW_law 213 (.iload_n 3) 1 214 := ⟨by decide +kernel, rfl⟩
theorem dLW_law_214 : gD mLW_law 214 (.iconst 2) 1 215 := ⟨by decide +kernel, rfl⟩
theorem dLW_law_215 : gD mLW_law 215 (.iadd) 1 216 := ⟨by decide +kernel, rfl⟩
theorem dLW_law_216 : gD mLW_law 216 (.iaload) 1 217 := ⟨by decide +kernel, rfl⟩
theorem dLW_law_217 : gD mLW_law 217 (.aload_n 0) 1 218 := ⟨by decide +kernel, rfl⟩
theorem dLW_law_218 : gD mLW_law 218 (.iload_n 3) 1 219 := ⟨by decide +kernel, rfl⟩
theorem dLW_law_219 : gD mLW_law 219 (.iconst 3) 1 220 := ⟨by decide +kernel, rfl⟩
theorem dLW_law_220 : gD mLW_law 220 (.iadd) 1 221 := ⟨by decide +kernel, rfl⟩
theorem dLW_law_221 : gD mLW_law 221 (.iaload) 1 222 := ⟨by decide +kernel, rfl⟩
theorem dLW_law_222 : gD mLW_law 222 (.aload_n 0) 1 223 := ⟨by decide +kernel, rfl⟩
theorem dLW_law_223 : gD mLW_law 223 (.iload_n 3) 1 224 := ⟨by decide +kernel, rfl⟩
theorem dLW_law_224 : gD mLW_law 224 (.iconst 4) 1 225 := ⟨by decide +kernel, rfl⟩
theorem dLW_law_225 : gD mLW_law 225 (.iadd) 1 226 := ⟨by decide +kernel, rfl⟩
theorem dLW_law_226 : gD mLW_law 226 (.iaload) 1 227 := ⟨by decide +kernel, rfl⟩
theorem dLW_law_227 : gD mLW_law 227 (.aload_n 0) 1 228 := ⟨by decide +kernel, rfl⟩
theorem dLW_law_228 : gD mLW_law 228 (.iload_n 3) 1 229 := ⟨by decide +kernel, rfl⟩
theorem dLW_law_229 : gD mLW_law 229 (.iconst 5) 1 230 := ⟨by decide +kernel, rfl⟩
theorem dLW_law_230 : gD mLW_law 230 (.iadd) 1 231 := ⟨by decide +kernel, rfl⟩
theorem dLW_law_231 : gD mLW_law 231 (.iaload) 1 232 := ⟨by decide +kernel, rfl⟩
theorem dLW_law_232 : gD mLW_law 232 (.invokevirtual 30) 3 235 := ⟨by decide +kernel, rfl⟩
theorem dLW_law_235 : gB mLW_law 235 (.if_icmp .eq 458) 458 693 238 := ⟨by decide +kernel, by decide, rfl⟩
theorem dLW_law_238 : gD mLW_law 238 (.iconst 0) 1 239 := ⟨by decide +kernel, rfl⟩
theorem dLW_law_239 : decode mLW_law.2.1 239 = .ok (.ireturn, 1) := by decide +kernel
theorem dLW_law_240 : gD mLW_law 240 (.aload_n 1) 1 241 := ⟨by decide +kernel, rfl⟩
theorem dLW_law_241 : gD mLW_law 241 (.aload_n 0) 1 242 := ⟨by decide +kernel, rfl⟩
theorem dLW_law_242 : gD mLW_law 242 (.iload_n 3) 1 243 := ⟨by decide +kernel, rfl⟩
theorem dLW_law_243 : gD mLW_law 243 (.iconst 1) 1 244 := ⟨by decide +kernel, rfl⟩
theorem dLW_law_244 : gD mLW_law 244 (.iadd) 1 245 := ⟨by decide +kernel, rfl⟩
theorem dLW_law_245 : gD mLW_law 245 (.iaload) 1 246 := ⟨by decide +kernel, rfl⟩
theorem dLW_law_246 : gD mLW_law 246 (.invokevirtual 31) 3 249 := ⟨by decide +kernel, rfl⟩
theorem dLW_law_249 : gD mLW_law 249 (.aload_n 2) 1 250 := ⟨by decide +kernel, rfl⟩
theorem dLW_law_250 : gD mLW_law 250 (.aload_n 0) 1 251 := ⟨by decide +kernel, rfl⟩
theorem dLW_law_251 : gD mLW_law 251 (.iload_n 3) 1 252 := ⟨by decide +kernel, rfl⟩
theorem dLW_law_252 : gD mLW_law 252 (.iconst 1) 1 253 := ⟨by decide +kernel, rfl⟩
theorem dLW_law_253 : gD mLW_law 253 (.iadd) 1 254 := ⟨by decide +kernel, rfl⟩
theorem dLW_law_254 : gD mLW_law 254 (.iaload) 1 255 := ⟨by decide +kernel, rfl⟩
theorem dLW_law_255 : gD mLW_law 255 (.invokevirtual 35) 3 258 := ⟨by decide +kernel, rfl⟩
theorem dLW_law_258 : gB mLW_law 258 (.if_icmp .eq 435) 435 693 261 := ⟨by decide +kernel, by decide, rfl⟩
theorem dLW_law_261 : gD mLW_law 261 (.iconst 0) 1 262 := ⟨by decide +kernel, rfl⟩
theorem dLW_law_262 : decode mLW_law.2.1 262 = .ok (.ireturn, 1) := by decide +kernel
theorem dLW_law_263 : gD mLW_law 263 (.aload_n 1) 1 264 := ⟨by decide +kernel, rfl⟩
theorem dLW_law_264 : gD mLW_law 264 (.aload_n 0) 1 265 := ⟨by decide +kernel, rfl⟩
theorem dLW_law_265 : gD mLW_law 265 (.iload_n 3) 1 266 := ⟨by decide +kernel, rfl⟩
theorem dLW_law_266 : gD mLW_law 266 (.iconst 1) 1 267 := ⟨by decide +kernel, rfl⟩
theorem dLW_law_267 : gD mLW_law 267 (.iadd) 1 268 := ⟨by decide +kernel, rfl⟩
theorem dLW_law_268 : gD mLW_law 268 (.iaload) 1 269 := ⟨by decide +kernel, rfl⟩
theorem dLW_law_269 : gD mLW_law 269 (.aload_n 0) 1 270 := ⟨by decide +kernel, rfl⟩
theorem dLW_law_270 : gD mLW_law 270 (.iload_n 3) 1 271 := ⟨by decide +kernel, rfl⟩
theorem dLW_law_271 : gD mLW_law 271 (.iconst 2) 1 272 := ⟨by decide +kernel, rfl⟩
theorem dLW_law_272 : gD mLW_law 272 (.iadd) 1 273 := ⟨by decide +kernel, rfl⟩
theorem dLW_law_273 : gD mLW_law 273 (.iaload) 1 274 := ⟨by decide +kernel, rfl⟩
theorem dLW_law_274 : gD mLW_law 274 (.invokevirtual 36) 3 277 := ⟨by decide +kernel, rfl⟩
theorem dLW_law_277 : gD mLW_law 277 (.aload_n 2) 1 278 := ⟨by decide +kernel, rfl⟩
theorem dLW_law_278 : gD mLW_law 278 (.aload_n 0) 1 279 := ⟨by decide +kernel, rfl⟩
theorem dLW_law_279 : gD mLW_law 279 (.iload_n 3) 1 280 := ⟨by decide +kernel, rfl⟩
theorem dLW_law_280 : gD mLW_law 280 (.iconst 1) 1 281 := ⟨by decide +kernel, rfl⟩
theorem dLW_law_281 : gD mLW_law 281 (.iadd) 1 282 := ⟨by decide +kernel, rfl⟩
theorem dLW_law_282 : gD mLW_law 282 (.iaload) 1 283 := ⟨by decide +kernel, rfl⟩
theorem dLW_law_283 : gD mLW_law 283 (.aload_n 0) 1 284 := ⟨by decide +kernel, rfl⟩
theorem dLW_law_284 : gD mLW_law 284 (.iload_n 3) 1 285 := ⟨by decide +kernel, rfl⟩
theorem dLW_law_285 : gD mLW_law 285 (.iconst 2) 1 286 := ⟨by decide +kernel, rfl⟩
theorem dLW_law_286 : gD mLW_law 286 (.iadd) 1 287 := ⟨by decide +kernel, rfl⟩
theorem dLW_law_287 : gD mLW_law 287 (.iaload) 1 288 := ⟨by decide +kernel, rfl⟩
theorem dLW_law_288 : gD mLW_law 288 (.invokevirtual 40) 3 291 := ⟨by decide +kernel, rfl⟩
theorem dLW_law_291 : gB mLW_law 291 (.if_icmp .eq 402) 402 693 294 := ⟨by decide +kernel, by decide, rfl⟩
theorem dLW_law_294 : gD mLW_law 294 (.iconst 0) 1 295 := ⟨by decide +kernel, rfl⟩
theorem dLW_law_295 : decode mLW_law.2.1 295 = .ok (.ireturn, 1) := by decide +kernel
theorem dLW_law_296 : gD mLW_law 296 (.aload_n 1) 1 297 := ⟨by decide +kernel, rfl⟩
theorem dLW_law_297 : gD mLW_law 297 (.aload_n 0) 1 298 := ⟨by decide +kernel, rfl⟩
theorem dLW_law_298 : gD mLW_law 298 (.iload_n 3) 1 299 := ⟨by decide +kernel, rfl⟩
theorem dLW_law_299 : gD mLW_law 299 (.iconst 1) 1 300 := ⟨by decide +kernel, rfl⟩
theorem dLW_law_300 : gD mLW_law 300 (.iadd) 1 301 := ⟨by decide +kernel, rfl⟩
theorem dLW_law_301 : gD mLW_law 301 (.iaload) 1 302 := ⟨by decide +kernel, rfl⟩
theorem dLW_law_302 : gD mLW_law 302 (.aload_n 0) 1 303 := ⟨by decide +kernel, rfl⟩
theorem dLW_law_303 : gD mLW_law 303 (.iload_n 3) 1 304 := ⟨by decide +kernel, rfl⟩
theorem dLW_law_304 : gD mLW_law 304 (.iconst 2) 1 305 := ⟨by decide +kernel, rfl⟩
theorem dLW_law_305 : gD mLW_law 305 (.iadd) 1 306 := ⟨by decide +kernel, rfl⟩
theorem dLW_law_306 : gD mLW_law 306 (.iaload) 1 307 := ⟨by decide +kernel, rfl⟩
theorem dLW_law_307 : gD mLW_law 307 (.invokevirtual 41) 3 310 := ⟨by decide +kernel, rfl⟩
theorem dLW_law_310 : gD mLW_law 310 (.aload_n 2) 1 311 := ⟨by decide +kernel, rfl⟩
theorem dLW_law_311 : gD mLW_law 311 (.aload_n 0) 1 312 := ⟨by decide +kernel, rfl⟩
theorem dLW_law_312 : gD mLW_law 312 (.iload_n 3) 1 313 := ⟨by decide +kernel, rfl⟩
theorem dLW_law_313 : gD mLW_law 313 (.iconst 1) 1 314 := ⟨by decide +kernel, rfl⟩
theorem dLW_law_314 : gD mLW_law 314 (.iadd) 1 315 := ⟨by decide +kernel, rfl⟩
theorem dLW_law_315 : gD mLW_law 315 (.iaload) 1 316 := ⟨by decide +kernel, rfl⟩
theorem dLW_law_316 : gD mLW_law 316 (.aload_n 0) 1 317 := ⟨by decide +kernel, rfl⟩
theorem dLW_law_317 : gD mLW_law 317 (.iload_n 3) 1 318 := ⟨by decide +kernel, rfl⟩
theorem dLW_law_318 : gD mLW_law 318 (.iconst 2) 1 319 := ⟨by decide +kernel, rfl⟩
theorem dLW_law_319 : gD mLW_law 319 (.iadd) 1 320 := ⟨by decide +kernel, rfl⟩
theorem dLW_law_320 : gD mLW_law 320 (.iaload) 1 321 := ⟨by decide +kernel, rfl⟩
theorem dLW_law_321 : gD mLW_law 321 (.invokevirtual 44) 3 324 := ⟨by decide +kernel, rfl⟩
theorem dLW_law_324 : gB mLW_law 324 (.if_icmp .eq 369) 369 693 327 := ⟨by decide +kernel, by decide, rfl⟩
theorem dLW_law_327 : gD mLW_law 327 (.iconst 0) 1 328 := ⟨by decide +kernel, rfl⟩
theorem dLW_law_328 : decode mLW_law.2.1 328 = .ok (.ireturn, 1) := by decide +kernel
theorem dLW_law_329 : gD mLW_law 329 (.aload_n 1) 1 330 := ⟨by decide +kernel, rfl⟩
theorem dLW_law_330 : gD mLW_law 330 (.aload_n 0) 1 331 := ⟨by decide +kernel, rfl⟩
theorem dLW_law_331 : gD mLW_law 331 (.iload_n 3) 1 332 := ⟨by decide +kernel, rfl⟩
theorem dLW_law_332 : gD mLW_law 332 (.iconst 1) 1 333 := ⟨by decide +kernel, rfl⟩
theorem dLW_law_333 : gD mLW_law 333 (.iadd) 1 334 := ⟨by decide +kernel, rfl⟩
theorem dLW_law_334 : gD mLW_law 334 (.iaload) 1 335 := ⟨by decide +kernel, rfl⟩
theorem dLW_law_335 : gD mLW_law 335 (.invokevirtual 45) 3 338 := ⟨by decide +kernel, rfl⟩
theorem dLW_law_338 : gD mLW_law 338 (.aload_n 2) 1 339 := ⟨by decide +kernel, rfl⟩
theorem dLW_law_339 : gD mLW_law 339 (.aload_n 0) 1 340 := ⟨by decide +kernel, rfl⟩
theorem dLW_law_340 : gD mLW_law 340 (.iload_n 3) 1 341 := ⟨by decide +kernel, rfl⟩
theorem dLW_law_341 : gD mLW_law 341 (.iconst 1) 1 342 := ⟨by decide +kernel, rfl⟩
theorem dLW_law_342 : gD mLW_law 342 (.iadd) 1 343 := ⟨by decide +kernel, rfl⟩
theorem dLW_law_343 : gD mLW_law 343 (.iaload) 1 344 := ⟨by decide +kernel, rfl⟩
theorem dLW_law_344 : gD mLW_law 344 (.invokevirtual 49) 3 347 := ⟨by decide +kernel, rfl⟩
theorem dLW_law_347 : gB mLW_law 347 (.if_icmp .eq 346) 346 693 350 := ⟨by decide +kernel, by decide, rfl⟩
theorem dLW_law_350 : gD mLW_law 350 (.iconst 0) 1 351 := ⟨by decide +kernel, rfl⟩
theorem dLW_law_351 : decode mLW_law.2.1 351 = .ok (.ireturn, 1) := by decide +kernel
theorem dLW_law_352 : gD mLW_law 352 (.aload_n 1) 1 353 := ⟨by decide +kernel, rfl⟩
theorem dLW_law_353 : gD mLW_law 353 (.aload_n 0) 1 354 := ⟨by decide +kernel, rfl⟩
theorem dLW_law_354 : gD mLW_law 354 (.iload_n 3) 1 355 := ⟨by decide +kernel, rfl⟩
theorem dLW_law_355 : gD mLW_law 355 (.iconst 1) 1 356 := ⟨by decide +kernel, rfl⟩
theorem dLW_law_356 : gD mLW_law 356 (.iadd) 1 357 := ⟨by decide +kernel, rfl⟩
theorem dLW_law_357 : gD mLW_law 357 (.iaload) 1 358 := ⟨by decide +kernel, rfl⟩
theorem dLW_law_358 : gD mLW_law 358 (.invokevirtual 50) 3 361 := ⟨by decide +kernel, rfl⟩
theorem dLW_law_361 : gD mLW_law 361 (.aload_n 2) 1 362 := ⟨by decide +kernel, rfl⟩
theorem dLW_law_362 : gD mLW_law 362 (.aload_n 0) 1 363 := ⟨by decide +kernel, rfl⟩
theorem dLW_law_363 : gD mLW_law 363 (.iload_n 3) 1 364 := ⟨by decide +kernel, rfl⟩
theorem dLW_law_364 : gD mLW_law 364 (.iconst 1) 1 365 := ⟨by decide +kernel, rfl⟩
theorem dLW_law_365 : gD mLW_law 365 (.iadd) 1 366 := ⟨by decide +kernel, rfl⟩
theorem dLW_law_366 : gD mLW_law 366 (.iaload) 1 367 := ⟨by decide +kernel, rfl⟩
theorem dLW_law_367 : gD mLW_law 367 (.invokevirtual 53) 3 370 := ⟨by decide +kernel, rfl⟩
theorem dLW_law_370 : gB mLW_law 370 (.if_icmp .eq 323) 323 693 373 := ⟨by decide +kernel, by decide, rfl⟩
theorem dLW_law_373 : gD mLW_law 373 (.iconst 0) 1 374 := ⟨by decide +kernel, rfl⟩
theorem dLW_law_374 : decode mLW_law.2.1 374 = .ok (.ireturn, 1) := by decide +kernel
theorem dLW_law_375 : gD mLW_law 375 (.aload_n 1) 1 376 := ⟨by decide +kernel, rfl⟩
theorem dLW_law_376 : gD mLW_law 376 (.aload_n 0) 1 377 := ⟨by decide +kernel, rfl⟩
theorem dLW_law_377 : gD mLW_law 377 (.iload_n 3) 1 378 := ⟨by decide +kernel, rfl⟩
theorem dLW_law_378 : gD mLW_law 378 (.iconst 1) 1 379 := ⟨by decide +kernel, rfl⟩
theorem dLW_law_379 : gD mLW_law 379 (.iadd) 1 380 := ⟨by decide +kernel, rfl⟩
theorem dLW_law_380 : gD mLW_law 380 (.iaload) 1 381 := ⟨by decide +kernel, rfl⟩
theorem dLW_law_381 : gD mLW_law 381 (.aload_n 0) 1 382 := ⟨by decide +kernel, rfl⟩
theorem dLW_law_382 : gD mLW_law 382 (.iload_n 3) 1 383 := ⟨by decide +kernel, rfl⟩
theorem dLW_law_383 : gD mLW_law 383 (.iconst 2) 1 384 := ⟨by decide +kernel, rfl⟩
theorem dLW_law_384 : gD mLW_law 384 (.iadd) 1 385 := ⟨by decide +kernel, rfl⟩
theorem dLW_law_385 : gD mLW_law 385 (.iaload) 1 386 := ⟨by decide +kernel, rfl⟩
theorem dLW_law_386 : gB mLW_law 386 (.ifCond .eq 7) 7 393 389 := ⟨by decide +kernel, by decide, rfl⟩
theorem dLW_law_389 : gD mLW_law 389 (.iconst 1) 1 390 := ⟨by decide +kernel, rfl⟩
theorem dLW_law_390 : gB mLW_law 390 (.goto 4) 4 394 393 := ⟨by decide +kernel, by decide, rfl⟩
theorem dLW_law_393 : gD mLW_law 393 (.iconst 0) 1 394 := ⟨by decide +kernel, rfl⟩
theorem dLW_law_394 : gD mLW_law 394 (.invokevirtual 54) 3 397 := ⟨by decide +kernel, rfl⟩
theorem dLW_law_397 : gD mLW_law 397 (.aload_n 2) 1 398 := ⟨by decide +kernel, rfl⟩
theorem dLW_law_398 : gD mLW_law 398 (.aload_n 0) 1 399 := ⟨by decide +kernel, rfl⟩
theorem dLW_law_399 : gD mLW_law 399 (.iload_n 3) 1 400 := ⟨by decide +kernel, rfl⟩
theorem dLW_law_400 : gD mLW_law 400 (.iconst 1) 1 401 := ⟨by decide +kernel, rfl⟩
theorem dLW_law_401 : gD mLW_law 401 (.iadd) 1 402 := ⟨by decide +kernel, rfl⟩
theorem dLW_law_402 : gD mLW_law 402 (.iaload) 1 403 := ⟨by decide +kernel, rfl⟩
theorem dLW_law_403 : gD mLW_law 403 (.aload_n 0) 1 404 := ⟨by decide +kernel, rfl⟩
theorem dLW_law_404 : gD mLW_law 404 (.iload_n 3) 1 405 := ⟨by decide +kernel, rfl⟩
theorem dLW_law_405 : gD mLW_law 405 (.iconst 2) 1 406 := ⟨by decide +kernel, rfl⟩
theorem dLW_law_406 : gD mLW_law 406 (.iadd) 1 407 := ⟨by decide +kernel, rfl⟩
theorem dLW_law_407 : gD mLW_law 407 (.iaload) 1 408 := ⟨by decide +kernel, rfl⟩
theorem dLW_law_408 : gB mLW_law 408 (.ifCond .eq 7) 7 415 411 := ⟨by decide +kernel, by decide, rfl⟩
theorem dLW_law_411 : gD mLW_law 411 (.iconst 1) 1 412 := ⟨by decide +kernel, rfl⟩
theorem dLW_law_412 : gB mLW_law 412 (.goto 4) 4 416 415 := ⟨by decide +kernel, by decide, rfl⟩
theorem dLW_law_415 : gD mLW_law 415 (.iconst 0) 1 416 := ⟨by decide +kernel, rfl⟩
theorem dLW_law_416 : gD mLW_law 416 (.invokevirtual 58) 3 419 := ⟨by decide +kernel, rfl⟩
theorem dLW_law_419 : gB mLW_law 419 (.if_icmp .eq 274) 274 693 422 := ⟨by decide +kernel, by decide, rfl⟩
theorem dLW_law_422 : gD mLW_law 422 (.iconst 0) 1 423 := ⟨by decide +kernel, rfl⟩
theorem dLW_law_423 : decode mLW_law.2.1 423 = .ok (.ireturn, 1) := by decide +kernel
theorem dLW_law_424 : gD mLW_law 424 (.aload_n 1) 1 425 := ⟨by decide +kernel, rfl⟩
theorem dLW_law_425 : gD mLW_law 425 (.aload_n 0) 1 426 := ⟨by decide +kernel, rfl⟩
theorem dLW_law_426 : gD mLW_law 426 (.iload_n 3) 1 427 := ⟨by decide +kernel, rfl⟩
theorem dLW_law_427 : gD mLW_law 427 (.iconst 1) 1 428 := ⟨by decide +kernel, rfl⟩
theorem dLW_law_428 : gD mLW_law 428 (.iadd) 1 429 := ⟨by decide +kernel, rfl⟩
theorem dLW_law_429 : gD mLW_law 429 (.iaload) 1 430 := ⟨by decide +kernel, rfl⟩
theorem dLW_law_430 : gD mLW_law 430 (.invokevirtual 59) 3 433 := ⟨by decide +kernel, rfl⟩
theorem dLW_law_433 : gD mLW_law 433 (.aload_n 2) 1 434 := ⟨by decide +kernel, rfl⟩
theorem dLW_law_434 : gD mLW_law 434 (.aload_n 0) 1 435 := ⟨by decide +kernel, rfl⟩
theorem dLW_law_435 : gD mLW_law 435 (.iload_n 3) 1 436 := ⟨by decide +kernel, rfl⟩
theorem dLW_law_436 : gD mLW_law 436 (.iconst 1) 1 437 := ⟨by decide +kernel, rfl⟩
theorem dLW_law_437 : gD mLW_law 437 (.iadd) 1 438 := ⟨by decide +kernel, rfl⟩
theorem dLW_law_438 : gD mLW_law 438 (.iaload) 1 439 := ⟨by decide +kernel, rfl⟩
theorem dLW_law_439 : gD mLW_law 439 (.invokevirtual 62) 3 442 := ⟨by decide +kernel, rfl⟩
theorem dLW_law_442 : gB mLW_law 442 (.if_icmp .eq 251) 251 693 445 := ⟨by decide +kernel, by decide, rfl⟩
theorem dLW_law_445 : gD mLW_law 445 (.iconst 0) 1 446 := ⟨by decide +kernel, rfl⟩
theorem dLW_law_446 : decode mLW_law.2.1 446 = .ok (.ireturn, 1) := by decide +kernel
theorem dLW_law_447 : gD mLW_law 447 (.aload_n 1) 1 448 := ⟨by decide +kernel, rfl⟩
theorem dLW_law_448 : gD mLW_law 448 (.aload_n 0) 1 449 := ⟨by decide +kernel, rfl⟩
theorem dLW_law_449 : gD mLW_law 449 (.iload_n 3) 1 450 := ⟨by decide +kernel, rfl⟩
theorem dLW_law_450 : gD mLW_law 450 (.iconst 1) 1 451 := ⟨by decide +kernel, rfl⟩
theorem dLW_law_451 : gD mLW_law 451 (.iadd) 1 452 := ⟨by decide +kernel, rfl⟩
theorem dLW_law_452 : gD mLW_law 452 (.iaload) 1 453 := ⟨by decide +kernel, rfl⟩
theorem dLW_law_453 : gD mLW_law 453 (.aload_n 0) 1 454 := ⟨by decide +kernel, rfl⟩
theorem dLW_law_454 : gD mLW_law 454 (.iload_n 3) 1 455 := ⟨by decide +kernel, rfl⟩
theorem dLW_law_455 : gD mLW_law 455 (.iconst 2) 1 456 := ⟨by decide +kernel, rfl⟩
theorem dLW_law_456 : gD mLW_law 456 (.iadd) 1 457 := ⟨by decide +kernel, rfl⟩
theorem dLW_law_457 : gD mLW_law 457 (.iaload) 1 458 := ⟨by decide +kernel, rfl⟩
theorem dLW_law_458 : gD mLW_law 458 (.invokevirtual 63) 3 461 := ⟨by decide +kernel, rfl⟩
theorem dLW_law_461 : gD mLW_law 461 (.aload_n 2) 1 462 := ⟨by decide +kernel, rfl⟩
theorem dLW_law_462 : gD mLW_law 462 (.aload_n 0) 1 463 := ⟨by decide +kernel, rfl⟩
theorem dLW_law_463 : gD mLW_law 463 (.iload_n 3) 1 464 := ⟨by decide +kernel, rfl⟩
theorem dLW_law_464 : gD mLW_law 464 (.iconst 1) 1 465 := ⟨by decide +kernel, rfl⟩
theorem dLW_law_465 : gD mLW_law 465 (.iadd) 1 466 := ⟨by decide +kernel, rfl⟩
theorem dLW_law_466 : gD mLW_law 466 (.iaload) 1 467 := ⟨by decide +kernel, rfl⟩
theorem dLW_law_467 : gD mLW_law 467 (.aload_n 0) 1 468 := ⟨by decide +kernel, rfl⟩
theorem dLW_law_468 : gD mLW_law 468 (.iload_n 3) 1 469 := ⟨by decide +kernel, rfl⟩
theorem dLW_law_469 : gD mLW_law 469 (.iconst 2) 1 470 := ⟨by decide +kernel, rfl⟩
theorem dLW_law_470 : gD mLW_law 470 (.iadd) 1 471 := ⟨by decide +kernel, rfl⟩
theorem dLW_law_471 : gD mLW_law 471 (.iaload) 1 472 := ⟨by decide +kernel, rfl⟩
theorem dLW_law_472 : gD mLW_law 472 (.invokevirtual 66) 3 475 := ⟨by decide +kernel, rfl⟩
theorem dLW_law_475 : gB mLW_law 475 (.if_icmp .eq 218) 218 693 478 := ⟨by decide +kernel, by decide, rfl⟩
theorem dLW_law_478 : gD mLW_law 478 (.iconst 0) 1 479 := ⟨by decide +kernel, rfl⟩
theorem dLW_law_479 : decode mLW_law.2.1 479 = .ok (.ireturn, 1) := by decide +kernel
theorem dLW_law_480 : gD mLW_law 480 (.aload_n 1) 1 481 := ⟨by decide +kernel, rfl⟩
theorem dLW_law_481 : gD mLW_law 481 (.aload_n 0) 1 482 := ⟨by decide +kernel, rfl⟩
theorem dLW_law_482 : gD mLW_law 482 (.iload_n 3) 1 483 := ⟨by decide +kernel, rfl⟩
theorem dLW_law_483 : gD mLW_law 483 (.iconst 1) 1 484 := ⟨by decide +kernel, rfl⟩
theorem dLW_law_484 : gD mLW_law 484 (.iadd) 1 485 := ⟨by decide +kernel, rfl⟩
theorem dLW_law_485 : gD mLW_law 485 (.iaload) 1 486 := ⟨by decide +kernel, rfl⟩
theorem dLW_law_486 : gD mLW_law 486 (.aload_n 0) 1 487 := ⟨by decide +kernel, rfl⟩
theorem dLW_law_487 : gD mLW_law 487 (.iload_n 3) 1 488 := ⟨by decide +kernel, rfl⟩
theorem dLW_law_488 : gD mLW_law 488 (.iconst 2) 1 489 := ⟨by decide +kernel, rfl⟩
theorem dLW_law_489 : gD mLW_law 489 (.iadd) 1 490 := ⟨by decide +kernel, rfl⟩
theorem dLW_law_490 : gD mLW_law 490 (.iaload) 1 491 := ⟨by decide +kernel, rfl⟩
theorem dLW_law_491 : gD mLW_law 491 (.invokevirtual 67) 3 494 := ⟨by decide +kernel, rfl⟩
theorem dLW_law_494 : gD mLW_law 494 (.aload_n 2) 1 495 := ⟨by decide +kernel, rfl⟩
theorem dLW_law_495 : gD mLW_law 495 (.aload_n 0) 1 496 := ⟨by decide +kernel, rfl⟩
theorem dLW_law_496 : gD mLW_law 496 (.iload_n 3) 1 497 := ⟨by decide +kernel, rfl⟩
theorem dLW_law_497 : gD mLW_law 497 (.iconst 1) 1 498 := ⟨by decide +kernel, rfl⟩
theorem dLW_law_498 : gD mLW_law 498 (.iadd) 1 499 := ⟨by decide +kernel, rfl⟩
theorem dLW_law_499 : gD mLW_law 499 (.iaload) 1 500 := ⟨by decide +kernel, rfl⟩
theorem dLW_law_500 : gD mLW_law 500 (.aload_n 0) 1 501 := ⟨by decide +kernel, rfl⟩
theorem dLW_law_501 : gD mLW_law 501 (.iload_n 3) 1 502 := ⟨by decide +kernel, rfl⟩
theorem dLW_law_502 : gD mLW_law 502 (.iconst 2) 1 503 := ⟨by decide +kernel, rfl⟩
theorem dLW_law_503 : gD mLW_law 503 (.iadd) 1 504 := ⟨by decide +kernel, rfl⟩
theorem dLW_law_504 : gD mLW_law 504 (.iaload) 1 505 := ⟨by decide +kernel, rfl⟩
theorem dLW_law_505 : gD mLW_law 505 (.invokevirtual 70) 3 508 := ⟨by decide +kernel, rfl⟩
theorem dLW_law_508 : gB mLW_law 508 (.if_icmp .eq 185) 185 693 511 := ⟨by decide +kernel, by decide, rfl⟩
theorem dLW_law_511 : gD mLW_law 511 (.iconst 0) 1 512 := ⟨by decide +kernel, rfl⟩
theorem dLW_law_512 : decode mLW_law.2.1 512 = .ok (.ireturn, 1) := by decide +kernel
theorem dLW_law_513 : gD mLW_law 513 (.aload_n 1) 1 514 := ⟨by decide +kernel, rfl⟩
theorem dLW_law_514 : gD mLW_law 514 (.aload_n 0) 1 515 := ⟨by decide +kernel, rfl⟩
theorem dLW_law_515 : gD mLW_law 515 (.iload_n 3) 1 516 := ⟨by decide +kernel, rfl⟩
theorem dLW_law_516 : gD mLW_law 516 (.iconst 1) 1 517 := ⟨by decide +kernel, rfl⟩
theorem dLW_law_517 : gD mLW_law 517 (.iadd) 1 518 := ⟨by decide +kernel, rfl⟩
theorem dLW_law_518 : gD mLW_law 518 (.iaload) 1 519 := ⟨by decide +kernel, rfl⟩
theorem dLW_law_519 : gD mLW_law 519 (.aload_n 0) 1 520 := ⟨by decide +kernel, rfl⟩
theorem dLW_law_520 : gD mLW_law 520 (.iload_n 3) 1 521 := ⟨by decide +kernel, rfl⟩
theorem dLW_law_521 : gD mLW_law 521 (.iconst 2) 1 522 := ⟨by decide +kernel, rfl⟩
theorem dLW_law_522 : gD mLW_law 522 (.iadd) 1 523 := ⟨by decide +kernel, rfl⟩
theorem dLW_law_523 : gD mLW_law 523 (.iaload) 1 524 := ⟨by decide +kernel, rfl⟩
theorem dLW_law_524 : gD mLW_law 524 (.invokevirtual 71) 3 527 := ⟨by decide +kernel, rfl⟩
theorem dLW_law_527 : gD mLW_law 527 (.aload_n 2) 1 528 := ⟨by decide +kernel, rfl⟩
theorem dLW_law_528 : gD mLW_law 528 (.aload_n 0) 1 529 := ⟨by decide +kernel, rfl⟩
theorem dLW_law_529 : gD mLW_law 529 (.iload_n 3) 1 530 := ⟨by decide +kernel, rfl⟩
theorem dLW_law_530 : gD mLW_law 530 (.iconst 1) 1 531 := ⟨by decide +kernel, rfl⟩
theorem dLW_law_531 : gD mLW_law 531 (.iadd) 1 532 := ⟨by decide +kernel, rfl⟩
theorem dLW_law_532 : gD mLW_law 532 (.iaload) 1 533 := ⟨by decide +kernel, rfl⟩
theorem dLW_law_533 : gD mLW_law 533 (.aload_n 0) 1 534 := ⟨by decide +kernel, rfl⟩
theorem dLW_law_534 : gD mLW_law 534 (.iload_n 3) 1 535 := ⟨by decide +kernel, rfl⟩
theorem dLW_law_535 : gD mLW_law 535 (.iconst 2) 1 536 := ⟨by decide +kernel, rfl⟩
theorem dLW_law_536 : gD mLW_law 536 (.iadd) 1 537 := ⟨by decide +kernel, rfl⟩
theorem dLW_law_537 : gD mLW_law 537 (.iaload) 1 538 := ⟨by decide +kernel, rfl⟩
theorem dLW_law_538 : gD mLW_law 538 (.invokevirtual 74) 3 541 := ⟨by decide +kernel, rfl⟩
theorem dLW_law_541 : gB mLW_law 541 (.if_icmp .eq 152) 152 693 544 := ⟨by decide +kernel, by decide, rfl⟩
theorem dLW_law_544 : gD mLW_law 544 (.iconst 0) 1 545 := ⟨by decide +kernel, rfl⟩
theorem dLW_law_545 : decode mLW_law.2.1 545 = .ok (.ireturn, 1) := by decide +kernel
theorem dLW_law_546 : gD mLW_law 546 (.aload_n 1) 1 547 := ⟨by decide +kernel, rfl⟩
theorem dLW_law_547 : gD mLW_law 547 (.aload_n 0) 1 548 := ⟨by decide +kernel, rfl⟩
theorem dLW_law_548 : gD mLW_law 548 (.iload_n 3) 1 549 := ⟨by decide +kernel, rfl⟩
theorem dLW_law_549 : gD mLW_law 549 (.iconst 1) 1 550 := ⟨by decide +kernel, rfl⟩
theorem dLW_law_550 : gD mLW_law 550 (.iadd) 1 551 := ⟨by decide +kernel, rfl⟩
theorem dLW_law_551 : gD mLW_law 551 (.iaload) 1 552 := ⟨by decide +kernel, rfl⟩
theorem dLW_law_552 : gB mLW_law 552 (.ifCond .eq 7) 7 559 555 := ⟨by decide +kernel, by decide, rfl⟩
theorem dLW_law_555 : gD mLW_law 555 (.iconst 1) 1 556 := ⟨by decide +kernel, rfl⟩
theorem dLW_law_556 : gB mLW_law 556 (.goto 4) 4 560 559 := ⟨by decide +kernel, by decide, rfl⟩
theorem dLW_law_559 : gD mLW_law 559 (.iconst 0) 1 560 := ⟨by decide +kernel, rfl⟩
theorem dLW_law_560 : gD mLW_law 560 (.invokevirtual 75) 3 563 := ⟨by decide +kernel, rfl⟩
theorem dLW_law_563 : gD mLW_law 563 (.aload_n 2) 1 564 := ⟨by decide +kernel, rfl⟩
theorem dLW_law_564 : gD mLW_law 564 (.aload_n 0) 1 565 := ⟨by decide +kernel, rfl⟩
theorem dLW_law_565 : gD mLW_law 565 (.iload_n 3) 1 566 := ⟨by decide +kernel, rfl⟩
theorem dLW_law_566 : gD mLW_law 566 (.iconst 1) 1 567 := ⟨by decide +kernel, rfl⟩
theorem dLW_law_567 : gD mLW_law 567 (.iadd) 1 568 := ⟨by decide +kernel, rfl⟩
theorem dLW_law_568 : gD mLW_law 568 (.iaload) 1 569 := ⟨by decide +kernel, rfl⟩
theorem dLW_law_569 : gB mLW_law 569 (.ifCond .eq 7) 7 576 572 := ⟨by decide +kernel, by decide, rfl⟩
theorem dLW_law_572 : gD mLW_law 572 (.iconst 1) 1 573 := ⟨by decide +kernel, rfl⟩
theorem dLW_law_573 : gB mLW_law 573 (.goto 4) 4 577 576 := ⟨by decide +kernel, by decide, rfl⟩
theorem dLW_law_576 : gD mLW_law 576 (.iconst 0) 1 577 := ⟨by decide +kernel, rfl⟩
theorem dLW_law_577 : gD mLW_law 577 (.invokevirtual 79) 3 580 := ⟨by decide +kernel, rfl⟩
theorem dLW_law_580 : gB mLW_law 580 (.if_icmp .eq 113) 113 693 583 := ⟨by decide +kernel, by decide, rfl⟩
theorem dLW_law_583 : gD mLW_law 583 (.iconst 0) 1 584 := ⟨by decide +kernel, rfl⟩
theorem dLW_law_584 : decode mLW_law.2.1 584 = .ok (.ireturn, 1) := by decide +kernel
theorem dLW_law_585 : gD mLW_law 585 (.aload_n 1) 1 586 := ⟨by decide +kernel, rfl⟩
theorem dLW_law_586 : gD mLW_law 586 (.invokevirtual 80) 3 589 := ⟨by decide +kernel, rfl⟩
theorem dLW_law_589 : gD mLW_law 589 (.aload_n 2) 1 590 := ⟨by decide +kernel, rfl⟩
theorem dLW_law_590 : gD mLW_law 590 (.invokevirtual 84) 3 593 := ⟨by decide +kernel, rfl⟩
theorem dLW_law_593 : gB mLW_law 593 (.if_icmp .eq 100) 100 693 596 := ⟨by decide +kernel, by decide, rfl⟩
theorem dLW_law_596 : gD mLW_law 596 (.iconst 0) 1 597 := ⟨by decide +kernel, rfl⟩
theorem dLW_law_597 : decode mLW_law.2.1 597 = .ok (.ireturn, 1) := by decide +kernel
theorem dLW_law_598 : gD mLW_law 598 (.aload_n 1) 1 599 := ⟨by decide +kernel, rfl⟩
theorem dLW_law_599 : gD mLW_law 599 (.invokevirtual 85) 3 602 := ⟨by decide +kernel, rfl⟩
theorem dLW_law_602 : gD mLW_law 602 (.aload_n 2) 1 603 := ⟨by decide +kernel, rfl⟩
theorem dLW_law_603 : gD mLW_law 603 (.invokevirtual 88) 3 606 := ⟨by decide +kernel, rfl⟩
theorem dLW_law_606 : gB mLW_law 606 (.if_icmp .eq 87) 87 693 609 := ⟨by decide +kernel, by decide, rfl⟩
theorem dLW_law_609 : gD mLW_law 609 (.iconst 0) 1 610 := ⟨by decide +kernel, rfl⟩
theorem dLW_law_610 : decode mLW_law.2.1 610 = .ok (.ireturn, 1) := by decide +kernel
theorem dLW_law_611 : gD mLW_law 611 (.aload_n 1) 1 612 := ⟨by decide +kernel, rfl⟩
theorem dLW_law_612 : gD mLW_law 612 (.aload_n 0) 1 613 := ⟨by decide +kernel, rfl⟩
theorem dLW_law_613 : gD mLW_law 613 (.iload_n 3) 1 614 := ⟨by decide +kernel, rfl⟩
theorem dLW_law_614 : gD mLW_law 614 (.iconst 1) 1 615 := ⟨by decide +kernel, rfl⟩
theorem dLW_law_615 : gD mLW_law 615 (.iadd) 1 616 := ⟨by decide +kernel, rfl⟩
theorem dLW_law_616 : gD mLW_law 616 (.iaload) 1 617 := ⟨by decide +kernel, rfl⟩
theorem dLW_law_617 : gD mLW_law 617 (.invokevirtual 89) 3 620 := ⟨by decide +kernel, rfl⟩
theorem dLW_law_620 : gD mLW_law 620 (.aload_n 2) 1 621 := ⟨by decide +kernel, rfl⟩
theorem dLW_law_621 : gD mLW_law 621 (.aload_n 0) 1 622 := ⟨by decide +kernel, rfl⟩
theorem dLW_law_622 : gD mLW_law 622 (.iload_n 3) 1 623 := ⟨by decide +kernel, rfl⟩
theorem dLW_law_623 : gD mLW_law 623 (.iconst 1) 1 624 := ⟨by decide +kernel, rfl⟩
theorem dLW_law_624 : gD mLW_law 624 (.iadd) 1 625 := ⟨by decide +kernel, rfl⟩
theorem dLW_law_625 : gD mLW_law 625 (.iaload) 1 626 := ⟨by decide +kernel, rfl⟩
theorem dLW_law_626 : gD mLW_law 626 (.invokevirtual 92) 3 629 := ⟨by decide +kernel, rfl⟩
theorem dLW_law_629 : gB mLW_law 629 (.if_icmp .eq 64) 64 693 632 := ⟨by decide +kernel, by decide, rfl⟩
theorem dLW_law_632 : gD mLW_law 632 (.iconst 0) 1 633 := ⟨by decide +kernel, rfl⟩
theorem dLW_law_633 : decode mLW_law.2.1 633 = .ok (.ireturn, 1) := by decide +kernel
theorem dLW_law_634 : gD mLW_law 634 (.aload_n 1) 1 635 := ⟨by decide +kernel, rfl⟩
theorem dLW_law_635 : gD mLW_law 635 (.invokevirtual 93) 3 638 := ⟨by decide +kernel, rfl⟩
theorem dLW_law_638 : gD mLW_law 638 (.aload_n 2) 1 639 := ⟨by decide +kernel, rfl⟩
theorem dLW_law_639 : gD mLW_law 639 (.invokevirtual 96) 3 642 := ⟨by decide +kernel, rfl⟩
theorem dLW_law_642 : gB mLW_law 642 (.if_icmp .eq 51) 51 693 645 := ⟨by decide +kernel, by decide, rfl⟩
theorem dLW_law_645 : gD mLW_law 645 (.iconst 0) 1 646 := ⟨by decide +kernel, rfl⟩
theorem dLW_law_646 : decode mLW_law.2.1 646 = .ok (.ireturn, 1) := by decide +kernel
theorem dLW_law_647 : gD mLW_law 647 (.aload_n 1) 1 648 := ⟨by decide +kernel, rfl⟩
theorem dLW_law_648 : gD mLW_law 648 (.invokevirtual 97) 3 651 := ⟨by decide +kernel, rfl⟩
theorem dLW_law_651 : gD mLW_law 651 (.aload_n 2) 1 652 := ⟨by decide +kernel, rfl⟩
theorem dLW_law_652 : gD mLW_law 652 (.invokevirtual 100) 3 655 := ⟨by decide +kernel, rfl⟩
theorem dLW_law_655 : gB mLW_law 655 (.if_icmp .eq 38) 38 693 658 := ⟨by decide +kernel, by decide, rfl⟩
theorem dLW_law_658 : gD mLW_law 658 (.iconst 0) 1 659 := ⟨by decide +kernel, rfl⟩
theorem dLW_law_659 : decode mLW_law.2.1 659 = .ok (.ireturn, 1) := by decide +kernel
theorem dLW_law_660 : gD mLW_law 660 (.aload_n 1) 1 661 := ⟨by decide +kernel, rfl⟩
theorem dLW_law_661 : gD mLW_law 661 (.aload_n 0) 1 662 := ⟨by decide +kernel, rfl⟩
theorem dLW_law_662 : gD mLW_law 662 (.iload_n 3) 1 663 := ⟨by decide +kernel, rfl⟩
theorem dLW_law_663 : gD mLW_law 663 (.iconst 1) 1 664 := ⟨by decide +kernel, rfl⟩
theorem dLW_law_664 : gD mLW_law 664 (.iadd) 1 665 := ⟨by decide +kernel, rfl⟩
theorem dLW_law_665 : gD mLW_law 665 (.iaload) 1 666 := ⟨by decide +kernel, rfl⟩
theorem dLW_law_666 : gD mLW_law 666 (.aload_n 0) 1 667 := ⟨by decide +kernel, rfl⟩
theorem dLW_law_667 : gD mLW_law 667 (.iload_n 3) 1 668 := ⟨by decide +kernel, rfl⟩
theorem dLW_law_668 : gD mLW_law 668 (.iconst 2) 1 669 := ⟨by decide +kernel, rfl⟩
theorem dLW_law_669 : gD mLW_law 669 (.iadd) 1 670 := ⟨by decide +kernel, rfl⟩
theorem dLW_law_670 : gD mLW_law 670 (.iaload) 1 671 := ⟨by decide +kernel, rfl⟩
theorem dLW_law_671 : gD mLW_law 671 (.invokevirtual 101) 3 674 := ⟨by decide +kernel, rfl⟩
theorem dLW_law_674 : gD mLW_law 674 (.aload_n 2) 1 675 := ⟨by decide +kernel, rfl⟩
theorem dLW_law_675 : gD mLW_law 675 (.aload_n 0) 1 676 := ⟨by decide +kernel, rfl⟩
theorem dLW_law_676 : gD mLW_law 676 (.iload_n 3) 1 677 := ⟨by decide +kernel, rfl⟩
theorem dLW_law_677 : gD mLW_law 677 (.iconst 1) 1 678 := ⟨by decide +kernel, rfl⟩
theorem dLW_law_678 : gD mLW_law 678 (.iadd) 1 679 := ⟨by decide +kernel, rfl⟩
theorem dLW_law_679 : gD mLW_law 679 (.iaload) 1 680 := ⟨by decide +kernel, rfl⟩
theorem dLW_law_680 : gD mLW_law 680 (.aload_n 0) 1 681 := ⟨by decide +kernel, rfl⟩
theorem dLW_law_681 : gD mLW_law 681 (.iload_n 3) 1 682 := ⟨by decide +kernel, rfl⟩
theorem dLW_law_682 : gD mLW_law 682 (.iconst 2) 1 683 := ⟨by decide +kernel, rfl⟩
theorem dLW_law_683 : gD mLW_law 683 (.iadd) 1 684 := ⟨by decide +kernel, rfl⟩
theorem dLW_law_684 : gD mLW_law 684 (.iaload) 1 685 := ⟨by decide +kernel, rfl⟩
theorem dLW_law_685 : gD mLW_law 685 (.invokevirtual 104) 3 688 := ⟨by decide +kernel, rfl⟩
theorem dLW_law_688 : gB mLW_law 688 (.if_icmp .eq 5) 5 693 691 := ⟨by decide +kernel, by decide, rfl⟩
theorem dLW_law_691 : gD mLW_law 691 (.iconst 0) 1 692 := ⟨by decide +kernel, rfl⟩
theorem dLW_law_692 : decode mLW_law.2.1 692 = .ok (.ireturn, 1) := by decide +kernel
theorem dLW_law_693 : gD mLW_law 693 (.iinc 3 6) 3 696 := ⟨by decide +kernel, rfl⟩
theorem dLW_law_696 : gB mLW_law 696 (.goto (-658)) (-658) 38 699 := ⟨by decide +kernel, by decide, rfl⟩
theorem dLW_law_699 : gD mLW_law 699 (.iconst 1) 1 700 := ⟨by decide +kernel, rfl⟩
theorem dLW_law_700 : decode mLW_law.2.1 700 = .ok (.ireturn, 1) := by decide +kernel
end
section
theorem dMO_init_0 : gD mMO_init 0 (.aload_n 0) 1 1 := ⟨by decide +kernel, rfl⟩
theorem dMO_init_1 : gD mMO_init 1 (.invokespecial 1) 3 4 := ⟨by decide +kernel, rfl⟩
theorem dMO_init_4 : gD mMO_init 4 (.aload_n 0) 1 5 := ⟨by decide +kernel, rfl⟩
theorem dMO_init_5 : gD mMO_init 5 (.iconst 1) 1 6 := ⟨by decide +kernel, rfl⟩
theorem dMO_init_6 : gD mMO_init 6 (.putfield 7) 3 9 := ⟨by decide +kernel, rfl⟩
theorem dMO_init_9 : gD mMO_init 9 (.aload_n 0) 1 10 := ⟨by decide +kernel, rfl⟩
theorem dMO_init_10 : gD mMO_init 10 (.bipush 6) 2 12 := ⟨by decide +kernel, rfl⟩
theorem dMO_init_12 : gD mMO_init 12 (.newarray .int) 2 14 := ⟨by decide +kernel, rfl⟩
theorem dMO_init_14 : gD mMO_init 14 (.putfield 13) 3 17 := ⟨by decide +kernel, rfl⟩
theorem dMO_init_17 : gD mMO_init 17 (.aload_n 0) 1 18 := ⟨by decide +kernel, rfl⟩
theorem dMO_init_18 : gD mMO_init 18 (.bipush 6) 2 20 := ⟨by decide +kernel, rfl⟩
theorem dMO_init_20 : gD mMO_init 20 (.newarray .int) 2 22 := ⟨by decide +kernel, rfl⟩
theorem dMO_init_22 : gD mMO_init 22 (.putfield 17) 3 25 := ⟨by decide +kernel, rfl⟩
theorem dMO_init_25 : gD mMO_init 25 (.aload_n 0) 1 26 := ⟨by decide +kernel, rfl⟩
theorem dMO_init_26 : gD mMO_init 26 (.bipush 6) 2 28 := ⟨by decide +kernel, rfl⟩
theorem dMO_init_28 : gD mMO_init 28 (.newarray .boolean) 2 30 := ⟨by decide +kernel, rfl⟩
theorem dMO_init_30 : gD mMO_init 30 (.putfield 20) 3 33 := ⟨by decide +kernel, rfl⟩
theorem dMO_init_33 : gD mMO_init 33 (.aload_n 0) 1 34 := ⟨by decide +kernel, rfl⟩
theorem dMO_init_34 : gD mMO_init 34 (.bipush 6) 2 36 := ⟨by decide +kernel, rfl⟩
theorem dMO_init_36 : gD mMO_init 36 (.newarray .boolean) 2 38 := ⟨by decide +kernel, rfl⟩
theorem dMO_init_38 : gD mMO_init 38 (.putfield 24) 3 41 := ⟨by decide +kernel, rfl⟩
theorem dMO_init_41 : gD mMO_init 41 (.aload_n 0) 1 42 := ⟨by decide +kernel, rfl⟩
theorem dMO_init_42 : gD mMO_init 42 (.bipush 6) 2 44 := ⟨by decide +kernel, rfl⟩
theorem dMO_init_44 : gD mMO_init 44 (.newarray .int) 2 46 := ⟨by decide +kernel, rfl⟩
theorem dMO_init_46 : gD mMO_init 46 (.putfield 27) 3 49 := ⟨by decide +kernel, rfl⟩
theorem dMO_init_49 : gD mMO_init 49 (.aload_n 0) 1 50 := ⟨by decide +kernel, rfl⟩
theorem dMO_init_50 : gD mMO_init 50 (.bipush 6) 2 52 := ⟨by decide +kernel, rfl⟩
theorem dMO_init_52 : gD mMO_init 52 (.newarray .int) 2 54 := ⟨by decide +kernel, rfl⟩
theorem dMO_init_54 : gD mMO_init 54 (.putfield 30) 3 57 := ⟨by decide +kernel, rfl⟩
theorem dMO_init_57 : gD mMO_init 57 (.aload_n 0) 1 58 := ⟨by decide +kernel, rfl⟩
theorem dMO_init_58 : gD mMO_init 58 (.bipush 24) 2 60 := ⟨by decide +kernel, rfl⟩
theorem dMO_init_60 : gD mMO_init 60 (.newarray .int) 2 62 := ⟨by decide +kernel, rfl⟩
theorem dMO_init_62 : gD mMO_init 62 (.putfield 33) 3 65 := ⟨by decide +kernel, rfl⟩
theorem dMO_init_65 : gD mMO_init 65 (.aload_n 0) 1 66 := ⟨by decide +kernel, rfl⟩
theorem dMO_init_66 : gD mMO_init 66 (.bipush 24) 2 68 := ⟨by decide +kernel, rfl⟩
theorem dMO_init_68 : gD mMO_init 68 (.newarray .int) 2 70 := ⟨by decide +kernel, rfl⟩
theorem dMO_init_70 : gD mMO_init 70 (.putfield 36) 3 73 := ⟨by decide +kernel, rfl⟩
theorem dMO_init_73 : gD mMO_init 73 (.aload_n 0) 1 74 := ⟨by decide +kernel, rfl⟩
theorem dMO_init_74 : gD mMO_init 74 (.bipush 16) 2 76 := ⟨by decide +kernel, rfl⟩
theorem dMO_init_76 : gD mMO_init 76 (.newarray .boolean) 2 78 := ⟨by decide +kernel, rfl⟩
theorem dMO_init_78 : gD mMO_init 78 (.putfield 39) 3 81 := ⟨by decide +kernel, rfl⟩
theorem dMO_init_81 : gD mMO_init 81 (.aload_n 0) 1 82 := ⟨by decide +kernel, rfl⟩
theorem dMO_init_82 : gD mMO_init 82 (.bipush 16) 2 84 := ⟨by decide +kernel, rfl⟩
theorem dMO_init_84 : gD mMO_init 84 (.newarray .int) 2 86 := ⟨by decide +kernel, rfl⟩
theorem dMO_init_86 : gD mMO_init 86 (.putfield 42) 3 89 := ⟨by decide +kernel, rfl⟩
theorem dMO_init_89 : gD mMO_init 89 (.aload_n 0) 1 90 := ⟨by decide +kernel, rfl⟩
theorem dMO_init_90 : gD mMO_init 90 (.bipush 16) 2 92 := ⟨by decide +kernel, rfl⟩
theorem dMO_init_92 : gD mMO_init 92 (.newarray .int) 2 94 := ⟨by decide +kernel, rfl⟩
theorem dMO_init_94 : gD mMO_init 94 (.putfield 45) 3 97 := ⟨by decide +kernel, rfl⟩
theorem dMO_init_97 : gD mMO_init 97 (.aload_n 0) 1 98 := ⟨by decide +kernel, rfl⟩
theorem dMO_init_98 : gD mMO_init 98 (.bipush 16) 2 100 := ⟨by decide +kernel, rfl⟩
theorem dMO_init_100 : gD mMO_init 100 (.newarray .int) 2 102 := ⟨by decide +kernel, rfl⟩
theorem dMO_init_102 : gD mMO_init 102 (.putfield 48) 3 105 := ⟨by decide +kernel, rfl⟩
theorem dMO_init_105 : gD mMO_init 105 (.aload_n 0) 1 106 := ⟨by decide +kernel, rfl⟩
theorem dMO_init_106 : gD mMO_init 106 (.bipush 16) 2 108 := ⟨by decide +kernel, rfl⟩
theorem dMO_init_108 : gD mMO_init 108 (.newarray .int) 2 110 := ⟨by decide +kernel, rfl⟩
theorem dMO_init_110 : gD mMO_init 110 (.putfield 51) 3 113 := ⟨by decide +kernel, rfl⟩
theorem dMO_init_113 : gD mMO_init 113 (.aload_n 0) 1 114 := ⟨by decide +kernel, rfl⟩
theorem dMO_init_114 : gD mMO_init 114 (.bipush 16) 2 116 := ⟨by decide +kernel, rfl⟩
theorem dMO_init_116 : gD mMO_init 116 (.newarray .int) 2 118 := ⟨by decide +kernel, rfl⟩
theorem dMO_init_118 : gD mMO_init 118 (.putfield 54) 3 121 := ⟨by decide +kernel, rfl⟩
theorem dMO_init_121 : gD mMO_init 121 (.aload_n 0) 1 122 := ⟨by decide +kernel, rfl⟩
theorem dMO_init_122 : gD mMO_init 122 (.bipush 120) 2 124 := ⟨by decide +kernel, rfl⟩
theorem dMO_init_124 : gD mMO_init 124 (.newarray .int) 2 126 := ⟨by decide +kernel, rfl⟩
theorem dMO_init_126 : gD mMO_init 126 (.putfield 57) 3 129 := ⟨by decide +kernel, rfl⟩
theorem dMO_init_129 : gD mMO_init 129 (.aload_n 0) 1 130 := ⟨by decide +kernel, rfl⟩
theorem dMO_init_130 : gD mMO_init 130 (.bipush 120) 2 132 := ⟨by decide +kernel, rfl⟩
theorem dMO_init_132 : gD mMO_init 132 (.newarray .int) 2 134 := ⟨by decide +kernel, rfl⟩
theorem dMO_init_134 : gD mMO_init 134 (.putfield 60) 3 137 := ⟨by decide +kernel, rfl⟩
theorem dMO_init_137 : gD mMO_init 137 (.aload_n 0) 1 138 := ⟨by decide +kernel, rfl⟩
theorem dMO_init_138 : gD mMO_init 138 (.bipush 120) 2 140 := ⟨by decide +kernel, rfl⟩
theorem dMO_init_140 : gD mMO_init 140 (.newarray .int) 2 142 := ⟨by decide +kernel, rfl⟩
theorem dMO_init_142 : gD mMO_init 142 (.putfield 63) 3 145 := ⟨by decide +kernel, rfl⟩
theorem dMO_init_145 : gD mMO_init 145 (.aload_n 0) 1 146 := ⟨by decide +kernel, rfl⟩
theorem dMO_init_146 : gD mMO_init 146 (.bipush 24) 2 148 := ⟨by decide +kernel, rfl⟩
theorem dMO_init_148 : gD mMO_init 148 (.newarray .int) 2 150 := ⟨by decide +kernel, rfl⟩
theorem dMO_init_150 : gD mMO_init 150 (.putfield 66) 3 153 := ⟨by decide +kernel, rfl⟩
theorem dMO_init_153 : gD mMO_init 153 (.aload_n 0) 1 154 := ⟨by decide +kernel, rfl⟩
theorem dMO_init_154 : gD mMO_init 154 (.iconst (-1)) 1 155 := ⟨by decide +kernel, rfl⟩
theorem dMO_init_155 : gD mMO_init 155 (.putfield 69) 3 158 := ⟨by decide +kernel, rfl⟩
theorem dMO_init_158 : gD mMO_init 158 (.aload_n 0) 1 159 := ⟨by decide +kernel, rfl⟩
theorem dMO_init_159 : gD mMO_init 159 (.iconst (-1)) 1 160 := ⟨by decide +kernel, rfl⟩
theorem dMO_init_160 : gD mMO_init 160 (.putfield 72) 3 163 := ⟨by decide +kernel, rfl⟩
theorem dMO_init_163 : gD mMO_init 163 (.aload_n 0) 1 164 := ⟨by decide +kernel, rfl⟩
theorem dMO_init_164 : gD mMO_init 164 (.sipush 2304) 3 167 := ⟨by decide +kernel, rfl⟩
theorem dMO_init_167 : gD mMO_init 167 (.newarray .boolean) 2 169 := ⟨by decide +kernel, rfl⟩
theorem dMO_init_169 : gD mMO_init 169 (.putfield 75) 3 172 := ⟨by decide +kernel, rfl⟩
theorem dMO_init_172 : gD mMO_init 172 (.aload_n 0) 1 173 := ⟨by decide +kernel, rfl⟩
theorem dMO_init_173 : gD mMO_init 173 (.bipush 6) 2 175 := ⟨by decide +kernel, rfl⟩
theorem dMO_init_175 : gD mMO_init 175 (.newarray .int) 2 177 := ⟨by decide +kernel, rfl⟩
theorem dMO_init_177 : gD mMO_init 177 (.putfield 78) 3 180 := ⟨by decide +kernel, rfl⟩
theorem dMO_init_180 : gD mMO_init 180 (.aload_n 0) 1 181 := ⟨by decide +kernel, rfl⟩
theorem dMO_init_181 : gD mMO_init 181 (.sipush 384) 3 184 := ⟨by decide +kernel, rfl⟩
theorem dMO_init_184 : gD mMO_init 184 (.newarray .boolean) 2 186 := ⟨by decide +kernel, rfl⟩
theorem dMO_init_186 : gD mMO_init 186 (.putfield 81) 3 189 := ⟨by decide +kernel, rfl⟩
theorem dMO_init_189 : gD mMO_init 189 (.aload_n 0) 1 190 := ⟨by decide +kernel, rfl⟩
theorem dMO_init_190 : gD mMO_init 190 (.sipush 384) 3 193 := ⟨by decide +kernel, rfl⟩
theorem dMO_init_193 : gD mMO_init 193 (.newarray .int) 2 195 := ⟨by decide +kernel, rfl⟩
theorem dMO_init_195 : gD mMO_init 195 (.putfield 84) 3 198 := ⟨by decide +kernel, rfl⟩
theorem dMO_init_198 : gD mMO_init 198 (.aload_n 0) 1 199 := ⟨by decide +kernel, rfl⟩
theorem dMO_init_199 : gD mMO_init 199 (.iload_n 1) 1 200 := ⟨by decide +kernel, rfl⟩
theorem dMO_init_200 : gD mMO_init 200 (.iconst 1) 1 201 := ⟨by decide +kernel, rfl⟩
theorem dMO_init_201 : gB mMO_init 201 (.if_icmp .ge 7) 7 208 204 := ⟨by decide +kernel, by decide, rfl⟩
theorem dMO_init_204 : gD mMO_init 204 (.iconst 1) 1 205 := ⟨by decide +kernel, rfl⟩
theorem dMO_init_205 : gB mMO_init 205 (.goto 15) 15 220 208 := ⟨by decide +kernel, by decide, rfl⟩
theorem dMO_init_208 : gD mMO_init 208 (.iload_n 1) 1 209 := ⟨by decide +kernel, rfl⟩
theorem dMO_init_209 : gD mMO_init 209 (.bipush 24) 2 211 := ⟨by decide +kernel, rfl⟩
theorem dMO_init_211 : gB mMO_init 211 (.if_icmp .le 8) 8 219 214 := ⟨by decide +kernel, by decide, rfl⟩
theorem dMO_init_214 : gD mMO_init 214 (.bipush 24) 2 216 := ⟨by decide +kernel, rfl⟩
theorem dMO_init_216 : gB mMO_init 216 (.goto 4) 4 220 219 := ⟨by decide +kernel, by decide, rfl⟩
theorem dMO_init_219 : gD mMO_init 219 (.iload_n 1) 1 220 := ⟨by decide +kernel, rfl⟩
theorem dMO_init_220 : gD mMO_init 220 (.putfield 87) 3 223 := ⟨by decide +kernel, rfl⟩
theorem dMO_init_223 : gD mMO_init 223 (.aload_n 0) 1 224 := ⟨by decide +kernel, rfl⟩
theorem dMO_init_224 : gD mMO_init 224 (.iload_n 2) 1 225 := ⟨by decide +kernel, rfl⟩
theorem dMO_init_225 : gD mMO_init 225 (.iconst 1) 1 226 := ⟨by decide +kernel, rfl⟩
theorem dMO_init_226 : gB mMO_init 226 (.if_icmp .ge 7) 7 233 229 := ⟨by decide +kernel, by decide, rfl⟩
theorem dMO_init_229 : gD mMO_init 229 (.iconst 1) 1 230 := ⟨by decide +kernel, rfl⟩
theorem dMO_init_230 : gB mMO_init 230 (.goto 15) 15 245 233 := ⟨by decide +kernel, by decide, rfl⟩
theorem dMO_init_233 : gD mMO_init 233 (.iload_n 2) 1 234 := ⟨by decide +kernel, rfl⟩
theorem dMO_init_234 : gD mMO_init 234 (.bipush 16) 2 236 := ⟨by decide +kernel, rfl⟩
theorem dMO_init_236 : gB mMO_init 236 (.if_icmp .le 8) 8 244 239 := ⟨by decide +kernel, by decide, rfl⟩
theorem dMO_init_239 : gD mMO_init 239 (.bipush 16) 2 241 := ⟨by decide +kernel, rfl⟩
theorem dMO_init_241 : gB mMO_init 241 (.goto 4) 4 245 244 := ⟨by decide +kernel, by decide, rfl⟩
theorem dMO_init_244 : gD mMO_init 244 (.iload_n 2) 1 245 := ⟨by decide +kernel, rfl⟩
theorem dMO_init_245 : gD mMO_init 245 (.putfield 90) 3 248 := ⟨by decide +kernel, rfl⟩
theorem dMO_init_248 : gD mMO_init 248 (.aload_n 0) 1 249 := ⟨by decide +kernel, rfl⟩
theorem dMO_init_249 : gD mMO_init 249 (.getfield 33) 3 252 := ⟨by decide +kernel, rfl⟩
theorem dMO_init_252 : gD mMO_init 252 (.iconst 1) 1 253 := ⟨by decide +kernel, rfl⟩
theorem dMO_init_253 : gD mMO_init 253 (.aload_n 0) 1 254 := ⟨by decide +kernel, rfl⟩
theorem dMO_init_254 : gD mMO_init 254 (.getfield 87) 3 257 := ⟨by decide +kernel, rfl⟩
theorem dMO_init_257 : gD mMO_init 257 (.iastore) 1 258 := ⟨by decide +kernel, rfl⟩
theorem dMO_init_258 : gD mMO_init 258 (.aload_n 0) 1 259 := ⟨by decide +kernel, rfl⟩
theorem dMO_init_259 : gD mMO_init 259 (.getfield 33) 3 262 := ⟨by decide +kernel, rfl⟩
theorem dMO_init_262 : gD mMO_init 262 (.iconst 3) 1 263 := ⟨by decide +kernel, rfl⟩
theorem dMO_init_263 : gD mMO_init 263 (.aload_n 0) 1 264 := ⟨by decide +kernel, rfl⟩
theorem dMO_init_264 : gD mMO_init 264 (.getfield 90) 3 267 := ⟨by decide +kernel, rfl⟩
theorem dMO_init_267 : gD mMO_init 267 (.iastore) 1 268 := ⟨by decide +kernel, rfl⟩
theorem dMO_init_268 : gD mMO_init 268 (.aload_n 0) 1 269 := ⟨by decide +kernel, rfl⟩
theorem dMO_init_269 : gD mMO_init 269 (.getfield 17) 3 272 := ⟨by decide +kernel, rfl⟩
theorem dMO_init_272 : gD mMO_init 272 (.iconst 0) 1 273 := ⟨by decide +kernel, rfl⟩
theorem dMO_init_273 : gD mMO_init 273 (.iconst (-1)) 1 274 := ⟨by decide +kernel, rfl⟩
theorem dMO_init_274 : gD mMO_init 274 (.iastore) 1 275 := ⟨by decide +kernel, rfl⟩
theorem dMO_init_275 : gD mMO_init 275 (.aload_n 0) 1 276 := ⟨by decide +kernel, rfl⟩
theorem dMO_init_276 : gD mMO_init 276 (.invokevirtual 93) 3 279 := ⟨by decide +kernel, rfl⟩
theorem dMO_init_279 : decode mMO_init.2.1 279 = .ok (.return_, 1) := by decide +kernel
theorem dMO_covers_0 : gD mMO_covers 0 (.aload_n 0) 1 1 := ⟨by decide +kernel, rfl⟩
theorem dMO_covers_1 : gD mMO_covers 1 (.getfield 33) 3 4 := ⟨by decide +kernel, rfl⟩
theorem dMO_covers_4 : gD mMO_covers 4 (.iconst 4) 1 5 := ⟨by decide +kernel, rfl⟩
theorem dMO_covers_5 : gD mMO_covers 5 (.iload_n 1) 1 6 := ⟨by decide +kernel, rfl⟩
theorem dMO_covers_6 : gD mMO_covers 6 (.imul) 1 7 := ⟨by decide +kernel, rfl⟩
theorem dMO_covers_7 : gD mMO_covers 7 (.iaload) 1 8 := ⟨by decide +kernel, rfl⟩
theorem dMO_covers_8 : gD mMO_covers 8 (.iload_n 2) 1 9 := ⟨by decide +kernel, rfl⟩
theorem dMO_covers_9 : gB mMO_covers 9 (.if_icmp .gt 58) 58 67 12 := ⟨by decide +kernel, by decide, rfl⟩
theorem dMO_covers_12 : gD mMO_covers 12 (.iload_n 2) 1 13 := ⟨by decide +kernel, rfl⟩
theorem dMO_covers_13 : gD mMO_covers 13 (.aload_n 0) 1 14 := ⟨by decide +kernel, rfl⟩
theorem dMO_covers_14 : gD mMO_covers 14 (.getfield 33) 3 17 := ⟨by decide +kernel, rfl⟩
theorem dMO_covers_17 : gD mMO_covers 17 (.iconst 4) 1 18 := ⟨by decide +kernel, rfl⟩
theorem dMO_covers_18 : gD mMO_covers 18 (.iload_n 1) 1 19 := ⟨by decide +kernel, rfl⟩
theorem dMO_covers_19 : gD mMO_covers 19 (.imul) 1 20 := ⟨by decide +kernel, rfl⟩
theorem dMO_covers_20 : gD mMO_covers 20 (.iconst 1) 1 21 := ⟨by decide +kernel, rfl⟩
theorem dMO_covers_21 : gD mMO_covers 21 (.iadd) 1 22 := ⟨by decide +kernel, rfl⟩
theorem dMO_covers_22 : gD mMO_covers 22 (.iaload) 1 23 := ⟨by decide +kernel, rfl⟩
theorem dMO_covers_23 : gB mMO_covers 23 (.if_icmp .ge 44) 44 67 26 := ⟨by decide +kernel, by decide, rfl⟩
theorem dMO_covers_26 : gD mMO_covers 26 (.aload_n 0) 1 27 := ⟨by decide +kernel, rfl⟩
theorem dMO_covers_27 : gD mMO_covers 27 (.getfield 33) 3 30 := ⟨by decide +kernel, rfl⟩
theorem dMO_covers_30 : gD mMO_covers 30 (.iconst 4) 1 31 := ⟨by decide +kernel, rfl⟩
theorem dMO_covers_31 : gD mMO_covers 31 (.iload_n 1) 1 32 := ⟨by decide +kernel, rfl⟩
theorem dMO_covers_32 : gD mMO_covers 32 (.imul) 1 33 := ⟨by decide +kernel, rfl⟩
theorem dMO_covers_33 : gD mMO_covers 33 (.iconst 2) 1 34 := ⟨by decide +kernel, rfl⟩
theorem dMO_covers_34 : gD mMO_covers 34 (.iadd) 1 35 := ⟨by decide +kernel, rfl⟩
theorem dMO_covers_35 : gD mMO_covers 35 (.iaload) 1 36 := ⟨by decide +kernel, rfl⟩
theorem dMO_covers_36 : gD mMO_covers 36 (.iload_n 3) 1 37 := ⟨by decide +kernel, rfl⟩
theorem dMO_covers_37 : gB mMO_covers 37 (.if_icmp .gt 30) 30 67 40 := ⟨by decide +kernel, by decide, rfl⟩
theorem dMO_covers_40 : gD mMO_covers 40 (.iload_n 3) 1 41 := ⟨by decide +kernel, rfl⟩
theorem dMO_covers_41 : gD mMO_covers 41 (.aload_n 0) 1 42 := ⟨by decide +kernel, rfl⟩
theorem dMO_covers_42 : gD mMO_covers 42 (.getfield 33) 3 45 := ⟨by decide +kernel, rfl⟩
theorem dMO_covers_45 : gD mMO_covers 45 (.iconst 4) 1 46 := ⟨by decide +kernel, rfl⟩
theorem dMO_covers_46 : gD mMO_covers 46 (.iload_n 1) 1 47 := ⟨by decide +kernel, rfl⟩
theorem dMO_covers_47 : gD mMO_covers 47 (.imul) 1 48 := ⟨by decide +kernel, rfl⟩
theorem dMO_covers_48 : gD mMO_covers 48 (.iconst 3) 1 49 := ⟨by decide +kernel, rfl⟩
theorem dMO_covers_49 : gD mMO_covers 49 (.iadd) 1 50 := ⟨by decide +kernel, rfl⟩
theorem dMO_covers_50 : gD mMO_covers 50 (.iaload) 1 51 := ⟨by decide +kernel, rfl⟩
theorem dMO_covers_51 : gB mMO_covers 51 (.if_icmp .ge 16) 16 67 54 := ⟨by decide +kernel, by decide, rfl⟩
theorem dMO_covers_54 : gD mMO_covers 54 (.aload_n 0) 1 55 := ⟨by decide +kernel, rfl⟩
theorem dMO_covers_55 : gD mMO_covers 55 (.getfield 20) 3 58 := ⟨by decide +kernel, rfl⟩
theorem dMO_covers_58 : gD mMO_covers 58 (.iload_n 1) 1 59 := ⟨by decide +kernel, rfl⟩
theorem dMO_covers_59 : gD mMO_covers 59 (.baload) 1 60 := ⟨by decide +kernel, rfl⟩
theorem dMO_covers_60 : gB mMO_covers 60 (.ifCond .ne 7) 7 67 63 := ⟨by decide +kernel, by decide, rfl⟩
theorem dMO_covers_63 : gD mMO_covers 63 (.iconst 1) 1 64 := ⟨by decide +kernel, rfl⟩
theorem dMO_covers_64 : gB mMO_covers 64 (.goto 4) 4 68 67 := ⟨by decide +kernel, by decide, rfl⟩
theorem dMO_covers_67 : gD mMO_covers 67 (.iconst 0) 1 68 := ⟨by decide +kernel, rfl⟩
theorem dMO_covers_68 : decode mMO_covers.2.1 68 = .ok (.ireturn, 1) := by decide +kernel
theorem dMO_inArea_0 : gD mMO_inArea 0 (.iload_n 2) 1 1 := ⟨by decide +kernel, rfl⟩
theorem dMO_inArea_1 : gB mMO_inArea 1 (.ifCond .lt 23) 23 24 4 := ⟨by decide +kernel, by decide, rfl⟩
theorem dMO_inArea_4 : gD mMO_inArea 4 (.iload_n 2) 1 5 := ⟨by decide +kernel, rfl⟩
theorem dMO_inArea_5 : gD mMO_inArea 5 (.bipush 24) 2 7 := ⟨by decide +kernel, rfl⟩
theorem dMO_inArea_7 : gB mMO_inArea 7 (.if_icmp .ge 17) 17 24 10 := ⟨by decide +kernel, by decide, rfl⟩
theorem dMO_inArea_10 : gD mMO_inArea 10 (.iload_n 3) 1 11 := ⟨by decide +kernel, rfl⟩
theorem dMO_inArea_11 : gB mMO_inArea 11 (.ifCond .lt 13) 13 24 14 := ⟨by decide +kernel, by decide, rfl⟩
theorem dMO_inArea_14 : gD mMO_inArea 14 (.iload_n 3) 1 15 := ⟨by decide +kernel, rfl⟩
theorem dMO_inArea_15 : gD mMO_inArea 15 (.bipush 16) 2 17 := ⟨by decide +kernel, rfl⟩
theorem dMO_inArea_17 : gB mMO_inArea 17 (.if_icmp .ge 7) 7 24 20 := ⟨by decide +kernel, by decide, rfl⟩
theorem dMO_inArea_20 : gD mMO_inArea 20 (.iconst 1) 1 21 := ⟨by decide +kernel, rfl⟩
theorem dMO_inArea_21 : gB mMO_inArea 21 (.goto 4) 4 25 24 := ⟨by decide +kernel, by decide, rfl⟩
theorem dMO_inArea_24 : gD mMO_inArea 24 (.iconst 0) 1 25 := ⟨by decide +kernel, rfl⟩
theorem dMO_inArea_25 : gD mMO_inArea 25 (.istore 4) 2 27 := ⟨by decide +kernel, rfl⟩
theorem dMO_inArea_27 : gD mMO_inArea 27 (.iload_n 1) 1 28 := ⟨by decide +kernel, rfl⟩
theorem dMO_inArea_28 : gD mMO_inArea 28 (.istore 5) 2 30 := ⟨by decide +kernel, rfl⟩
theorem dMO_inArea_30 : gD mMO_inArea 30 (.iconst 0) 1 31 := ⟨by decide +kernel, rfl⟩
theorem dMO_inArea_31 : gD mMO_inArea 31 (.istore 6) 2 33 := ⟨by decide +kernel, rfl⟩
theorem dMO_inArea_33 : gD mMO_inArea 33 (.iload 6) 2 35 := ⟨by decide +kernel, rfl⟩
theorem dMO_inArea_35 : gD mMO_inArea 35 (.bipush 6) 2 37 := ⟨by decide +kernel, rfl⟩
theorem dMO_inArea_37 : gB mMO_inArea 37 (.if_icmp .ge 46) 46 83 40 := ⟨by decide +kernel, by decide, rfl⟩
theorem dMO_inArea_40 : gD mMO_inArea 40 (.iload 5) 2 42 := ⟨by decide +kernel, rfl⟩
theorem dMO_inArea_42 : gB mMO_inArea 42 (.ifCond .lt 41) 41 83 45 := ⟨by decide +kernel, by decide, rfl⟩
theorem dMO_inArea_45 : gD mMO_inArea 45 (.iload 4) 2 47 := ⟨by decide +kernel, rfl⟩
theorem dMO_inArea_47 : gB mMO_inArea 47 (.ifCond .eq 18) 18 65 50 := ⟨by decide +kernel, by decide, rfl⟩
theorem dMO_inArea_50 : gD mMO_inArea 50 (.aload_n 0) 1 51 := ⟨by decide +kernel, rfl⟩
theorem dMO_inArea_51 : gD mMO_inArea 51 (.iload 5) 2 53 := ⟨by decide +kernel, rfl⟩
theorem dMO_inArea_53 : gD mMO_inArea 53 (.iload_n 2) 1 54 := ⟨by decide +kernel, rfl⟩
theorem dMO_inArea_54 : gD mMO_inArea 54 (.iload_n 3) 1 55 := ⟨by decide +kernel, rfl⟩
theorem dMO_inArea_55 : gD mMO_inArea 55 (.invokevirtual 96) 3 58 := ⟨by decide +kernel, rfl⟩
theorem dMO_inArea_58 : gB mMO_inArea 58 (.ifCond .eq 7) 7 65 61 := ⟨by decide +kernel, by decide, rfl⟩
theorem dMO_inArea_61 : gD mMO_inArea 61 (.iconst 1) 1 62 := ⟨by decide +kernel, rfl⟩
theorem dMO_inArea_62 : gB mMO_inArea 62 (.goto 4) 4 66 65 := ⟨by decide +kernel, by decide, rfl⟩
theorem dMO_inArea_65 : gD mMO_inArea 65 (.iconst 0) 1 66 := ⟨by decide +kernel, rfl⟩
theorem dMO_inArea_66 : gD mMO_inArea 66 (.istore 4) 2 68 := ⟨by decide +kernel, rfl⟩
theorem dMO_inArea_68 : gD mMO_inArea 68 (.aload_n 0) 1 69 := ⟨by decide +kernel, rfl⟩
theorem dMO_inArea_69 : gD mMO_inArea 69 (.getfield 17) 3 72 := ⟨by decide +kernel, rfl⟩
theorem dMO_inArea_72 : gD mMO_inArea 72 (.iload 5) 2 74 := ⟨by decide +kernel, rfl⟩
theorem dMO_inArea_74 : gD mMO_inArea 74 (.iaload) 1 75 := ⟨by decide +kernel, rfl⟩
theorem dMO_inArea_75 : gD mMO_inArea 75 (.istore 5) 2 77 := ⟨by decide +kernel, rfl⟩
theorem dMO_inArea_77 : gD mMO_inArea 77 (.iinc 6 1) 3 80 := ⟨by decide +kernel, rfl⟩
theorem dMO_inArea_80 : gB mMO_inArea 80 (.goto (-47)) (-47) 33 83 := ⟨by decide +kernel, by decide, rfl⟩
theorem dMO_inArea_83 : gD mMO_inArea 83 (.iload 4) 2 85 := ⟨by decide +kernel, rfl⟩
theorem dMO_inArea_85 : decode mMO_inArea.2.1 85 = .ok (.ireturn, 1) := by decide +kernel
theorem dMO_someArea_0 : gD mMO_someArea 0 (.iconst 0) 1 1 := ⟨by decide +kernel, rfl⟩
theorem dMO_someArea_1 : gD mMO_someArea 1 (.istore_n 2) 1 2 := ⟨by decide +kernel, rfl⟩
theorem dMO_someArea_2 : gD mMO_someArea 2 (.iconst 0) 1 3 := ⟨by decide +kernel, rfl⟩
theorem dMO_someArea_3 : gD mMO_someArea 3 (.istore_n 3) 1 4 := ⟨by decide +kernel, rfl⟩
theorem dMO_someArea_4 : gD mMO_someArea 4 (.iload_n 3) 1 5 := ⟨by decide +kernel, rfl⟩
theorem dMO_someArea_5 : gD mMO_someArea 5 (.sipush 384) 3 8 := ⟨by decide +kernel, rfl⟩
theorem dMO_someArea_8 : gB mMO_someArea 8 (.if_icmp .ge 35) 35 43 11 := ⟨by decide +kernel, by decide, rfl⟩
theorem dMO_someArea_11 : gD mMO_someArea 11 (.iload_n 2) 1 12 := ⟨by decide +kernel, rfl⟩
theorem dMO_someArea_12 : gB mMO_someArea 12 (.ifCond .ne 19) 19 31 15 := ⟨by decide +kernel, by decide, rfl⟩
theorem dMO_someArea_15 : gD mMO_someArea 15 (.aload_n 0) 1 16 := ⟨by decide +kernel, rfl⟩
theorem dMO_someArea_16 : gD mMO_someArea 16 (.iload_n 1) 1 17 := ⟨by decide +kernel, rfl⟩
theorem dMO_someArea_17 : gD mMO_someArea 17 (.iload_n 3) 1 18 := ⟨by decide +kernel, rfl⟩
theorem dMO_someArea_18 : gD mMO_someArea 18 (.bipush 24) 2 20 := ⟨by decide +kernel, rfl⟩
theorem dMO_someArea_20 : gD mMO_someArea 20 (.irem) 1 21 := ⟨by decide +kernel, rfl⟩
theorem dMO_someArea_21 : gD mMO_someArea 21 (.iload_n 3) 1 22 := ⟨by decide +kernel, rfl⟩
theorem dMO_someArea_22 : gD mMO_someArea 22 (.bipush 24) 2 24 := ⟨by decide +kernel, rfl⟩
theorem dMO_someArea_24 : gD mMO_someArea 24 (.idiv) 1 25 := ⟨by decide +kernel, rfl⟩
theorem dMO_someArea_25 : gD mMO_someArea 25 (.invokevirtual 100) 3 28 := ⟨by decide +kernel, rfl⟩
theorem dMO_someArea_28 : gB mMO_someArea 28 (.ifCond .eq 7) 7 35 31 := ⟨by decide +kernel, by decide, rfl⟩
theorem dMO_someArea_31 : gD mMO_someArea 31 (.iconst 1) 1 32 := ⟨by decide +kernel, rfl⟩
theorem dMO_someArea_32 : gB mMO_someArea 32 (.goto 4) 4 36 35 := ⟨by decide +kernel, by decide, rfl⟩
theorem dMO_someArea_35 : gD mMO_someArea 35 (.iconst 0) 1 36 := ⟨by decide +kernel, rfl⟩
theorem dMO_someArea_36 : gD mMO_someArea 36 (.istore_n 2) 1 37 := ⟨by decide +kernel, rfl⟩
theorem dMO_someArea_37 : gD mMO_someArea 37 (.iinc 3 1) 3 40 := ⟨by decide +kernel, rfl⟩
theorem dMO_someArea_40 : gB mMO_someArea 40 (.goto (-36)) (-36) 4 43 := ⟨by decide +kernel, by decide, rfl⟩
theorem dMO_someArea_43 : gD mMO_someArea 43 (.iload_n 2) 1 44 := ⟨by decide +kernel, rfl⟩
theorem dMO_someArea_44 : decode mMO_someArea.2.1 44 = .ok (.ireturn, 1) := by decide +kernel
theorem dMO_can_0 : gD mMO_can 0 (.iload_n 1) 1 1 := ⟨by decide +kernel, rfl⟩
theorem dMO_can_1 : gB mMO_can 1 (.ifCond .lt 24) 24 25 4 := ⟨by decide +kernel, by decide, rfl⟩
theorem dMO_can_4 : gD mMO_can 4 (.aload_n 0) 1 5 := ⟨by decide +kernel, rfl⟩
theorem dMO_can_5 : gD mMO_can 5 (.getfield 13) 3 8 := ⟨by decide +kernel, rfl⟩
theorem dMO_can_8 : gD mMO_can 8 (.iload_n 1) 1 9 := ⟨by decide +kernel, rfl⟩
theorem dMO_can_9 : gD mMO_can 9 (.iaload) 1 10 := ⟨by decide +kernel, rfl⟩
theorem dMO_can_10 : gB mMO_can 10 (.ifCond .le 15) 15 25 13 := ⟨by decide +kernel, by decide, rfl⟩
theorem dMO_can_13 : gD mMO_can 13 (.aload_n 0) 1 14 := ⟨by decide +kernel, rfl⟩
theorem dMO_can_14 : gD mMO_can 14 (.iload_n 1) 1 15 := ⟨by decide +kernel, rfl⟩
theorem dMO_can_15 : gD mMO_can 15 (.invokevirtual 103) 3 18 := ⟨by decide +kernel, rfl⟩
theorem dMO_can_18 : gB mMO_can 18 (.ifCond .eq 7) 7 25 21 := ⟨by decide +kernel, by decide, rfl⟩
theorem dMO_can_21 : gD mMO_can 21 (.iconst 1) 1 22 := ⟨by decide +kernel, rfl⟩
theorem dMO_can_22 : gB mMO_can 22 (.goto 4) 4 26 25 := ⟨by decide +kernel, by decide, rfl⟩
theorem dMO_can_25 : gD mMO_can 25 (.iconst 0) 1 26 := ⟨by decide +kernel, rfl⟩
theorem dMO_can_26 : decode mMO_can.2.1 26 = .ok (.ireturn, 1) := by decide +kernel
theorem dMO_colour_0 : gD mMO_colour 0 (.iconst 1) 1 1 := ⟨by decide +kernel, rfl⟩
theorem dMO_colour_1 : gD mMO_colour 1 (.iload_n 1) 1 2 := ⟨by decide +kernel, rfl⟩
theorem dMO_colour_2 : gD mMO_colour 2 (.iadd) 1 3 := ⟨by decide +kernel, rfl⟩
theorem dMO_colour_3 : gD mMO_colour 3 (.istore_n 2) 1 4 := ⟨by decide +kernel, rfl⟩
theorem dMO_colour_4 : gD mMO_colour 4 (.aload_n 0) 1 5 := ⟨by decide +kernel, rfl⟩
theorem dMO_colour_5 : gD mMO_colour 5 (.getfield 13) 3 8 := ⟨by decide +kernel, rfl⟩
theorem dMO_colour_8 : gD mMO_colour 8 (.iload_n 1) 1 9 := ⟨by decide +kernel, rfl⟩
theorem dMO_colour_9 : gD mMO_colour 9 (.iaload) 1 10 := ⟨by decide +kernel, rfl⟩
theorem dMO_colour_10 : gD mMO_colour 10 (.iconst 2) 1 11 := ⟨by decide +kernel, rfl⟩
theorem dMO_colour_11 : gB mMO_colour 11 (.if_icmp .ne 17) 17 28 14 := ⟨by decide +kernel, by decide, rfl⟩
theorem dMO_colour_14 : gD mMO_colour 14 (.aload_n 0) 1 15 := ⟨by decide +kernel, rfl⟩
theorem dMO_colour_15 : gD mMO_colour 15 (.getfield 24) 3 18 := ⟨by decide +kernel, rfl⟩
theorem dMO_colour_18 : gD mMO_colour 18 (.iload_n 1) 1 19 := ⟨by decide +kernel, rfl⟩
theorem dMO_colour_19 : gD mMO_colour 19 (.baload) 1 20 := ⟨by decide +kernel, rfl⟩
theorem dMO_colour_20 : gB mMO_colour 20 (.ifCond .eq 8) 8 28 23 := ⟨by decide +kernel, by decide, rfl⟩
theorem dMO_colour_23 : gD mMO_colour 23 (.iload_n 2) 1 24 := ⟨by decide +kernel, rfl⟩
theorem dMO_colour_24 : gD mMO_colour 24 (.bipush 8) 2 26 := ⟨by decide +kernel, rfl⟩
theorem dMO_colour_26 : gD mMO_colour 26 (.iadd) 1 27 := ⟨by decide +kernel, rfl⟩
theorem dMO_colour_27 : gD mMO_colour 27 (.istore_n 2) 1 28 := ⟨by decide +kernel, rfl⟩
theorem dMO_colour_28 : gD mMO_colour 28 (.aload_n 0) 1 29 := ⟨by decide +kernel, rfl⟩
theorem dMO_colour_29 : gD mMO_colour 29 (.getfield 69) 3 32 := ⟨by decide +kernel, rfl⟩
theorem dMO_colour_32 : gD mMO_colour 32 (.iload_n 1) 1 33 := ⟨by decide +kernel, rfl⟩
theorem dMO_colour_33 : gB mMO_colour 33 (.if_icmp .ne 8) 8 41 36 := ⟨by decide +kernel, by decide, rfl⟩
theorem dMO_colour_36 : gD mMO_colour 36 (.iload_n 2) 1 37 := ⟨by decide +kernel, rfl⟩
theorem dMO_colour_37 : gD mMO_colour 37 (.bipush 16) 2 39 := ⟨by decide +kernel, rfl⟩
theorem dMO_colour_39 : gD mMO_colour 39 (.iadd) 1 40 := ⟨by decide +kernel, rfl⟩
theorem dMO_colour_40 : gD mMO_colour 40 (.istore_n 2) 1 41 := ⟨by decide +kernel, rfl⟩
theorem dMO_colour_41 : gD mMO_colour 41 (.aload_n 0) 1 42 := ⟨by decide +kernel, rfl⟩
theorem dMO_colour_42 : gD mMO_colour 42 (.getfield 72) 3 45 := ⟨by decide +kernel, rfl⟩
theorem dMO_colour_45 : gD mMO_colour 45 (.iload_n 1) 1 46 := ⟨by decide +kernel, rfl⟩
theorem dMO_colour_46 : gB mMO_colour 46 (.if_icmp .ne 10) 10 56 49 := ⟨by decide +kernel, by decide, rfl⟩
theorem dMO_colour_49 : gD mMO_colour 49 (.iload_n 2) 1 50 := ⟨by decide +kernel, rfl⟩
theorem dMO_colour_50 : gD mMO_colour 50 (.bipush 32) 2 52 := ⟨by decide +kernel, rfl⟩
theorem dMO_colour_52 : gD mMO_colour 52 (.iadd) 1 53 := ⟨by decide +kernel, rfl⟩
theorem dMO_colour_53 : gB mMO_colour 53 (.goto 4) 4 57 56 := ⟨by decide +kernel, by decide, rfl⟩
theorem dMO_colour_56 : gD mMO_colour 56 (.iload_n 2) 1 57 := ⟨by decide +kernel, rfl⟩
theorem dMO_colour_57 : decode mMO_colour.2.1 57 = .ok (.ireturn, 1) := by decide +kernel
theorem dMO_look_0 : gD mMO_look 0 (.aload_n 0) 1 1 := ⟨by decide +kernel, rfl⟩
theorem dMO_look_1 : gD mMO_look 1 (.aload_n 0) 1 2 := ⟨by decide +kernel, rfl⟩
theorem dMO_look_2 : gD mMO_look 2 (.getfield 69) 3 5 := ⟨by decide +kernel, rfl⟩
theorem dMO_look_5 : gD mMO_look 5 (.invokevirtual 107) 3 8 := ⟨by decide +kernel, rfl⟩
theorem dMO_look_8 : gB mMO_look 8 (.ifCond .ne 8) 8 16 11 := ⟨by decide +kernel, by decide, rfl⟩
theorem dMO_look_11 : gD mMO_look 11 (.aload_n 0) 1 12 := ⟨by decide +kernel, rfl⟩
theorem dMO_look_12 : gD mMO_look 12 (.iconst (-1)) 1 13 := ⟨by decide +kernel, rfl⟩
theorem dMO_look_13 : gD mMO_look 13 (.putfield 69) 3 16 := ⟨by decide +kernel, rfl⟩
theorem dMO_look_16 : gD mMO_look 16 (.aload_n 0) 1 17 := ⟨by decide +kernel, rfl⟩
theorem dMO_look_17 : gD mMO_look 17 (.aload_n 0) 1 18 := ⟨by decide +kernel, rfl⟩
theorem dMO_look_18 : gD mMO_look 18 (.getfield 72) 3 21 := ⟨by decide +kernel, rfl⟩
theorem dMO_look_21 : gD mMO_look 21 (.invokevirtual 107) 3 24 := ⟨by decide +kernel, rfl⟩
theorem dMO_look_24 : gB mMO_look 24 (.ifCond .ne 8) 8 32 27 := ⟨by decide +kernel, by decide, rfl⟩
theorem dMO_look_27 : gD mMO_look 27 (.aload_n 0) 1 28 := ⟨by decide +kernel, rfl⟩
theorem dMO_look_28 : gD mMO_look 28 (.iconst (-1)) 1 29 := ⟨by decide +kernel, rfl⟩
theorem dMO_look_29 : gD mMO_look 29 (.putfield 72) 3 32 := ⟨by decide +kernel, rfl⟩
theorem dMO_look_32 : gD mMO_look 32 (.iconst 0) 1 33 := ⟨by decide +kernel, rfl⟩
theorem dMO_look_33 : gD mMO_look 33 (.istore_n 1) 1 34 := ⟨by decide +kernel, rfl⟩
theorem dMO_look_34 : gD mMO_look 34 (.iload_n 1) 1 35 := ⟨by decide +kernel, rfl⟩
theorem dMO_look_35 : gD mMO_look 35 (.aload_n 0) 1 36 := ⟨by decide +kernel, rfl⟩
theorem dMO_look_36 : gD mMO_look 36 (.getfield 7) 3 39 := ⟨by decide +kernel, rfl⟩
theorem dMO_look_39 : gB mMO_look 39 (.if_icmp .ge 184) 184 223 42 := ⟨by decide +kernel, by decide, rfl⟩
theorem dMO_look_42 : gD mMO_look 42 (.aload_n 0) 1 43 := ⟨by decide +kernel, rfl⟩
theorem dMO_look_43 : gD mMO_look 43 (.getfield 78) 3 46 := ⟨by decide +kernel, rfl⟩
theorem dMO_look_46 : gD mMO_look 46 (.iload_n 1) 1 47 := ⟨by decide +kernel, rfl⟩
theorem dMO_look_47 : gD mMO_look 47 (.iaload) 1 48 := ⟨by decide +kernel, rfl⟩
theorem dMO_look_48 : gD mMO_look 48 (.aload_n 0) 1 49 := ⟨by decide +kernel, rfl⟩
theorem dMO_look_49 : gD mMO_look 49 (.iload_n 1) 1 50 := ⟨by decide +kernel, rfl⟩
theorem dMO_look_50 : gD mMO_look 50 (.invokevirtual 110) 3 53 := ⟨by decide +kernel, rfl⟩
theorem dMO_look_53 : gB mMO_look 53 (.if_icmp .eq 7) 7 60 56 := ⟨by decide +kernel, by decide, rfl⟩
theorem dMO_look_56 : gD mMO_look 56 (.iconst 1) 1 57 := ⟨by decide +kernel, rfl⟩
theorem dMO_look_57 : gB mMO_look 57 (.goto 4) 4 61 60 := ⟨by decide +kernel, by decide, rfl⟩
theorem dMO_look_60 : gD mMO_look 60 (.iconst 0) 1 61 := ⟨by decide +kernel, rfl⟩
theorem dMO_look_61 : gD mMO_look 61 (.istore_n 2) 1 62 := ⟨by decide +kernel, rfl⟩
theorem dMO_look_62 : gD mMO_look 62 (.iconst 0) 1 63 := ⟨by decide +kernel, rfl⟩
theorem dMO_look_63 : gD mMO_look 63 (.istore_n 3) 1 64 := ⟨by decide +kernel, rfl⟩
theorem dMO_look_64 : gD mMO_look 64 (.iload_n 3) 1 65 := ⟨by decide +kernel, rfl⟩
theorem dMO_look_65 : gD mMO_look 65 (.sipush 384) 3 68 := ⟨by decide +kernel, rfl⟩
theorem dMO_look_68 : gB mMO_look 68 (.if_icmp .ge 47) 47 115 71 := ⟨by decide +kernel, by decide, rfl⟩
theorem dMO_look_71 : gD mMO_look 71 (.iload_n 2) 1 72 := ⟨by decide +kernel, rfl⟩
theorem dMO_look_72 : gB mMO_look 72 (.ifCond .ne 31) 31 103 75 := ⟨by decide +kernel, by decide, rfl⟩
theorem dMO_look_75 : gD mMO_look 75 (.aload_n 0) 1 76 := ⟨by decide +kernel, rfl⟩
theorem dMO_look_76 : gD mMO_look 76 (.getfield 75) 3 79 := ⟨by decide +kernel, rfl⟩
theorem dMO_look_79 : gD mMO_look 79 (.sipush 384) 3 82 := ⟨by decide +kernel, rfl⟩
theorem dMO_look_82 : gD mMO_look 82 (.iload_n 1) 1 83 := ⟨by decide +kernel, rfl⟩
theorem dMO_look_83 : gD mMO_look 83 (.imul) 1 84 := ⟨by decide +kernel, rfl⟩
theorem dMO_look_84 : gD mMO_look 84 (.iload_n 3) 1 85 := ⟨by decide +kernel, rfl⟩
theorem dMO_look_85 : gD mMO_look 85 (.iadd) 1 86 := ⟨by decide +kernel, rfl⟩
theorem dMO_look_86 : gD mMO_look 86 (.baload) 1 87 := ⟨by decide +kernel, rfl⟩
theorem dMO_look_87 : gD mMO_look 87 (.aload_n 0) 1 88 := ⟨by decide +kernel, rfl⟩
theorem dMO_look_88 : gD mMO_look 88 (.iload_n 1) 1 89 := ⟨by decide +kernel, rfl⟩
theorem dMO_look_89 : gD mMO_look 89 (.iload_n 3) 1 90 := ⟨by decide +kernel, rfl⟩
theorem dMO_look_90 : gD mMO_look 90 (.bipush 24) 2 92 := ⟨by decide +kernel, rfl⟩
theorem dMO_look_92 : gD mMO_look 92 (.irem) 1 93 := ⟨by decide +kernel, rfl⟩
theorem dMO_look_93 : gD mMO_look 93 (.iload_n 3) 1 94 := ⟨by decide +kernel, rfl⟩
theorem dMO_look_94 : gD mMO_look 94 (.bipush 24) 2 96 := ⟨by decide +kernel, rfl⟩
theorem dMO_look_96 : gD mMO_look 96 (.idiv) 1 97 := ⟨by decide +kernel, rfl⟩
theorem dMO_look_97 : gD mMO_look 97 (.invokevirtual 100) 3 100 := ⟨by decide +kernel, rfl⟩
theorem dMO_look_100 : gB mMO_look 100 (.if_icmp .eq 7) 7 107 103 := ⟨by decide +kernel, by decide, rfl⟩
theorem dMO_look_103 : gD mMO_look 103 (.iconst 1) 1 104 := ⟨by decide +kernel, rfl⟩
theorem dMO_look_104 : gB mMO_look 104 (.goto 4) 4 108 107 := ⟨by decide +kernel, by decide, rfl⟩
theorem dMO_look_107 : gD mMO_look 107 (.iconst 0) 1 108 := ⟨by decide +kernel, rfl⟩
theorem dMO_look_108 : gD mMO_look 108 (.istore_n 2) 1 109 := ⟨by decide +kernel, rfl⟩
theorem dMO_look_109 : gD mMO_look 109 (.iinc 3 1) 3 112 := ⟨by decide +kernel, rfl⟩
theorem dMO_look_112 : gB mMO_look 112 (.goto (-48)) (-48) 64 115 := ⟨by decide +kernel, by decide, rfl⟩
theorem dMO_look_115 : gD mMO_look 115 (.iload_n 2) 1 116 := ⟨by decide +kernel, rfl⟩
theorem dMO_look_116 : gB mMO_look 116 (.ifCond .ne 6) 6 122 119 := ⟨by decide +kernel, by decide, rfl⟩
theorem dMO_look_119 : gB mMO_look 119 (.goto 98) 98 217 122 := ⟨by decide +kernel, by decide, rfl⟩
theorem dMO_look_122 : gD mMO_look 122 (.aload_n 0) 1 123 := ⟨by decide +kernel, rfl⟩
theorem dMO_look_123 : gD mMO_look 123 (.getfield 78) 3 126 := ⟨by decide +kernel, rfl⟩
theorem dMO_look_126 : gD mMO_look 126 (.iload_n 1) 1 127 := ⟨by decide +kernel, rfl⟩
theorem dMO_look_127 : gD mMO_look 127 (.aload_n 0) 1 128 := ⟨by decide +kernel, rfl⟩
theorem dMO_look_128 : gD mMO_look 128 (.iload_n 1) 1 129 := ⟨by decide +kernel, rfl⟩
theorem dMO_look_129 : gD mMO_look 129 (.invokevirtual 110) 3 132 := ⟨by decide +kernel, rfl⟩
theorem dMO_look_132 : gD mMO_look 132 (.iastore) 1 133 := ⟨by decide +kernel, rfl⟩
theorem dMO_look_133 : gD mMO_look 133 (.iconst 0) 1 134 := ⟨by decide +kernel, rfl⟩
theorem dMO_look_134 : gD mMO_look 134 (.istore_n 3) 1 135 := ⟨by decide +kernel, rfl⟩
theorem dMO_look_135 : gD mMO_look 135 (.iload_n 3) 1 136 := ⟨by decide +kernel, rfl⟩
theorem dMO_look_136 : gD mMO_look 136 (.sipush 384) 3 139 := ⟨by decide +kernel, rfl⟩
theorem dMO_look_139 : gB mMO_look 139 (.if_icmp .ge 78) 78 217 142 := ⟨by decide +kernel, by decide, rfl⟩
theorem dMO_look_142 : gD mMO_look 142 (.aload_n 0) 1 143 := ⟨by decide +kernel, rfl⟩
theorem dMO_look_143 : gD mMO_look 143 (.iload_n 1) 1 144 := ⟨by decide +kernel, rfl⟩
theorem dMO_look_144 : gD mMO_look 144 (.iload_n 3) 1 145 := ⟨by decide +kernel, rfl⟩
theorem dMO_look_145 : gD mMO_look 145 (.bipush 24) 2 147 := ⟨by decide +kernel, rfl⟩
theorem dMO_look_147 : gD mMO_look 147 (.irem) 1 148 := ⟨by decide +kernel, rfl⟩
theorem dMO_look_148 : gD mMO_look 148 (.iload_n 3) 1 149 := ⟨by decide +kernel, rfl⟩
theorem dMO_look_149 : gD mMO_look 149 (.bipush 24) 2 151 := ⟨by decide +kernel, rfl⟩
theorem dMO_look_151 : gD mMO_look 151 (.idiv) 1 152 := ⟨by decide +kernel, rfl⟩
theorem dMO_look_152 : gD mMO_look 152 (.invokevirtual 100) 3 155 := ⟨by decide +kernel, rfl⟩
theorem dMO_look_155 : gD mMO_look 155 (.istore 4) 2 157 := ⟨by decide +kernel, rfl⟩
theorem dMO_look_157 : gD mMO_look 157 (.aload_n 0) 1 158 := ⟨by decide +kernel, rfl⟩
theorem dMO_look_158 : gD mMO_look 158 (.getfield 81) 3 161 := ⟨by decide +kernel, rfl⟩
theorem dMO_look_161 : gD mMO_look 161 (.iload_n 3) 1 162 := ⟨by decide +kernel, rfl⟩
theorem dMO_look_162 : gD mMO_look 162 (.aload_n 0) 1 163 := ⟨by decide +kernel, rfl⟩
theorem dMO_look_163 : gD mMO_look 163 (.getfield 81) 3 166 := ⟨by decide +kernel, rfl⟩
theorem dMO_look_166 : gD mMO_look 166 (.iload_n 3) 1 167 := ⟨by decide +kernel, rfl⟩
theorem dMO_look_167 : gD mMO_look 167 (.baload) 1 168 := ⟨by decide +kernel, rfl⟩
theorem dMO_look_168 : gB mMO_look 168 (.ifCond .ne 23) 23 191 171 := ⟨by decide +kernel, by decide, rfl⟩
theorem dMO_look_171 : gD mMO_look 171 (.iload 4) 2 173 := ⟨by decide +kernel, rfl⟩
theorem dMO_look_173 : gB mMO_look 173 (.ifCond .ne 18) 18 191 176 := ⟨by decide +kernel, by decide, rfl⟩
theorem dMO_look_176 : gD mMO_look 176 (.aload_n 0) 1 177 := ⟨by decide +kernel, rfl⟩
theorem dMO_look_177 : gD mMO_look 177 (.getfield 75) 3 180 := ⟨by decide +kernel, rfl⟩
theorem dMO_look_180 : gD mMO_look 180 (.sipush 384) 3 183 := ⟨by decide +kernel, rfl⟩
theorem dMO_look_183 : gD mMO_look 183 (.iload_n 1) 1 184 := ⟨by decide +kernel, rfl⟩
theorem dMO_look_184 : gD mMO_look 184 (.imul) 1 185 := ⟨by decide +kernel, rfl⟩
theorem dMO_look_185 : gD mMO_look 185 (.iload_n 3) 1 186 := ⟨by decide +kernel, rfl⟩
theorem dMO_look_186 : gD mMO_look 186 (.iadd) 1 187 := ⟨by decide +kernel, rfl⟩
theorem dMO_look_187 : gD mMO_look 187 (.baload) 1 188 := ⟨by decide +kernel, rfl⟩
theorem dMO_look_188 : gB mMO_look 188 (.ifCond .eq 7) 7 195 191 := ⟨by decide +kernel, by decide, rfl⟩
theorem dMO_look_191 : gD mMO_look 191 (.iconst 1) 1 192 := ⟨by decide +kernel, rfl⟩
theorem dMO_look_192 : gB mMO_look 192 (.goto 4) 4 196 195 := ⟨by decide +kernel, by decide, rfl⟩
theorem dMO_look_195 : gD mMO_look 195 (.iconst 0) 1 196 := ⟨by decide +kernel, rfl⟩
theorem dMO_look_196 : gD mMO_look 196 (.bastore) 1 197 := ⟨by decide +kernel, rfl⟩
theorem dMO_look_197 : gD mMO_look 197 (.aload_n 0) 1 198 := ⟨by decide +kernel, rfl⟩
theorem dMO_look_198 : gD mMO_look 198 (.getfield 75) 3 201 := ⟨by decide +kernel, rfl⟩
theorem dMO_look_201 : gD mMO_look 201 (.sipush 384) 3 204 := ⟨by decide +kernel, rfl⟩
theorem dMO_look_204 : gD mMO_look 204 (.iload_n 1) 1 205 := ⟨by decide +kernel, rfl⟩
theorem dMO_look_205 : gD mMO_look 205 (.imul) 1 206 := ⟨by decide +kernel, rfl⟩
theorem dMO_look_206 : gD mMO_look 206 (.iload_n 3) 1 207 := ⟨by decide +kernel, rfl⟩
theorem dMO_look_207 : gD mMO_look 207 (.iadd) 1 208 := ⟨by decide +kernel, rfl⟩
theorem dMO_look_208 : gD mMO_look 208 (.iload 4) 2 210 := ⟨by decide +kernel, rfl⟩
theorem dMO_look_210 : gD mMO_look 210 (.bastore) 1 211 := ⟨by decide +kernel, rfl⟩
theorem dMO_look_211 : gD mMO_look 211 (.iinc 3 1) 3 214 := ⟨by decide +kernel, rfl⟩
theorem dMO_look_214 : gB mMO_look 214 (.goto (-79)) (-79) 135 217 := ⟨by decide +kernel, by decide, rfl⟩
theorem dMO_look_217 : gD mMO_look 217 (.iinc 1 1) 3 220 := ⟨by decide +kernel, rfl⟩
theorem dMO_look_220 : gB mMO_look 220 (.goto (-186)) (-186) 34 223 := ⟨by decide +kernel, by decide, rfl⟩
theorem dMO_look_223 : decode mMO_look.2.1 223 = .ok (.return_, 1) := by decide +kernel
theorem dMO_row_0 : gD mMO_row 0 (.aload_n 0) 1 1 := ⟨by decide +kernel, rfl⟩
theorem dMO_row_1 : gD mMO_row 1 (.getfield 57) 3 4 := ⟨by decide +kernel, rfl⟩
theorem dMO_row_4 : gD mMO_row 4 (.aload_n 0) 1 5 := ⟨by decide +kernel, rfl⟩
theorem dMO_row_5 : gD mMO_row 5 (.getfield 114) 3 8 := ⟨by decide +kernel, rfl⟩
theorem dMO_row_8 : gD mMO_row 8 (.iload_n 1) 1 9 := ⟨by decide +kernel, rfl⟩
theorem dMO_row_9 : gD mMO_row 9 (.iastore) 1 10 := ⟨by decide +kernel, rfl⟩
theorem dMO_row_10 : gD mMO_row 10 (.aload_n 0) 1 11 := ⟨by decide +kernel, rfl⟩
theorem dMO_row_11 : gD mMO_row 11 (.getfield 60) 3 14 := ⟨by decide +kernel, rfl⟩
theorem dMO_row_14 : gD mMO_row 14 (.aload_n 0) 1 15 := ⟨by decide +kernel, rfl⟩
theorem dMO_row_15 : gD mMO_row 15 (.getfield 114) 3 18 := ⟨by decide +kernel, rfl⟩
theorem dMO_row_18 : gD mMO_row 18 (.iload_n 2) 1 19 := ⟨by decide +kernel, rfl⟩
theorem dMO_row_19 : gD mMO_row 19 (.iastore) 1 20 := ⟨by decide +kernel, rfl⟩
theorem dMO_row_20 : gD mMO_row 20 (.aload_n 0) 1 21 := ⟨by decide +kernel, rfl⟩
theorem dMO_row_21 : gD mMO_row 21 (.getfield 63) 3 24 := ⟨by decide +kernel, rfl⟩
theorem dMO_row_24 : gD mMO_row 24 (.aload_n 0) 1 25 := ⟨by decide +kernel, rfl⟩
theorem dMO_row_25 : gD mMO_row 25 (.getfield 114) 3 28 := ⟨by decide +kernel, rfl⟩
theorem dMO_row_28 : gD mMO_row 28 (.iload_n 3) 1 29 := ⟨by decide +kernel, rfl⟩
theorem dMO_row_29 : gD mMO_row 29 (.iastore) 1 30 := ⟨by decide +kernel, rfl⟩
theorem dMO_row_30 : gD mMO_row 30 (.aload_n 0) 1 31 := ⟨by decide +kernel, rfl⟩
theorem dMO_row_31 : gD mMO_row 31 (.dup) 1 32 := ⟨by decide +kernel, rfl⟩
theorem dMO_row_32 : gD mMO_row 32 (.getfield 114) 3 35 := ⟨by decide +kernel, rfl⟩
theorem dMO_row_35 : gD mMO_row 35 (.iconst 1) 1 36 := ⟨by decide +kernel, rfl⟩
theorem dMO_row_36 : gD mMO_row 36 (.iadd) 1 37 := ⟨by decide +kernel, rfl⟩
theorem dMO_row_37 : gD mMO_row 37 (.putfield 114) 3 40 := ⟨by decide +kernel, rfl⟩
theorem dMO_row_40 : decode mMO_row.2.1 40 = .ok (.return_, 1) := by decide +kernel
theorem dMO_atLeast_0 : gD mMO_atLeast 0 (.aload_n 0) 1 1 := ⟨by decide +kernel, rfl⟩
theorem dMO_atLeast_1 : gD mMO_atLeast 1 (.iload_n 1) 1 2 := ⟨by decide +kernel, rfl⟩
theorem dMO_atLeast_2 : gD mMO_atLeast 2 (.iload_n 2) 1 3 := ⟨by decide +kernel, rfl⟩
theorem dMO_atLeast_3 : gD mMO_atLeast 3 (.iload_n 3) 1 4 := ⟨by decide +kernel, rfl⟩
theorem dMO_atLeast_4 : gD mMO_atLeast 4 (.ineg) 1 5 := ⟨by decide +kernel, rfl⟩
theorem dMO_atLeast_5 : gD mMO_atLeast 5 (.invokevirtual 117) 3 8 := ⟨by decide +kernel, rfl⟩
theorem dMO_atLeast_8 : decode mMO_atLeast.2.1 8 = .ok (.return_, 1) := by decide +kernel
theorem dMO_exactly_0 : gD mMO_exactly 0 (.aload_n 0) 1 1 := ⟨by decide +kernel, rfl⟩
theorem dMO_exactly_1 : gD mMO_exactly 1 (.iload_n 1) 1 2 := ⟨by decide +kernel, rfl⟩
theorem dMO_exactly_2 : gD mMO_exactly 2 (.iload_n 2) 1 3 := ⟨by decide +kernel, rfl⟩
theorem dMO_exactly_3 : gD mMO_exactly 3 (.iload_n 3) 1 4 := ⟨by decide +kernel, rfl⟩
theorem dMO_exactly_4 : gD mMO_exactly 4 (.invokevirtual 121) 3 7 := ⟨by decide +kernel, rfl⟩
theorem dMO_exactly_7 : gD mMO_exactly 7 (.aload_n 0) 1 8 := ⟨by decide +kernel, rfl⟩
theorem dMO_exactly_8 : gD mMO_exactly 8 (.iload_n 2) 1 9 := ⟨by decide +kernel, rfl⟩
theorem dMO_exactly_9 : gD mMO_exactly 9 (.iload_n 1) 1 10 := ⟨by decide +kernel, rfl⟩
theorem dMO_exactly_10 : gD mMO_exactly 10 (.iload_n 3) 1 11 := ⟨by decide +kernel, rfl⟩
theorem dMO_exactly_11 : gD mMO_exactly 11 (.ineg) 1 12 := ⟨by decide +kernel, rfl⟩
theorem dMO_exactly_12 : gD mMO_exactly 12 (.invokevirtual 121) 3 15 := ⟨by decide +kernel, rfl⟩
theorem dMO_exactly_15 : decode mMO_exactly.2.1 15 = .ok (.return_, 1) := by decide +kernel
theorem dMO_lower_0 : gD mMO_lower 0 (.iconst 0) 1 1 := ⟨by decide +kernel, rfl⟩
theorem dMO_lower_1 : gD mMO_lower 1 (.istore_n 1) 1 2 := ⟨by decide +kernel, rfl⟩
theorem dMO_lower_2 : gD mMO_lower 2 (.iconst 0) 1 3 := ⟨by decide +kernel, rfl⟩
theorem dMO_lower_3 : gD mMO_lower 3 (.istore_n 2) 1 4 := ⟨by decide +kernel, rfl⟩
theorem dMO_lower_4 : gD mMO_lower 4 (.iload_n 2) 1 5 := ⟨by decide +kernel, rfl⟩
theorem dMO_lower_5 : gD mMO_lower 5 (.aload_n 0) 1 6 := ⟨by decide +kernel, rfl⟩
theorem dMO_lower_6 : gD mMO_lower 6 (.getfield 114) 3 9 := ⟨by decide +kernel, rfl⟩
theorem dMO_lower_9 : gB mMO_lower 9 (.if_icmp .ge 73) 73 82 12 := ⟨by decide +kernel, by decide, rfl⟩
theorem dMO_lower_12 : gD mMO_lower 12 (.aload_n 0) 1 13 := ⟨by decide +kernel, rfl⟩
theorem dMO_lower_13 : gD mMO_lower 13 (.getfield 66) 3 16 := ⟨by decide +kernel, rfl⟩
theorem dMO_lower_16 : gD mMO_lower 16 (.aload_n 0) 1 17 := ⟨by decide +kernel, rfl⟩
theorem dMO_lower_17 : gD mMO_lower 17 (.getfield 57) 3 20 := ⟨by decide +kernel, rfl⟩
theorem dMO_lower_20 : gD mMO_lower 20 (.iload_n 2) 1 21 := ⟨by decide +kernel, rfl⟩
theorem dMO_lower_21 : gD mMO_lower 21 (.iaload) 1 22 := ⟨by decide +kernel, rfl⟩
theorem dMO_lower_22 : gD mMO_lower 22 (.iaload) 1 23 := ⟨by decide +kernel, rfl⟩
theorem dMO_lower_23 : gD mMO_lower 23 (.aload_n 0) 1 24 := ⟨by decide +kernel, rfl⟩
theorem dMO_lower_24 : gD mMO_lower 24 (.getfield 63) 3 27 := ⟨by decide +kernel, rfl⟩
theorem dMO_lower_27 : gD mMO_lower 27 (.iload_n 2) 1 28 := ⟨by decide +kernel, rfl⟩
theorem dMO_lower_28 : gD mMO_lower 28 (.iaload) 1 29 := ⟨by decide +kernel, rfl⟩
theorem dMO_lower_29 : gD mMO_lower 29 (.iadd) 1 30 := ⟨by decide +kernel, rfl⟩
theorem dMO_lower_30 : gD mMO_lower 30 (.istore_n 3) 1 31 := ⟨by decide +kernel, rfl⟩
theorem dMO_lower_31 : gD mMO_lower 31 (.aload_n 0) 1 32 := ⟨by decide +kernel, rfl⟩
theorem dMO_lower_32 : gD mMO_lower 32 (.getfield 66) 3 35 := ⟨by decide +kernel, rfl⟩
theorem dMO_lower_35 : gD mMO_lower 35 (.aload_n 0) 1 36 := ⟨by decide +kernel, rfl⟩
theorem dMO_lower_36 : gD mMO_lower 36 (.getfield 57) 3 39 := ⟨by decide +kernel, rfl⟩
theorem dMO_lower_39 : gD mMO_lower 39 (.iload_n 2) 1 40 := ⟨by decide +kernel, rfl⟩
theorem dMO_lower_40 : gD mMO_lower 40 (.iaload) 1 41 := ⟨by decide +kernel, rfl⟩
theorem dMO_lower_41 : gD mMO_lower 41 (.iaload) 1 42 := ⟨by decide +kernel, rfl⟩
theorem dMO_lower_42 : gD mMO_lower 42 (.ldc 124) 2 44 := ⟨by decide +kernel, rfl⟩
theorem dMO_lower_44 : gB mMO_lower 44 (.if_icmp .ge 32) 32 76 47 := ⟨by decide +kernel, by decide, rfl⟩
theorem dMO_lower_47 : gD mMO_lower 47 (.iload_n 3) 1 48 := ⟨by decide +kernel, rfl⟩
theorem dMO_lower_48 : gD mMO_lower 48 (.aload_n 0) 1 49 := ⟨by decide +kernel, rfl⟩
theorem dMO_lower_49 : gD mMO_lower 49 (.getfield 66) 3 52 := ⟨by decide +kernel, rfl⟩
theorem dMO_lower_52 : gD mMO_lower 52 (.aload_n 0) 1 53 := ⟨by decide +kernel, rfl⟩
theorem dMO_lower_53 : gD mMO_lower 53 (.getfield 60) 3 56 := ⟨by decide +kernel, rfl⟩
theorem dMO_lower_56 : gD mMO_lower 56 (.iload_n 2) 1 57 := ⟨by decide +kernel, rfl⟩
theorem dMO_lower_57 : gD mMO_lower 57 (.iaload) 1 58 := ⟨by decide +kernel, rfl⟩
theorem dMO_lower_58 : gD mMO_lower 58 (.iaload) 1 59 := ⟨by decide +kernel, rfl⟩
theorem dMO_lower_59 : gB mMO_lower 59 (.if_icmp .ge 17) 17 76 62 := ⟨by decide +kernel, by decide, rfl⟩
theorem dMO_lower_62 : gD mMO_lower 62 (.aload_n 0) 1 63 := ⟨by decide +kernel, rfl⟩
theorem dMO_lower_63 : gD mMO_lower 63 (.getfield 66) 3 66 := ⟨by decide +kernel, rfl⟩
theorem dMO_lower_66 : gD mMO_lower 66 (.aload_n 0) 1 67 := ⟨by decide +kernel, rfl⟩
theorem dMO_lower_67 : gD mMO_lower 67 (.getfield 60) 3 70 := ⟨by decide +kernel, rfl⟩
theorem dMO_lower_70 : gD mMO_lower 70 (.iload_n 2) 1 71 := ⟨by decide +kernel, rfl⟩
theorem dMO_lower_71 : gD mMO_lower 71 (.iaload) 1 72 := ⟨by decide +kernel, rfl⟩
theorem dMO_lower_72 : gD mMO_lower 72 (.iload_n 3) 1 73 := ⟨by decide +kernel, rfl⟩
theorem dMO_lower_73 : gD mMO_lower 73 (.iastore) 1 74 := ⟨by decide +kernel, rfl⟩
theorem dMO_lower_74 : gD mMO_lower 74 (.iconst 1) 1 75 := ⟨by decide +kernel, rfl⟩
theorem dMO_lower_75 : gD mMO_lower 75 (.istore_n 1) 1 76 := ⟨by decide +kernel, rfl⟩
theorem dMO_lower_76 : gD mMO_lower 76 (.iinc 2 1) 3 79 := ⟨by decide +kernel, rfl⟩
theorem dMO_lower_79 : gB mMO_lower 79 (.goto (-75)) (-75) 4 82 := ⟨by decide +kernel, by decide, rfl⟩
theorem dMO_lower_82 : gD mMO_lower 82 (.iload_n 1) 1 83 := ⟨by decide +kernel, rfl⟩
theorem dMO_lower_83 : decode mMO_lower.2.1 83 = .ok (.ireturn, 1) := by decide +kernel
theorem dMO_conflict_0 : gD mMO_conflict 0 (.iconst 0) 1 1 := ⟨by decide +kernel, rfl⟩
theorem dMO_conflict_1 : gD mMO_conflict 1 (.istore_n 1) 1 2 := ⟨by decide +kernel, rfl⟩
theorem dMO_conflict_2 : gD mMO_conflict 2 (.iload_n 1) 1 3 := ⟨by decide +kernel, rfl⟩
theorem dMO_conflict_3 : gD mMO_conflict 3 (.bipush 24) 2 5 := ⟨by decide +kernel, rfl⟩
theorem dMO_conflict_5 : gB mMO_conflict 5 (.if_icmp .ge 16) 16 21 8 := ⟨by decide +kernel, by decide, rfl⟩
theorem dMO_conflict_8 : gD mMO_conflict 8 (.aload_n 0) 1 9 := ⟨by decide +kernel, rfl⟩
theorem dMO_conflict_9 : gD mMO_conflict 9 (.getfield 66) 3 12 := ⟨by decide +kernel, rfl⟩
theorem dMO_conflict_12 : gD mMO_conflict 12 (.iload_n 1) 1 13 := ⟨by decide +kernel, rfl⟩
theorem dMO_conflict_13 : gD mMO_conflict 13 (.iconst 0) 1 14 := ⟨by decide +kernel, rfl⟩
theorem dMO_conflict_14 : gD mMO_conflict 14 (.iastore) 1 15 := ⟨by decide +kernel, rfl⟩
theorem dMO_conflict_15 : gD mMO_conflict 15 (.iinc 1 1) 3 18 := ⟨by decide +kernel, rfl⟩
theorem dMO_conflict_18 : gB mMO_conflict 18 (.goto (-16)) (-16) 2 21 := ⟨by decide +kernel, by decide, rfl⟩
theorem dMO_conflict_21 : gD mMO_conflict 21 (.iconst 1) 1 22 := ⟨by decide +kernel, rfl⟩
theorem dMO_conflict_22 : gD mMO_conflict 22 (.istore_n 1) 1 23 := ⟨by decide +kernel, rfl⟩
theorem dMO_conflict_23 : gD mMO_conflict 23 (.iconst 0) 1 24 := ⟨by decide +kernel, rfl⟩
theorem dMO_conflict_24 : gD mMO_conflict 24 (.istore_n 2) 1 25 := ⟨by decide +kernel, rfl⟩
theorem dMO_conflict_25 : gD mMO_conflict 25 (.iload_n 2) 1 26 := ⟨by decide +kernel, rfl⟩
theorem dMO_conflict_26 : gD mMO_conflict 26 (.bipush 25) 2 28 := ⟨by decide +kernel, rfl⟩
theorem dMO_conflict_28 : gB mMO_conflict 28 (.if_icmp .ge 18) 18 46 31 := ⟨by decide +kernel, by decide, rfl⟩
theorem dMO_conflict_31 : gD mMO_conflict 31 (.iload_n 1) 1 32 := ⟨by decide +kernel, rfl⟩
theorem dMO_conflict_32 : gB mMO_conflict 32 (.ifCond .eq 14) 14 46 35 := ⟨by decide +kernel, by decide, rfl⟩
theorem dMO_conflict_35 : gD mMO_conflict 35 (.aload_n 0) 1 36 := ⟨by decide +kernel, rfl⟩
theorem dMO_conflict_36 : gD mMO_conflict 36 (.invokevirtual 125) 3 39 := ⟨by decide +kernel, rfl⟩
theorem dMO_conflict_39 : gD mMO_conflict 39 (.istore_n 1) 1 40 := ⟨by decide +kernel, rfl⟩
theorem dMO_conflict_40 : gD mMO_conflict 40 (.iinc 2 1) 3 43 := ⟨by decide +kernel, rfl⟩
theorem dMO_conflict_43 : gB mMO_conflict 43 (.goto (-18)) (-18) 25 46 := ⟨by decide +kernel, by decide, rfl⟩
theorem dMO_conflict_46 : gD mMO_conflict 46 (.iload_n 1) 1 47 := ⟨by decide +kernel, rfl⟩
theorem dMO_conflict_47 : decode mMO_conflict.2.1 47 = .ok (.ireturn, 1) := by decide +kernel
theorem dMO_most_0 : gD mMO_most 0 (.iconst 0) 1 1 := ⟨by decide +kernel, rfl⟩
theorem dMO_most_1 : gD mMO_most 1 (.istore_n 3) 1 2 := ⟨by decide +kernel, rfl⟩
theorem dMO_most_2 : gD mMO_most 2 (.iload_n 3) 1 3 := ⟨by decide +kernel, rfl⟩
theorem dMO_most_3 : gD mMO_most 3 (.bipush 24) 2 5 := ⟨by decide +kernel, rfl⟩
theorem dMO_most_5 : gB mMO_most 5 (.if_icmp .ge 17) 17 22 8 := ⟨by decide +kernel, by decide, rfl⟩
theorem dMO_most_8 : gD mMO_most 8 (.aload_n 0) 1 9 := ⟨by decide +kernel, rfl⟩
theorem dMO_most_9 : gD mMO_most 9 (.getfield 66) 3 12 := ⟨by decide +kernel, rfl⟩
theorem dMO_most_12 : gD mMO_most 12 (.iload_n 3) 1 13 := ⟨by decide +kernel, rfl⟩
theorem dMO_most_13 : gD mMO_most 13 (.ldc 124) 2 15 := ⟨by decide +kernel, rfl⟩
theorem dMO_most_15 : gD mMO_most 15 (.iastore) 1 16 := ⟨by decide +kernel, rfl⟩
theorem dMO_most_16 : gD mMO_most 16 (.iinc 3 1) 3 19 := ⟨by decide +kernel, rfl⟩
theorem dMO_most_19 : gB mMO_most 19 (.goto (-17)) (-17) 2 22 := ⟨by decide +kernel, by decide, rfl⟩
theorem dMO_most_22 : gD mMO_most 22 (.aload_n 0) 1 23 := ⟨by decide +kernel, rfl⟩
theorem dMO_most_23 : gD mMO_most 23 (.getfield 66) 3 26 := ⟨by decide +kernel, rfl⟩
theorem dMO_most_26 : gD mMO_most 26 (.iload_n 1) 1 27 := ⟨by decide +kernel, rfl⟩
theorem dMO_most_27 : gD mMO_most 27 (.iconst 0) 1 28 := ⟨by decide +kernel, rfl⟩
theorem dMO_most_28 : gD mMO_most 28 (.iastore) 1 29 := ⟨by decide +kernel, rfl⟩
theorem dMO_most_29 : gD mMO_most 29 (.iconst 1) 1 30 := ⟨by decide +kernel, rfl⟩
theorem dMO_most_30 : gD mMO_most 30 (.istore_n 3) 1 31 := ⟨by decide +kernel, rfl⟩
theorem dMO_most_31 : gD mMO_most 31 (.iconst 0) 1 32 := ⟨by decide +kernel, rfl⟩
theorem dMO_most_32 : gD mMO_most 32 (.istore 4) 2 34 := ⟨by decide +kernel, rfl⟩
theorem dMO_most_34 : gD mMO_most 34 (.iload 4) 2 36 := ⟨by decide +kernel, rfl⟩
theorem dMO_most_36 : gD mMO_most 36 (.bipush 25) 2 38 := ⟨by decide +kernel, rfl⟩
theorem dMO_most_38 : gB mMO_most 38 (.if_icmp .ge 18) 18 56 41 := ⟨by decide +kernel, by decide, rfl⟩
theorem dMO_most_41 : gD mMO_most 41 (.iload_n 3) 1 42 := ⟨by decide +kernel, rfl⟩
theorem dMO_most_42 : gB mMO_most 42 (.ifCond .eq 14) 14 56 45 := ⟨by decide +kernel, by decide, rfl⟩
theorem dMO_most_45 : gD mMO_most 45 (.aload_n 0) 1 46 := ⟨by decide +kernel, rfl⟩
theorem dMO_most_46 : gD mMO_most 46 (.invokevirtual 125) 3 49 := ⟨by decide +kernel, rfl⟩
theorem dMO_most_49 : gD mMO_most 49 (.istore_n 3) 1 50 := ⟨by decide +kernel, rfl⟩
theorem dMO_most_50 : gD mMO_most 50 (.iinc 4 1) 3 53 := ⟨by decide +kernel, rfl⟩
theorem dMO_most_53 : gB mMO_most 53 (.goto (-19)) (-19) 34 56 := ⟨by decide +kernel, by decide, rfl⟩
theorem dMO_most_56 : gD mMO_most 56 (.aload_n 0) 1 57 := ⟨by decide +kernel, rfl⟩
theorem dMO_most_57 : gD mMO_most 57 (.getfield 66) 3 60 := ⟨by decide +kernel, rfl⟩
theorem dMO_most_60 : gD mMO_most 60 (.iload_n 2) 1 61 := ⟨by decide +kernel, rfl⟩
theorem dMO_most_61 : gD mMO_most 61 (.iaload) 1 62 := ⟨by decide +kernel, rfl⟩
theorem dMO_most_62 : decode mMO_most.2.1 62 = .ok (.ireturn, 1) := by decide +kernel
theorem dMO_settle_0 : gD mMO_settle 0 (.aload_n 0) 1 1 := ⟨by decide +kernel, rfl⟩
theorem dMO_settle_1 : gD mMO_settle 1 (.iload_n 2) 1 2 := ⟨by decide +kernel, rfl⟩
theorem dMO_settle_2 : gD mMO_settle 2 (.iload_n 1) 1 3 := ⟨by decide +kernel, rfl⟩
theorem dMO_settle_3 : gD mMO_settle 3 (.invokevirtual 129) 3 6 := ⟨by decide +kernel, rfl⟩
theorem dMO_settle_6 : gD mMO_settle 6 (.istore 4) 2 8 := ⟨by decide +kernel, rfl⟩
theorem dMO_settle_8 : gD mMO_settle 8 (.aload_n 0) 1 9 := ⟨by decide +kernel, rfl⟩
theorem dMO_settle_9 : gD mMO_settle 9 (.iload_n 1) 1 10 := ⟨by decide +kernel, rfl⟩
theorem dMO_settle_10 : gD mMO_settle 10 (.iload_n 2) 1 11 := ⟨by decide +kernel, rfl⟩
theorem dMO_settle_11 : gD mMO_settle 11 (.invokevirtual 129) 3 14 := ⟨by decide +kernel, rfl⟩
theorem dMO_settle_14 : gD mMO_settle 14 (.ineg) 1 15 := ⟨by decide +kernel, rfl⟩
theorem dMO_settle_15 : gD mMO_settle 15 (.istore 5) 2 17 := ⟨by decide +kernel, rfl⟩
theorem dMO_settle_17 : gD mMO_settle 17 (.iload_n 3) 1 18 := ⟨by decide +kernel, rfl⟩
theorem dMO_settle_18 : gD mMO_settle 18 (.iload 5) 2 20 := ⟨by decide +kernel, rfl⟩
theorem dMO_settle_20 : gB mMO_settle 20 (.if_icmp .ge 8) 8 28 23 := ⟨by decide +kernel, by decide, rfl⟩
theorem dMO_settle_23 : gD mMO_settle 23 (.iload 5) 2 25 := ⟨by decide +kernel, rfl⟩
theorem dMO_settle_25 : gB mMO_settle 25 (.goto 15) 15 40 28 := ⟨by decide +kernel, by decide, rfl⟩
theorem dMO_settle_28 : gD mMO_settle 28 (.iload_n 3) 1 29 := ⟨by decide +kernel, rfl⟩
theorem dMO_settle_29 : gD mMO_settle 29 (.iload 4) 2 31 := ⟨by decide +kernel, rfl⟩
theorem dMO_settle_31 : gB mMO_settle 31 (.if_icmp .le 8) 8 39 34 := ⟨by decide +kernel, by decide, rfl⟩
theorem dMO_settle_34 : gD mMO_settle 34 (.iload 4) 2 36 := ⟨by decide +kernel, rfl⟩
theorem dMO_settle_36 : gB mMO_settle 36 (.goto 4) 4 40 39 := ⟨by decide +kernel, by decide, rfl⟩
theorem dMO_settle_39 : gD mMO_settle 39 (.iload_n 3) 1 40 := ⟨by decide +kernel, rfl⟩
theorem dMO_settle_40 : gD mMO_settle 40 (.istore 6) 2 42 := ⟨by decide +kernel, rfl⟩
theorem dMO_settle_42 : gD mMO_settle 42 (.aload_n 0) 1 43 := ⟨by decide +kernel, rfl⟩
theorem dMO_settle_43 : gD mMO_settle 43 (.iload_n 1) 1 44 := ⟨by decide +kernel, rfl⟩
theorem dMO_settle_44 : gD mMO_settle 44 (.iload_n 2) 1 45 := ⟨by decide +kernel, rfl⟩
theorem dMO_settle_45 : gD mMO_settle 45 (.iload 6) 2 47 := ⟨by decide +kernel, rfl⟩
theorem dMO_settle_47 : gD mMO_settle 47 (.invokevirtual 133) 3 50 := ⟨by decide +kernel, rfl⟩
theorem dMO_settle_50 : gD mMO_settle 50 (.iload 6) 2 52 := ⟨by decide +kernel, rfl⟩
theorem dMO_settle_52 : decode mMO_settle.2.1 52 = .ok (.ireturn, 1) := by decide +kernel
theorem dMO_soft_0 : gD mMO_soft 0 (.aload_n 0) 1 1 := ⟨by decide +kernel, rfl⟩
theorem dMO_soft_1 : gD mMO_soft 1 (.aload_n 0) 1 2 := ⟨by decide +kernel, rfl⟩
theorem dMO_soft_2 : gD mMO_soft 2 (.getfield 45) 3 5 := ⟨by decide +kernel, rfl⟩
theorem dMO_soft_5 : gD mMO_soft 5 (.iload_n 1) 1 6 := ⟨by decide +kernel, rfl⟩
theorem dMO_soft_6 : gD mMO_soft 6 (.iaload) 1 7 := ⟨by decide +kernel, rfl⟩
theorem dMO_soft_7 : gD mMO_soft 7 (.aload_n 0) 1 8 := ⟨by decide +kernel, rfl⟩
theorem dMO_soft_8 : gD mMO_soft 8 (.getfield 42) 3 11 := ⟨by decide +kernel, rfl⟩
theorem dMO_soft_11 : gD mMO_soft 11 (.iload_n 1) 1 12 := ⟨by decide +kernel, rfl⟩
theorem dMO_soft_12 : gD mMO_soft 12 (.iaload) 1 13 := ⟨by decide +kernel, rfl⟩
theorem dMO_soft_13 : gD mMO_soft 13 (.invokevirtual 129) 3 16 := ⟨by decide +kernel, rfl⟩
theorem dMO_soft_16 : gD mMO_soft 16 (.istore_n 2) 1 17 := ⟨by decide +kernel, rfl⟩
theorem dMO_soft_17 : gD mMO_soft 17 (.aload_n 0) 1 18 := ⟨by decide +kernel, rfl⟩
theorem dMO_soft_18 : gD mMO_soft 18 (.getfield 51) 3 21 := ⟨by decide +kernel, rfl⟩
theorem dMO_soft_21 : gD mMO_soft 21 (.iload_n 1) 1 22 := ⟨by decide +kernel, rfl⟩
theorem dMO_soft_22 : gD mMO_soft 22 (.iaload) 1 23 := ⟨by decide +kernel, rfl⟩
theorem dMO_soft_23 : gB mMO_soft 23 (.ifCond .ne 29) 29 52 26 := ⟨by decide +kernel, by decide, rfl⟩
theorem dMO_soft_26 : gD mMO_soft 26 (.aload_n 0) 1 27 := ⟨by decide +kernel, rfl⟩
theorem dMO_soft_27 : gD mMO_soft 27 (.aload_n 0) 1 28 := ⟨by decide +kernel, rfl⟩
theorem dMO_soft_28 : gD mMO_soft 28 (.getfield 42) 3 31 := ⟨by decide +kernel, rfl⟩
theorem dMO_soft_31 : gD mMO_soft 31 (.iload_n 1) 1 32 := ⟨by decide +kernel, rfl⟩
theorem dMO_soft_32 : gD mMO_soft 32 (.iaload) 1 33 := ⟨by decide +kernel, rfl⟩
theorem dMO_soft_33 : gD mMO_soft 33 (.aload_n 0) 1 34 := ⟨by decide +kernel, rfl⟩
theorem dMO_soft_34 : gD mMO_soft 34 (.getfield 45) 3 37 := ⟨by decide +kernel, rfl⟩
theorem dMO_soft_37 : gD mMO_soft 37 (.iload_n 1) 1 38 := ⟨by decide +kernel, rfl⟩
theorem dMO_soft_38 : gD mMO_soft 38 (.iaload) 1 39 := ⟨by decide +kernel, rfl⟩
theorem dMO_soft_39 : gD mMO_soft 39 (.aload_n 0) 1 40 := ⟨by decide +kernel, rfl⟩
theorem dMO_soft_40 : gD mMO_soft 40 (.getfield 48) 3 43 := ⟨by decide +kernel, rfl⟩
theorem dMO_soft_43 : gD mMO_soft 43 (.iload_n 1) 1 44 := ⟨by decide +kernel, rfl⟩
theorem dMO_soft_44 : gD mMO_soft 44 (.iaload) 1 45 := ⟨by decide +kernel, rfl⟩
theorem dMO_soft_45 : gD mMO_soft 45 (.invokevirtual 136) 3 48 := ⟨by decide +kernel, rfl⟩
theorem dMO_soft_48 : gD mMO_soft 48 (.pop) 1 49 := ⟨by decide +kernel, rfl⟩
theorem dMO_soft_49 : gB mMO_soft 49 (.goto 39) 39 88 52 := ⟨by decide +kernel, by decide, rfl⟩
theorem dMO_soft_52 : gD mMO_soft 52 (.aload_n 0) 1 53 := ⟨by decide +kernel, rfl⟩
theorem dMO_soft_53 : gD mMO_soft 53 (.aload_n 0) 1 54 := ⟨by decide +kernel, rfl⟩
theorem dMO_soft_54 : gD mMO_soft 54 (.getfield 42) 3 57 := ⟨by decide +kernel, rfl⟩
theorem dMO_soft_57 : gD mMO_soft 57 (.iload_n 1) 1 58 := ⟨by decide +kernel, rfl⟩
theorem dMO_soft_58 : gD mMO_soft 58 (.iaload) 1 59 := ⟨by decide +kernel, rfl⟩
theorem dMO_soft_59 : gD mMO_soft 59 (.aload_n 0) 1 60 := ⟨by decide +kernel, rfl⟩
theorem dMO_soft_60 : gD mMO_soft 60 (.getfield 45) 3 63 := ⟨by decide +kernel, rfl⟩
theorem dMO_soft_63 : gD mMO_soft 63 (.iload_n 1) 1 64 := ⟨by decide +kernel, rfl⟩
theorem dMO_soft_64 : gD mMO_soft 64 (.iaload) 1 65 := ⟨by decide +kernel, rfl⟩
theorem dMO_soft_65 : gD mMO_soft 65 (.aload_n 0) 1 66 := ⟨by decide +kernel, rfl⟩
theorem dMO_soft_66 : gD mMO_soft 66 (.getfield 48) 3 69 := ⟨by decide +kernel, rfl⟩
theorem dMO_soft_69 : gD mMO_soft 69 (.iload_n 1) 1 70 := ⟨by decide +kernel, rfl⟩
theorem dMO_soft_70 : gD mMO_soft 70 (.iaload) 1 71 := ⟨by decide +kernel, rfl⟩
theorem dMO_soft_71 : gD mMO_soft 71 (.iload_n 2) 1 72 := ⟨by decide +kernel, rfl⟩
theorem dMO_soft_72 : gB mMO_soft 72 (.if_icmp .le 7) 7 79 75 := ⟨by decide +kernel, by decide, rfl⟩
theorem dMO_soft_75 : gD mMO_soft 75 (.iload_n 2) 1 76 := ⟨by decide +kernel, rfl⟩
theorem dMO_soft_76 : gB mMO_soft 76 (.goto 9) 9 85 79 := ⟨by decide +kernel, by decide, rfl⟩
theorem dMO_soft_79 : gD mMO_soft 79 (.aload_n 0) 1 80 := ⟨by decide +kernel, rfl⟩
theorem dMO_soft_80 : gD mMO_soft 80 (.getfield 48) 3 83 := ⟨by decide +kernel, rfl⟩
theorem dMO_soft_83 : gD mMO_soft 83 (.iload_n 1) 1 84 := ⟨by decide +kernel, rfl⟩
theorem dMO_soft_84 : gD mMO_soft 84 (.iaload) 1 85 := ⟨by decide +kernel, rfl⟩
theorem dMO_soft_85 : gD mMO_soft 85 (.invokevirtual 121) 3 88 := ⟨by decide +kernel, rfl⟩
theorem dMO_soft_88 : decode mMO_soft.2.1 88 = .ok (.return_, 1) := by decide +kernel
theorem dMO_required_0 : gD mMO_required 0 (.aload_n 0) 1 1 := ⟨by decide +kernel, rfl⟩
theorem dMO_required_1 : gD mMO_required 1 (.iconst 0) 1 2 := ⟨by decide +kernel, rfl⟩
theorem dMO_required_2 : gD mMO_required 2 (.putfield 114) 3 5 := ⟨by decide +kernel, rfl⟩
theorem dMO_required_5 : gD mMO_required 5 (.aload_n 0) 1 6 := ⟨by decide +kernel, rfl⟩
theorem dMO_required_6 : gD mMO_required 6 (.iconst 1) 1 7 := ⟨by decide +kernel, rfl⟩
theorem dMO_required_7 : gD mMO_required 7 (.iconst 0) 1 8 := ⟨by decide +kernel, rfl⟩
theorem dMO_required_8 : gD mMO_required 8 (.aload_n 0) 1 9 := ⟨by decide +kernel, rfl⟩
theorem dMO_required_9 : gD mMO_required 9 (.getfield 87) 3 12 := ⟨by decide +kernel, rfl⟩
theorem dMO_required_12 : gD mMO_required 12 (.invokevirtual 133) 3 15 := ⟨by decide +kernel, rfl⟩
theorem dMO_required_15 : gD mMO_required 15 (.aload_n 0) 1 16 := ⟨by decide +kernel, rfl⟩
theorem dMO_required_16 : gD mMO_required 16 (.iconst 3) 1 17 := ⟨by decide +kernel, rfl⟩
theorem dMO_required_17 : gD mMO_required 17 (.iconst 2) 1 18 := ⟨by decide +kernel, rfl⟩
theorem dMO_required_18 : gD mMO_required 18 (.aload_n 0) 1 19 := ⟨by decide +kernel, rfl⟩
theorem dMO_required_19 : gD mMO_required 19 (.getfield 90) 3 22 := ⟨by decide +kernel, rfl⟩
theorem dMO_required_22 : gD mMO_required 22 (.invokevirtual 133) 3 25 := ⟨by decide +kernel, rfl⟩
theorem dMO_required_25 : gD mMO_required 25 (.iconst 0) 1 26 := ⟨by decide +kernel, rfl⟩
theorem dMO_required_26 : gD mMO_required 26 (.istore_n 1) 1 27 := ⟨by decide +kernel, rfl⟩
theorem dMO_required_27 : gD mMO_required 27 (.iload_n 1) 1 28 := ⟨by decide +kernel, rfl⟩
theorem dMO_required_28 : gD mMO_required 28 (.aload_n 0) 1 29 := ⟨by decide +kernel, rfl⟩
theorem dMO_required_29 : gD mMO_required 29 (.getfield 7) 3 32 := ⟨by decide +kernel, rfl⟩
theorem dMO_required_32 : gB mMO_required 32 (.if_icmp .ge 37) 37 69 35 := ⟨by decide +kernel, by decide, rfl⟩
theorem dMO_required_35 : gD mMO_required 35 (.aload_n 0) 1 36 := ⟨by decide +kernel, rfl⟩
theorem dMO_required_36 : gD mMO_required 36 (.iconst 4) 1 37 := ⟨by decide +kernel, rfl⟩
theorem dMO_required_37 : gD mMO_required 37 (.iload_n 1) 1 38 := ⟨by decide +kernel, rfl⟩
theorem dMO_required_38 : gD mMO_required 38 (.imul) 1 39 := ⟨by decide +kernel, rfl⟩
theorem dMO_required_39 : gD mMO_required 39 (.iconst 1) 1 40 := ⟨by decide +kernel, rfl⟩
theorem dMO_required_40 : gD mMO_required 40 (.iadd) 1 41 := ⟨by decide +kernel, rfl⟩
theorem dMO_required_41 : gD mMO_required 41 (.iconst 4) 1 42 := ⟨by decide +kernel, rfl⟩
theorem dMO_required_42 : gD mMO_required 42 (.iload_n 1) 1 43 := ⟨by decide +kernel, rfl⟩
theorem dMO_required_43 : gD mMO_required 43 (.imul) 1 44 := ⟨by decide +kernel, rfl⟩
theorem dMO_required_44 : gD mMO_required 44 (.iconst 0) 1 45 := ⟨by decide +kernel, rfl⟩
theorem dMO_required_45 : gD mMO_required 45 (.invokevirtual 121) 3 48 := ⟨by decide +kernel, rfl⟩
theorem dMO_required_48 : gD mMO_required 48 (.aload_n 0) 1 49 := ⟨by decide +kernel, rfl⟩
theorem dMO_required_49 : gD mMO_required 49 (.iconst 4) 1 50 := ⟨by decide +kernel, rfl⟩
theorem dMO_required_50 : gD mMO_required 50 (.iload_n 1) 1 51 := ⟨by decide +kernel, rfl⟩
theorem dMO_required_51 : gD mMO_required 51 (.imul) 1 52 := ⟨by decide +kernel, rfl⟩
theorem dMO_required_52 : gD mMO_required 52 (.iconst 3) 1 53 := ⟨by decide +kernel, rfl⟩
theorem dMO_required_53 : gD mMO_required 53 (.iadd) 1 54 := ⟨by decide +kernel, rfl⟩
theorem dMO_required_54 : gD mMO_required 54 (.iconst 4) 1 55 := ⟨by decide +kernel, rfl⟩
theorem dMO_required_55 : gD mMO_required 55 (.iload_n 1) 1 56 := ⟨by decide +kernel, rfl⟩
theorem dMO_required_56 : gD mMO_required 56 (.imul) 1 57 := ⟨by decide +kernel, rfl⟩
theorem dMO_required_57 : gD mMO_required 57 (.iconst 2) 1 58 := ⟨by decide +kernel, rfl⟩
theorem dMO_required_58 : gD mMO_required 58 (.iadd) 1 59 := ⟨by decide +kernel, rfl⟩
theorem dMO_required_59 : gD mMO_required 59 (.iconst 0) 1 60 := ⟨by decide +kernel, rfl⟩
theorem dMO_required_60 : gD mMO_required 60 (.invokevirtual 121) 3 63 := ⟨by decide +kernel, rfl⟩
theorem dMO_required_63 : gD mMO_required 63 (.iinc 1 1) 3 66 := ⟨by decide +kernel, rfl⟩
theorem dMO_required_66 : gB mMO_required 66 (.goto (-39)) (-39) 27 69 := ⟨by decide +kernel, by decide, rfl⟩
theorem dMO_required_69 : gD mMO_required 69 (.iconst 0) 1 70 := ⟨by decide +kernel, rfl⟩
theorem dMO_required_70 : gD mMO_required 70 (.istore_n 1) 1 71 := ⟨by decide +kernel, rfl⟩
theorem dMO_required_71 : gD mMO_required 71 (.iload_n 1) 1 72 := ⟨by decide +kernel, rfl⟩
theorem dMO_required_72 : gD mMO_required 72 (.bipush 16) 2 74 := ⟨by decide +kernel, rfl⟩
theorem dMO_required_74 : gB mMO_required 74 (.if_icmp .ge 86) 86 160 77 := ⟨by decide +kernel, by decide, rfl⟩
theorem dMO_required_77 : gD mMO_required 77 (.aload_n 0) 1 78 := ⟨by decide +kernel, rfl⟩
theorem dMO_required_78 : gD mMO_required 78 (.getfield 39) 3 81 := ⟨by decide +kernel, rfl⟩
theorem dMO_required_81 : gD mMO_required 81 (.iload_n 1) 1 82 := ⟨by decide +kernel, rfl⟩
theorem dMO_required_82 : gD mMO_required 82 (.baload) 1 83 := ⟨by decide +kernel, rfl⟩
theorem dMO_required_83 : gB mMO_required 83 (.ifCond .eq 71) 71 154 86 := ⟨by decide +kernel, by decide, rfl⟩
theorem dMO_required_86 : gD mMO_required 86 (.aload_n 0) 1 87 := ⟨by decide +kernel, rfl⟩
theorem dMO_required_87 : gD mMO_required 87 (.getfield 54) 3 90 := ⟨by decide +kernel, rfl⟩
theorem dMO_required_90 : gD mMO_required 90 (.iload_n 1) 1 91 := ⟨by decide +kernel, rfl⟩
theorem dMO_required_91 : gD mMO_required 91 (.iaload) 1 92 := ⟨by decide +kernel, rfl⟩
theorem dMO_required_92 : gB mMO_required 92 (.ifCond .eq 6) 6 98 95 := ⟨by decide +kernel, by decide, rfl⟩
theorem dMO_required_95 : gB mMO_required 95 (.goto 59) 59 154 98 := ⟨by decide +kernel, by decide, rfl⟩
theorem dMO_required_98 : gD mMO_required 98 (.aload_n 0) 1 99 := ⟨by decide +kernel, rfl⟩
theorem dMO_required_99 : gD mMO_required 99 (.getfield 51) 3 102 := ⟨by decide +kernel, rfl⟩
theorem dMO_required_102 : gD mMO_required 102 (.iload_n 1) 1 103 := ⟨by decide +kernel, rfl⟩
theorem dMO_required_103 : gD mMO_required 103 (.iaload) 1 104 := ⟨by decide +kernel, rfl⟩
theorem dMO_required_104 : gB mMO_required 104 (.ifCond .ne 28) 28 132 107 := ⟨by decide +kernel, by decide, rfl⟩
theorem dMO_required_107 : gD mMO_required 107 (.aload_n 0) 1 108 := ⟨by decide +kernel, rfl⟩
theorem dMO_required_108 : gD mMO_required 108 (.aload_n 0) 1 109 := ⟨by decide +kernel, rfl⟩
theorem dMO_required_109 : gD mMO_required 109 (.getfield 42) 3 112 := ⟨by decide +kernel, rfl⟩
theorem dMO_required_112 : gD mMO_required 112 (.iload_n 1) 1 113 := ⟨by decide +kernel, rfl⟩
theorem dMO_required_113 : gD mMO_required 113 (.iaload) 1 114 := ⟨by decide +kernel, rfl⟩
theorem dMO_required_114 : gD mMO_required 114 (.aload_n 0) 1 115 := ⟨by decide +kernel, rfl⟩
theorem dMO_required_115 : gD mMO_required 115 (.getfield 45) 3 118 := ⟨by decide +kernel, rfl⟩
theorem dMO_required_118 : gD mMO_required 118 (.iload_n 1) 1 119 := ⟨by decide +kernel, rfl⟩
theorem dMO_required_119 : gD mMO_required 119 (.iaload) 1 120 := ⟨by decide +kernel, rfl⟩
theorem dMO_required_120 : gD mMO_required 120 (.aload_n 0) 1 121 := ⟨by decide +kernel, rfl⟩
theorem dMO_required_121 : gD mMO_required 121 (.getfield 48) 3 124 := ⟨by decide +kernel, rfl⟩
theorem dMO_required_124 : gD mMO_required 124 (.iload_n 1) 1 125 := ⟨by decide +kernel, rfl⟩
theorem dMO_required_125 : gD mMO_required 125 (.iaload) 1 126 := ⟨by decide +kernel, rfl⟩
theorem dMO_required_126 : gD mMO_required 126 (.invokevirtual 133) 3 129 := ⟨by decide +kernel, rfl⟩
theorem dMO_required_129 : gB mMO_required 129 (.goto 25) 25 154 132 := ⟨by decide +kernel, by decide, rfl⟩
theorem dMO_required_132 : gD mMO_required 132 (.aload_n 0) 1 133 := ⟨by decide +kernel, rfl⟩
theorem dMO_required_133 : gD mMO_required 133 (.aload_n 0) 1 134 := ⟨by decide +kernel, rfl⟩
theorem dMO_required_134 : gD mMO_required 134 (.getfield 42) 3 137 := ⟨by decide +kernel, rfl⟩
theorem dMO_required_137 : gD mMO_required 137 (.iload_n 1) 1 138 := ⟨by decide +kernel, rfl⟩
theorem dMO_required_138 : gD mMO_required 138 (.iaload) 1 139 := ⟨by decide +kernel, rfl⟩
theorem dMO_required_139 : gD mMO_required 139 (.aload_n 0) 1 140 := ⟨by decide +kernel, rfl⟩
theorem dMO_required_140 : gD mMO_required 140 (.getfield 45) 3 143 := ⟨by decide +kernel, rfl⟩
theorem dMO_required_143 : gD mMO_required 143 (.iload_n 1) 1 144 := ⟨by decide +kernel, rfl⟩
theorem dMO_required_144 : gD mMO_required 144 (.iaload) 1 145 := ⟨by decide +kernel, rfl⟩
theorem dMO_required_145 : gD mMO_required 145 (.aload_n 0) 1 146 := ⟨by decide +kernel, rfl⟩
theorem dMO_required_146 : gD mMO_required 146 (.getfield 48) 3 149 := ⟨by decide +kernel, rfl⟩
theorem dMO_required_149 : gD mMO_required 149 (.iload_n 1) 1 150 := ⟨by decide +kernel, rfl⟩
theorem dMO_required_150 : gD mMO_required 150 (.iaload) 1 151 := ⟨by decide +kernel, rfl⟩
theorem dMO_required_151 : gD mMO_required 151 (.invokevirtual 121) 3 154 := ⟨by decide +kernel, rfl⟩
theorem dMO_required_154 : gD mMO_required 154 (.iinc 1 1) 3 157 := ⟨by decide +kernel, rfl⟩
theorem dMO_required_157 : gB mMO_required 157 (.goto (-86)) (-86) 71 160 := ⟨by decide +kernel, by decide, rfl⟩
theorem dMO_required_160 : decode mMO_required.2.1 160 = .ok (.return_, 1) := by decide +kernel
theorem dMO_origin_0 : gD mMO_origin 0 (.iload_n 0) 1 1 := ⟨by decide +kernel, rfl⟩
theorem dMO_origin_1 : gD mMO_origin 1 (.iconst 4) 1 2 := ⟨by decide +kernel, rfl⟩
theorem dMO_origin_2 : gD mMO_origin 2 (.irem) 1 3 := ⟨by decide +kernel, rfl⟩
theorem dMO_origin_3 : gD mMO_origin 3 (.iconst 2) 1 4 := ⟨by decide +kernel, rfl⟩
theorem dMO_origin_4 : gB mMO_origin 4 (.if_icmp .ge 7) 7 11 7 := ⟨by decide +kernel, by decide, rfl⟩
theorem dMO_origin_7 : gD mMO_origin 7 (.iconst 0) 1 8 := ⟨by decide +kernel, rfl⟩
theorem dMO_origin_8 : gB mMO_origin 8 (.goto 4) 4 12 11 := ⟨by decide +kernel, by decide, rfl⟩
theorem dMO_origin_11 : gD mMO_origin 11 (.iconst 2) 1 12 := ⟨by decide +kernel, rfl⟩
theorem dMO_origin_12 : decode mMO_origin.2.1 12 = .ok (.ireturn, 1) := by decide +kernel
theorem dMO_solve_0 : gD mMO_solve 0 (.aload_n 0) 1 1 := ⟨by decide +kernel, rfl⟩
theorem dMO_solve_1 : gD mMO_solve 1 (.invokevirtual 140) 3 4 := ⟨by decide +kernel, rfl⟩
theorem dMO_solve_4 : gD mMO_solve 4 (.aload_n 0) 1 5 := ⟨by decide +kernel, rfl⟩
theorem dMO_solve_5 : gD mMO_solve 5 (.invokevirtual 143) 3 8 := ⟨by decide +kernel, rfl⟩
theorem dMO_solve_8 : gB mMO_solve 8 (.ifCond .eq 5) 5 13 11 := ⟨by decide +kernel, by decide, rfl⟩
theorem dMO_solve_11 : gD mMO_solve 11 (.iconst 0) 1 12 := ⟨by decide +kernel, rfl⟩
theorem dMO_solve_12 : decode mMO_solve.2.1 12 = .ok (.ireturn, 1) := by decide +kernel
theorem dMO_solve_13 : gD mMO_solve 13 (.iload_n 1) 1 14 := ⟨by decide +kernel, rfl⟩
theorem dMO_solve_14 : gB mMO_solve 14 (.ifCond .lt 14) 14 28 17 := ⟨by decide +kernel, by decide, rfl⟩
theorem dMO_solve_17 : gD mMO_solve 17 (.aload_n 0) 1 18 := ⟨by decide +kernel, rfl⟩
theorem dMO_solve_18 : gD mMO_solve 18 (.iload_n 1) 1 19 := ⟨by decide +kernel, rfl⟩
theorem dMO_solve_19 : gD mMO_solve 19 (.iload_n 1) 1 20 := ⟨by decide +kernel, rfl⟩
theorem dMO_solve_20 : gD mMO_solve 20 (.invokestatic 146) 3 23 := ⟨by decide +kernel, rfl⟩
theorem dMO_solve_23 : gD mMO_solve 23 (.iload_n 2) 1 24 := ⟨by decide +kernel, rfl⟩
theorem dMO_solve_24 : gD mMO_solve 24 (.invokevirtual 136) 3 27 := ⟨by decide +kernel, rfl⟩
theorem dMO_solve_27 : gD mMO_solve 27 (.pop) 1 28 := ⟨by decide +kernel, rfl⟩
theorem dMO_solve_28 : gD mMO_solve 28 (.iconst 1) 1 29 := ⟨by decide +kernel, rfl⟩
theorem dMO_solve_29 : gD mMO_solve 29 (.istore_n 3) 1 30 := ⟨by decide +kernel, rfl⟩
theorem dMO_solve_30 : gD mMO_solve 30 (.iload_n 3) 1 31 := ⟨by decide +kernel, rfl⟩
theorem dMO_solve_31 : gD mMO_solve 31 (.iconst 4) 1 32 := ⟨by decide +kernel, rfl⟩
theorem dMO_solve_32 : gB mMO_solve 32 (.if_icmp .ge 52) 52 84 35 := ⟨by decide +kernel, by decide, rfl⟩
theorem dMO_solve_35 : gD mMO_solve 35 (.iconst 0) 1 36 := ⟨by decide +kernel, rfl⟩
theorem dMO_solve_36 : gD mMO_solve 36 (.istore 4) 2 38 := ⟨by decide +kernel, rfl⟩
theorem dMO_solve_38 : gD mMO_solve 38 (.iload 4) 2 40 := ⟨by decide +kernel, rfl⟩
theorem dMO_solve_40 : gD mMO_solve 40 (.bipush 16) 2 42 := ⟨by decide +kernel, rfl⟩
theorem dMO_solve_42 : gB mMO_solve 42 (.if_icmp .ge 36) 36 78 45 := ⟨by decide +kernel, by decide, rfl⟩
theorem dMO_solve_45 : gD mMO_solve 45 (.aload_n 0) 1 46 := ⟨by decide +kernel, rfl⟩
theorem dMO_solve_46 : gD mMO_solve 46 (.getfield 39) 3 49 := ⟨by decide +kernel, rfl⟩
theorem dMO_solve_49 : gD mMO_solve 49 (.iload 4) 2 51 := ⟨by decide +kernel, rfl⟩
theorem dMO_solve_51 : gD mMO_solve 51 (.baload) 1 52 := ⟨by decide +kernel, rfl⟩
theorem dMO_solve_52 : gB mMO_solve 52 (.ifCond .eq 20) 20 72 55 := ⟨by decide +kernel, by decide, rfl⟩
theorem dMO_solve_55 : gD mMO_solve 55 (.aload_n 0) 1 56 := ⟨by decide +kernel, rfl⟩
theorem dMO_solve_56 : gD mMO_solve 56 (.getfield 54) 3 59 := ⟨by decide +kernel, rfl⟩
theorem dMO_solve_59 : gD mMO_solve 59 (.iload 4) 2 61 := ⟨by decide +kernel, rfl⟩
theorem dMO_solve_61 : gD mMO_solve 61 (.iaload) 1 62 := ⟨by decide +kernel, rfl⟩
theorem dMO_solve_62 : gD mMO_solve 62 (.iload_n 3) 1 63 := ⟨by decide +kernel, rfl⟩
theorem dMO_solve_63 : gB mMO_solve 63 (.if_icmp .ne 9) 9 72 66 := ⟨by decide +kernel, by decide, rfl⟩
theorem dMO_solve_66 : gD mMO_solve 66 (.aload_n 0) 1 67 := ⟨by decide +kernel, rfl⟩
theorem dMO_solve_67 : gD mMO_solve 67 (.iload 4) 2 69 := ⟨by decide +kernel, rfl⟩
theorem dMO_solve_69 : gD mMO_solve 69 (.invokevirtual 149) 3 72 := ⟨by decide +kernel, rfl⟩
theorem dMO_solve_72 : gD mMO_solve 72 (.iinc 4 1) 3 75 := ⟨by decide +kernel, rfl⟩
theorem dMO_solve_75 : gB mMO_solve 75 (.goto (-37)) (-37) 38 78 := ⟨by decide +kernel, by decide, rfl⟩
theorem dMO_solve_78 : gD mMO_solve 78 (.iinc 3 1) 3 81 := ⟨by decide +kernel, rfl⟩
theorem dMO_solve_81 : gB mMO_solve 81 (.goto (-51)) (-51) 30 84 := ⟨by decide +kernel, by decide, rfl⟩
theorem dMO_solve_84 : gD mMO_solve 84 (.iconst 0) 1 85 := ⟨by decide +kernel, rfl⟩
theorem dMO_solve_85 : gD mMO_solve 85 (.istore_n 3) 1 86 := ⟨by decide +kernel, rfl⟩
theorem dMO_solve_86 : gD mMO_solve 86 (.iload_n 3) 1 87 := ⟨by decide +kernel, rfl⟩
theorem dMO_solve_87 : gD mMO_solve 87 (.iconst 4) 1 88 := ⟨by decide +kernel, rfl⟩
theorem dMO_solve_88 : gD mMO_solve 88 (.aload_n 0) 1 89 := ⟨by decide +kernel, rfl⟩
theorem dMO_solve_89 : gD mMO_solve 89 (.getfield 7) 3 92 := ⟨by decide +kernel, rfl⟩
theorem dMO_solve_92 : gD mMO_solve 92 (.imul) 1 93 := ⟨by decide +kernel, rfl⟩
theorem dMO_solve_93 : gB mMO_solve 93 (.if_icmp .ge 30) 30 123 96 := ⟨by decide +kernel, by decide, rfl⟩
theorem dMO_solve_96 : gD mMO_solve 96 (.aload_n 0) 1 97 := ⟨by decide +kernel, rfl⟩
theorem dMO_solve_97 : gD mMO_solve 97 (.getfield 36) 3 100 := ⟨by decide +kernel, rfl⟩
theorem dMO_solve_100 : gD mMO_solve 100 (.iload_n 3) 1 101 := ⟨by decide +kernel, rfl⟩
theorem dMO_solve_101 : gD mMO_solve 101 (.aload_n 0) 1 102 := ⟨by decide +kernel, rfl⟩
theorem dMO_solve_102 : gD mMO_solve 102 (.iload_n 3) 1 103 := ⟨by decide +kernel, rfl⟩
theorem dMO_solve_103 : gD mMO_solve 103 (.iload_n 3) 1 104 := ⟨by decide +kernel, rfl⟩
theorem dMO_solve_104 : gD mMO_solve 104 (.invokestatic 146) 3 107 := ⟨by decide +kernel, rfl⟩
theorem dMO_solve_107 : gD mMO_solve 107 (.aload_n 0) 1 108 := ⟨by decide +kernel, rfl⟩
theorem dMO_solve_108 : gD mMO_solve 108 (.getfield 33) 3 111 := ⟨by decide +kernel, rfl⟩
theorem dMO_solve_111 : gD mMO_solve 111 (.iload_n 3) 1 112 := ⟨by decide +kernel, rfl⟩
theorem dMO_solve_112 : gD mMO_solve 112 (.iaload) 1 113 := ⟨by decide +kernel, rfl⟩
theorem dMO_solve_113 : gD mMO_solve 113 (.invokevirtual 136) 3 116 := ⟨by decide +kernel, rfl⟩
theorem dMO_solve_116 : gD mMO_solve 116 (.iastore) 1 117 := ⟨by decide +kernel, rfl⟩
theorem dMO_solve_117 : gD mMO_solve 117 (.iinc 3 1) 3 120 := ⟨by decide +kernel, rfl⟩
theorem dMO_solve_120 : gB mMO_solve 120 (.goto (-34)) (-34) 86 123 := ⟨by decide +kernel, by decide, rfl⟩
theorem dMO_solve_123 : gD mMO_solve 123 (.iconst 0) 1 124 := ⟨by decide +kernel, rfl⟩
theorem dMO_solve_124 : gD mMO_solve 124 (.istore_n 3) 1 125 := ⟨by decide +kernel, rfl⟩
theorem dMO_solve_125 : gD mMO_solve 125 (.iload_n 3) 1 126 := ⟨by decide +kernel, rfl⟩
theorem dMO_solve_126 : gD mMO_solve 126 (.iconst 4) 1 127 := ⟨by decide +kernel, rfl⟩
theorem dMO_solve_127 : gD mMO_solve 127 (.aload_n 0) 1 128 := ⟨by decide +kernel, rfl⟩
theorem dMO_solve_128 : gD mMO_solve 128 (.getfield 7) 3 131 := ⟨by decide +kernel, rfl⟩
theorem dMO_solve_131 : gD mMO_solve 131 (.imul) 1 132 := ⟨by decide +kernel, rfl⟩
theorem dMO_solve_132 : gB mMO_solve 132 (.if_icmp .ge 21) 21 153 135 := ⟨by decide +kernel, by decide, rfl⟩
theorem dMO_solve_135 : gD mMO_solve 135 (.aload_n 0) 1 136 := ⟨by decide +kernel, rfl⟩
theorem dMO_solve_136 : gD mMO_solve 136 (.getfield 33) 3 139 := ⟨by decide +kernel, rfl⟩
theorem dMO_solve_139 : gD mMO_solve 139 (.iload_n 3) 1 140 := ⟨by decide +kernel, rfl⟩
theorem dMO_solve_140 : gD mMO_solve 140 (.aload_n 0) 1 141 := ⟨by decide +kernel, rfl⟩
theorem dMO_solve_141 : gD mMO_solve 141 (.getfield 36) 3 144 := ⟨by decide +kernel, rfl⟩
theorem dMO_solve_144 : gD mMO_solve 144 (.iload_n 3) 1 145 := ⟨by decide +kernel, rfl⟩
theorem dMO_solve_145 : gD mMO_solve 145 (.iaload) 1 146 := ⟨by decide +kernel, rfl⟩
theorem dMO_solve_146 : gD mMO_solve 146 (.iastore) 1 147 := ⟨by decide +kernel, rfl⟩
theorem dMO_solve_147 : gD mMO_solve 147 (.iinc 3 1) 3 150 := ⟨by decide +kernel, rfl⟩
theorem dMO_solve_150 : gB mMO_solve 150 (.goto (-25)) (-25) 125 153 := ⟨by decide +kernel, by decide, rfl⟩
theorem dMO_solve_153 : gD mMO_solve 153 (.iconst 1) 1 154 := ⟨by decide +kernel, rfl⟩
theorem dMO_solve_154 : decode mMO_solve.2.1 154 = .ok (.ireturn, 1) := by decide +kernel
theorem dMO_isBox_0 : gD mMO_isBox 0 (.iload_n 1) 1 1 := ⟨by decide +kernel, rfl⟩
theorem dMO_isBox_1 : gB mMO_isBox 1 (.ifCond .lt 15) 15 16 4 := ⟨by decide +kernel, by decide, rfl⟩
theorem dMO_isBox_4 : gD mMO_isBox 4 (.iload_n 1) 1 5 := ⟨by decide +kernel, rfl⟩
theorem dMO_isBox_5 : gD mMO_isBox 5 (.aload_n 0) 1 6 := ⟨by decide +kernel, rfl⟩
theorem dMO_isBox_6 : gD mMO_isBox 6 (.getfield 7) 3 9 := ⟨by decide +kernel, rfl⟩
theorem dMO_isBox_9 : gB mMO_isBox 9 (.if_icmp .ge 7) 7 16 12 := ⟨by decide +kernel, by decide, rfl⟩
theorem dMO_isBox_12 : gD mMO_isBox 12 (.iconst 1) 1 13 := ⟨by decide +kernel, rfl⟩
theorem dMO_isBox_13 : gB mMO_isBox 13 (.goto 4) 4 17 16 := ⟨by decide +kernel, by decide, rfl⟩
theorem dMO_isBox_16 : gD mMO_isBox 16 (.iconst 0) 1 17 := ⟨by decide +kernel, rfl⟩
theorem dMO_isBox_17 : decode mMO_isBox.2.1 17 = .ok (.ireturn, 1) := by decide +kernel
theorem dMO_isEdge_0 : gD mMO_isEdge 0 (.iload_n 1) 1 1 := ⟨by decide +kernel, rfl⟩
theorem dMO_isEdge_1 : gB mMO_isEdge 1 (.ifCond .lt 17) 17 18 4 := ⟨by decide +kernel, by decide, rfl⟩
theorem dMO_isEdge_4 : gD mMO_isEdge 4 (.iload_n 1) 1 5 := ⟨by decide +kernel, rfl⟩
theorem dMO_isEdge_5 : gD mMO_isEdge 5 (.iconst 4) 1 6 := ⟨by decide +kernel, rfl⟩
theorem dMO_isEdge_6 : gD mMO_isEdge 6 (.aload_n 0) 1 7 := ⟨by decide +kernel, rfl⟩
theorem dMO_isEdge_7 : gD mMO_isEdge 7 (.getfield 7) 3 10 := ⟨by decide +kernel, rfl⟩
theorem dMO_isEdge_10 : gD mMO_isEdge 10 (.imul) 1 11 := ⟨by decide +kernel, rfl⟩
theorem dMO_isEdge_11 : gB mMO_isEdge 11 (.if_icmp .ge 7) 7 18 14 := ⟨by decide +kernel, by decide, rfl⟩
theorem dMO_isEdge_14 : gD mMO_isEdge 14 (.iconst 1) 1 15 := ⟨by decide +kernel, rfl⟩
theorem dMO_isEdge_15 : gB mMO_isEdge 15 (.goto 4) 4 19 18 := ⟨by decide +kernel, by decide, rfl⟩
theorem dMO_isEdge_18 : gD mMO_isEdge 18 (.iconst 0) 1 19 := ⟨by decide +kernel, rfl⟩
theorem dMO_isEdge_19 : decode mMO_isEdge.2.1 19 = .ok (.ireturn, 1) := by decide +kernel
theorem dMO_box_0 : gD mMO_box 0 (.aload_n 0) 1 1 := ⟨by decide +kernel, rfl⟩
theorem dMO_box_1 : gD mMO_box 1 (.getfield 7) 3 4 := ⟨by decide +kernel, rfl⟩
theorem dMO_box_4 : gD mMO_box 4 (.bipush 6) 2 6 := ⟨by decide +kernel, rfl⟩
theorem dMO_box_6 : gB mMO_box 6 (.if_icmp .eq 20) 20 26 9 := ⟨by decide +kernel, by decide, rfl⟩
theorem dMO_box_9 : gD mMO_box 9 (.iload_n 1) 1 10 := ⟨by decide +kernel, rfl⟩
theorem dMO_box_10 : gB mMO_box 10 (.ifCond .lt 16) 16 26 13 := ⟨by decide +kernel, by decide, rfl⟩
theorem dMO_box_13 : gD mMO_box 13 (.iload_n 1) 1 14 := ⟨by decide +kernel, rfl⟩
theorem dMO_box_14 : gD mMO_box 14 (.iconst 2) 1 15 := ⟨by decide +kernel, rfl⟩
theorem dMO_box_15 : gB mMO_box 15 (.if_icmp .gt 11) 11 26 18 := ⟨by decide +kernel, by decide, rfl⟩
theorem dMO_box_18 : gD mMO_box 18 (.aload_n 0) 1 19 := ⟨by decide +kernel, rfl⟩
theorem dMO_box_19 : gD mMO_box 19 (.iload_n 2) 1 20 := ⟨by decide +kernel, rfl⟩
theorem dMO_box_20 : gD mMO_box 20 (.invokevirtual 153) 3 23 := ⟨by decide +kernel, rfl⟩
theorem dMO_box_23 : gB mMO_box 23 (.ifCond .ne 5) 5 28 26 := ⟨by decide +kernel, by decide, rfl⟩
theorem dMO_box_26 : gD mMO_box 26 (.iconst (-1)) 1 27 := ⟨by decide +kernel, rfl⟩
theorem dMO_box_27 : decode mMO_box.2.1 27 = .ok (.ireturn, 1) := by decide +kernel
theorem dMO_box_28 : gD mMO_box 28 (.aload_n 0) 1 29 := ⟨by decide +kernel, rfl⟩
theorem dMO_box_29 : gD mMO_box 29 (.getfield 13) 3 32 := ⟨by decide +kernel, rfl⟩
theorem dMO_box_32 : gD mMO_box 32 (.aload_n 0) 1 33 := ⟨by decide +kernel, rfl⟩
theorem dMO_box_33 : gD mMO_box 33 (.getfield 7) 3 36 := ⟨by decide +kernel, rfl⟩
theorem dMO_box_36 : gD mMO_box 36 (.iload_n 1) 1 37 := ⟨by decide +kernel, rfl⟩
theorem dMO_box_37 : gD mMO_box 37 (.iastore) 1 38 := ⟨by decide +kernel, rfl⟩
theorem dMO_box_38 : gD mMO_box 38 (.aload_n 0) 1 39 := ⟨by decide +kernel, rfl⟩
theorem dMO_box_39 : gD mMO_box 39 (.getfield 17) 3 42 := ⟨by decide +kernel, rfl⟩
theorem dMO_box_42 : gD mMO_box 42 (.aload_n 0) 1 43 := ⟨by decide +kernel, rfl⟩
theorem dMO_box_43 : gD mMO_box 43 (.getfield 7) 3 46 := ⟨by decide +kernel, rfl⟩
theorem dMO_box_46 : gD mMO_box 46 (.iload_n 2) 1 47 := ⟨by decide +kernel, rfl⟩
theorem dMO_box_47 : gD mMO_box 47 (.iastore) 1 48 := ⟨by decide +kernel, rfl⟩
theorem dMO_box_48 : gD mMO_box 48 (.aload_n 0) 1 49 := ⟨by decide +kernel, rfl⟩
theorem dMO_box_49 : gD mMO_box 49 (.dup) 1 50 := ⟨by decide +kernel, rfl⟩
theorem dMO_box_50 : gD mMO_box 50 (.getfield 156) 3 53 := ⟨by decide +kernel, rfl⟩
theorem dMO_box_53 : gD mMO_box 53 (.iconst 1) 1 54 := ⟨by decide +kernel, rfl⟩
theorem dMO_box_54 : gD mMO_box 54 (.iadd) 1 55 := ⟨by decide +kernel, rfl⟩
theorem dMO_box_55 : gD mMO_box 55 (.putfield 156) 3 58 := ⟨by decide +kernel, rfl⟩
theorem dMO_box_58 : gD mMO_box 58 (.aload_n 0) 1 59 := ⟨by decide +kernel, rfl⟩
theorem dMO_box_59 : gD mMO_box 59 (.getfield 30) 3 62 := ⟨by decide +kernel, rfl⟩
theorem dMO_box_62 : gD mMO_box 62 (.aload_n 0) 1 63 := ⟨by decide +kernel, rfl⟩
theorem dMO_box_63 : gD mMO_box 63 (.getfield 7) 3 66 := ⟨by decide +kernel, rfl⟩
theorem dMO_box_66 : gD mMO_box 66 (.aload_n 0) 1 67 := ⟨by decide +kernel, rfl⟩
theorem dMO_box_67 : gD mMO_box 67 (.getfield 156) 3 70 := ⟨by decide +kernel, rfl⟩
theorem dMO_box_70 : gD mMO_box 70 (.iastore) 1 71 := ⟨by decide +kernel, rfl⟩
theorem dMO_box_71 : gD mMO_box 71 (.aload_n 0) 1 72 := ⟨by decide +kernel, rfl⟩
theorem dMO_box_72 : gD mMO_box 72 (.dup) 1 73 := ⟨by decide +kernel, rfl⟩
theorem dMO_box_73 : gD mMO_box 73 (.getfield 7) 3 76 := ⟨by decide +kernel, rfl⟩
theorem dMO_box_76 : gD mMO_box 76 (.iconst 1) 1 77 := ⟨by decide +kernel, rfl⟩
theorem dMO_box_77 : gD mMO_box 77 (.iadd) 1 78 := ⟨by decide +kernel, rfl⟩
theorem dMO_box_78 : gD mMO_box 78 (.putfield 7) 3 81 := ⟨by decide +kernel, rfl⟩
theorem dMO_box_81 : gD mMO_box 81 (.aload_n 0) 1 82 := ⟨by decide +kernel, rfl⟩
theorem dMO_box_82 : gD mMO_box 82 (.getfield 78) 3 85 := ⟨by decide +kernel, rfl⟩
theorem dMO_box_85 : gD mMO_box 85 (.aload_n 0) 1 86 := ⟨by decide +kernel, rfl⟩
theorem dMO_box_86 : gD mMO_box 86 (.getfield 7) 3 89 := ⟨by decide +kernel, rfl⟩
theorem dMO_box_89 : gD mMO_box 89 (.iconst 1) 1 90 := ⟨by decide +kernel, rfl⟩
theorem dMO_box_90 : gD mMO_box 90 (.isub) 1 91 := ⟨by decide +kernel, rfl⟩
theorem dMO_box_91 : gD mMO_box 91 (.aload_n 0) 1 92 := ⟨by decide +kernel, rfl⟩
theorem dMO_box_92 : gD mMO_box 92 (.getfield 7) 3 95 := ⟨by decide +kernel, rfl⟩
theorem dMO_box_95 : gD mMO_box 95 (.iastore) 1 96 := ⟨by decide +kernel, rfl⟩
theorem dMO_box_96 : gD mMO_box 96 (.aload_n 0) 1 97 := ⟨by decide +kernel, rfl⟩
theorem dMO_box_97 : gD mMO_box 97 (.invokevirtual 93) 3 100 := ⟨by decide +kernel, rfl⟩
theorem dMO_box_100 : gD mMO_box 100 (.aload_n 0) 1 101 := ⟨by decide +kernel, rfl⟩
theorem dMO_box_101 : gD mMO_box 101 (.getfield 7) 3 104 := ⟨by decide +kernel, rfl⟩
theorem dMO_box_104 : gD mMO_box 104 (.iconst 1) 1 105 := ⟨by decide +kernel, rfl⟩
theorem dMO_box_105 : gD mMO_box 105 (.isub) 1 106 := ⟨by decide +kernel, rfl⟩
theorem dMO_box_106 : decode mMO_box.2.1 106 = .ok (.ireturn, 1) := by decide +kernel
theorem dMO_constrain_0 : gD mMO_constrain 0 (.aload_n 0) 1 1 := ⟨by decide +kernel, rfl⟩
theorem dMO_constrain_1 : gD mMO_constrain 1 (.iload_n 1) 1 2 := ⟨by decide +kernel, rfl⟩
theorem dMO_constrain_2 : gD mMO_constrain 2 (.invokevirtual 159) 3 5 := ⟨by decide +kernel, rfl⟩
theorem dMO_constrain_5 : gB mMO_constrain 5 (.ifCond .eq 27) 27 32 8 := ⟨by decide +kernel, by decide, rfl⟩
theorem dMO_constrain_8 : gD mMO_constrain 8 (.aload_n 0) 1 9 := ⟨by decide +kernel, rfl⟩
theorem dMO_constrain_9 : gD mMO_constrain 9 (.iload_n 2) 1 10 := ⟨by decide +kernel, rfl⟩
theorem dMO_constrain_10 : gD mMO_constrain 10 (.invokevirtual 159) 3 13 := ⟨by decide +kernel, rfl⟩
theorem dMO_constrain_13 : gB mMO_constrain 13 (.ifCond .eq 19) 19 32 16 := ⟨by decide +kernel, by decide, rfl⟩
theorem dMO_constrain_16 : gD mMO_constrain 16 (.iload_n 1) 1 17 := ⟨by decide +kernel, rfl⟩
theorem dMO_constrain_17 : gD mMO_constrain 17 (.iload_n 2) 1 18 := ⟨by decide +kernel, rfl⟩
theorem dMO_constrain_18 : gB mMO_constrain 18 (.if_icmp .eq 14) 14 32 21 := ⟨by decide +kernel, by decide, rfl⟩
theorem dMO_constrain_21 : gD mMO_constrain 21 (.iload_n 1) 1 22 := ⟨by decide +kernel, rfl⟩
theorem dMO_constrain_22 : gD mMO_constrain 22 (.invokestatic 146) 3 25 := ⟨by decide +kernel, rfl⟩
theorem dMO_constrain_25 : gD mMO_constrain 25 (.iload_n 2) 1 26 := ⟨by decide +kernel, rfl⟩
theorem dMO_constrain_26 : gD mMO_constrain 26 (.invokestatic 146) 3 29 := ⟨by decide +kernel, rfl⟩
theorem dMO_constrain_29 : gB mMO_constrain 29 (.if_icmp .eq 5) 5 34 32 := ⟨by decide +kernel, by decide, rfl⟩
theorem dMO_constrain_32 : gD mMO_constrain 32 (.iconst (-1)) 1 33 := ⟨by decide +kernel, rfl⟩
theorem dMO_constrain_33 : decode mMO_constrain.2.1 33 = .ok (.ireturn, 1) := by decide +kernel
theorem dMO_constrain_34 : gD mMO_constrain 34 (.iload_n 3) 1 35 := ⟨by decide +kernel, rfl⟩
theorem dMO_constrain_35 : gD mMO_constrain 35 (.bipush (-99)) 2 37 := ⟨by decide +kernel, rfl⟩
theorem dMO_constrain_37 : gB mMO_constrain 37 (.if_icmp .lt 31) 31 68 40 := ⟨by decide +kernel, by decide, rfl⟩
theorem dMO_constrain_40 : gD mMO_constrain 40 (.iload_n 3) 1 41 := ⟨by decide +kernel, rfl⟩
theorem dMO_constrain_41 : gD mMO_constrain 41 (.bipush 99) 2 43 := ⟨by decide +kernel, rfl⟩
theorem dMO_constrain_43 : gB mMO_constrain 43 (.if_icmp .gt 25) 25 68 46 := ⟨by decide +kernel, by decide, rfl⟩
theorem dMO_constrain_46 : gD mMO_constrain 46 (.iload 4) 2 48 := ⟨by decide +kernel, rfl⟩
theorem dMO_constrain_48 : gB mMO_constrain 48 (.ifCond .lt 20) 20 68 51 := ⟨by decide +kernel, by decide, rfl⟩
theorem dMO_constrain_51 : gD mMO_constrain 51 (.iload 4) 2 53 := ⟨by decide +kernel, rfl⟩
theorem dMO_constrain_53 : gD mMO_constrain 53 (.iconst 1) 1 54 := ⟨by decide +kernel, rfl⟩
theorem dMO_constrain_54 : gB mMO_constrain 54 (.if_icmp .gt 14) 14 68 57 := ⟨by decide +kernel, by decide, rfl⟩
theorem dMO_constrain_57 : gD mMO_constrain 57 (.iload 5) 2 59 := ⟨by decide +kernel, rfl⟩
theorem dMO_constrain_59 : gB mMO_constrain 59 (.ifCond .lt 9) 9 68 62 := ⟨by decide +kernel, by decide, rfl⟩
theorem dMO_constrain_62 : gD mMO_constrain 62 (.iload 5) 2 64 := ⟨by decide +kernel, rfl⟩
theorem dMO_constrain_64 : gD mMO_constrain 64 (.iconst 3) 1 65 := ⟨by decide +kernel, rfl⟩
theorem dMO_constrain_65 : gB mMO_constrain 65 (.if_icmp .le 5) 5 70 68 := ⟨by decide +kernel, by decide, rfl⟩
theorem dMO_constrain_68 : gD mMO_constrain 68 (.iconst (-1)) 1 69 := ⟨by decide +kernel, rfl⟩
theorem dMO_constrain_69 : decode mMO_constrain.2.1 69 = .ok (.ireturn, 1) := by decide +kernel
theorem dMO_constrain_70 : gD mMO_constrain 70 (.iconst 0) 1 71 := ⟨by decide +kernel, rfl⟩
theorem dMO_constrain_71 : gD mMO_constrain 71 (.istore 6) 2 73 := ⟨by decide +kernel, rfl⟩
theorem dMO_constrain_73 : gD mMO_constrain 73 (.iload 6) 2 75 := ⟨by decide +kernel, rfl⟩
theorem dMO_constrain_75 : gD mMO_constrain 75 (.bipush 16) 2 77 := ⟨by decide +kernel, rfl⟩
theorem dMO_constrain_77 : gB mMO_constrain 77 (.if_icmp .ge 19) 19 96 80 := ⟨by decide +kernel, by decide, rfl⟩
theorem dMO_constrain_80 : gD mMO_constrain 80 (.aload_n 0) 1 81 := ⟨by decide +kernel, rfl⟩
theorem dMO_constrain_81 : gD mMO_constrain 81 (.getfield 39) 3 84 := ⟨by decide +kernel, rfl⟩
theorem dMO_constrain_84 : gD mMO_constrain 84 (.iload 6) 2 86 := ⟨by decide +kernel, rfl⟩
theorem dMO_constrain_86 : gD mMO_constrain 86 (.baload) 1 87 := ⟨by decide +kernel, rfl⟩
theorem dMO_constrain_87 : gB mMO_constrain 87 (.ifCond .eq 9) 9 96 90 := ⟨by decide +kernel, by decide, rfl⟩
theorem dMO_constrain_90 : gD mMO_constrain 90 (.iinc 6 1) 3 93 := ⟨by decide +kernel, rfl⟩
theorem dMO_constrain_93 : gB mMO_constrain 93 (.goto (-20)) (-20) 73 96 := ⟨by decide +kernel, by decide, rfl⟩
theorem dMO_constrain_96 : gD mMO_constrain 96 (.iload 6) 2 98 := ⟨by decide +kernel, rfl⟩
theorem dMO_constrain_98 : gD mMO_constrain 98 (.bipush 16) 2 100 := ⟨by decide +kernel, rfl⟩
theorem dMO_constrain_100 : gB mMO_constrain 100 (.if_icmp .ne 6) 6 106 103 := ⟨by decide +kernel, by decide, rfl⟩
theorem dMO_constrain_103 : gD mMO_constrain 103 (.bipush (-2)) 2 105 := ⟨by decide +kernel, rfl⟩
theorem dMO_constrain_105 : decode mMO_constrain.2.1 105 = .ok (.ireturn, 1) := by decide +kernel
theorem dMO_constrain_106 : gD mMO_constrain 106 (.aload_n 0) 1 107 := ⟨by decide +kernel, rfl⟩
theorem dMO_constrain_107 : gD mMO_constrain 107 (.getfield 39) 3 110 := ⟨by decide +kernel, rfl⟩
theorem dMO_constrain_110 : gD mMO_constrain 110 (.iload 6) 2 112 := ⟨by decide +kernel, rfl⟩
theorem dMO_constrain_112 : gD mMO_constrain 112 (.iconst 1) 1 113 := ⟨by decide +kernel, rfl⟩
theorem dMO_constrain_113 : gD mMO_constrain 113 (.bastore) 1 114 := ⟨by decide +kernel, rfl⟩
theorem dMO_constrain_114 : gD mMO_constrain 114 (.aload_n 0) 1 115 := ⟨by decide +kernel, rfl⟩
theorem dMO_constrain_115 : gD mMO_constrain 115 (.getfield 42) 3 118 := ⟨by decide +kernel, rfl⟩
theorem dMO_constrain_118 : gD mMO_constrain 118 (.iload 6) 2 120 := ⟨by decide +kernel, rfl⟩
theorem dMO_constrain_120 : gD mMO_constrain 120 (.iload_n 1) 1 121 := ⟨by decide +kernel, rfl⟩
theorem dMO_constrain_121 : gD mMO_constrain 121 (.iastore) 1 122 := ⟨by decide +kernel, rfl⟩
theorem dMO_constrain_122 : gD mMO_constrain 122 (.aload_n 0) 1 123 := ⟨by decide +kernel, rfl⟩
theorem dMO_constrain_123 : gD mMO_constrain 123 (.getfield 45) 3 126 := ⟨by decide +kernel, rfl⟩
theorem dMO_constrain_126 : gD mMO_constrain 126 (.iload 6) 2 128 := ⟨by decide +kernel, rfl⟩
theorem dMO_constrain_128 : gD mMO_constrain 128 (.iload_n 2) 1 129 := ⟨by decide +kernel, rfl⟩
theorem dMO_constrain_129 : gD mMO_constrain 129 (.iastore) 1 130 := ⟨by decide +kernel, rfl⟩
theorem dMO_constrain_130 : gD mMO_constrain 130 (.aload_n 0) 1 131 := ⟨by decide +kernel, rfl⟩
theorem dMO_constrain_131 : gD mMO_constrain 131 (.getfield 48) 3 134 := ⟨by decide +kernel, rfl⟩
theorem dMO_constrain_134 : gD mMO_constrain 134 (.iload 6) 2 136 := ⟨by decide +kernel, rfl⟩
theorem dMO_constrain_136 : gD mMO_constrain 136 (.iload_n 3) 1 137 := ⟨by decide +kernel, rfl⟩
theorem dMO_constrain_137 : gD mMO_constrain 137 (.iastore) 1 138 := ⟨by decide +kernel, rfl⟩
theorem dMO_constrain_138 : gD mMO_constrain 138 (.aload_n 0) 1 139 := ⟨by decide +kernel, rfl⟩
theorem dMO_constrain_139 : gD mMO_constrain 139 (.getfield 51) 3 142 := ⟨by decide +kernel, rfl⟩
theorem dMO_constrain_142 : gD mMO_constrain 142 (.iload 6) 2 144 := ⟨by decide +kernel, rfl⟩
theorem dMO_constrain_144 : gD mMO_constrain 144 (.iload 4) 2 146 := ⟨by decide +kernel, rfl⟩
theorem dMO_constrain_146 : gD mMO_constrain 146 (.iastore) 1 147 := ⟨by decide +kernel, rfl⟩
theorem dMO_constrain_147 : gD mMO_constrain 147 (.aload_n 0) 1 148 := ⟨by decide +kernel, rfl⟩
theorem dMO_constrain_148 : gD mMO_constrain 148 (.getfield 54) 3 151 := ⟨by decide +kernel, rfl⟩
theorem dMO_constrain_151 : gD mMO_constrain 151 (.iload 6) 2 153 := ⟨by decide +kernel, rfl⟩
theorem dMO_constrain_153 : gD mMO_constrain 153 (.iload 5) 2 155 := ⟨by decide +kernel, rfl⟩
theorem dMO_constrain_155 : gD mMO_constrain 155 (.iastore) 1 156 := ⟨by decide +kernel, rfl⟩
theorem dMO_constrain_156 : gD mMO_constrain 156 (.aload_n 0) 1 157 := ⟨by decide +kernel, rfl⟩
theorem dMO_constrain_157 : gD mMO_constrain 157 (.iconst (-1)) 1 158 := ⟨by decide +kernel, rfl⟩
theorem dMO_constrain_158 : gD mMO_constrain 158 (.iconst 0) 1 159 := ⟨by decide +kernel, rfl⟩
theorem dMO_constrain_159 : gD mMO_constrain 159 (.invokevirtual 162) 3 162 := ⟨by decide +kernel, rfl⟩
theorem dMO_constrain_162 : gB mMO_constrain 162 (.ifCond .ne 14) 14 176 165 := ⟨by decide +kernel, by decide, rfl⟩
theorem dMO_constrain_165 : gD mMO_constrain 165 (.aload_n 0) 1 166 := ⟨by decide +kernel, rfl⟩
theorem dMO_constrain_166 : gD mMO_constrain 166 (.getfield 39) 3 169 := ⟨by decide +kernel, rfl⟩
theorem dMO_constrain_169 : gD mMO_constrain 169 (.iload 6) 2 171 := ⟨by decide +kernel, rfl⟩
theorem dMO_constrain_171 : gD mMO_constrain 171 (.iconst 0) 1 172 := ⟨by decide +kernel, rfl⟩
theorem dMO_constrain_172 : gD mMO_constrain 172 (.bastore) 1 173 := ⟨by decide +kernel, rfl⟩
theorem dMO_constrain_173 : gD mMO_constrain 173 (.bipush (-3)) 2 175 := ⟨by decide +kernel, rfl⟩
theorem dMO_constrain_175 : decode mMO_constrain.2.1 175 = .ok (.ireturn, 1) := by decide +kernel
theorem dMO_constrain_176 : gD mMO_constrain 176 (.aload_n 0) 1 177 := ⟨by decide +kernel, rfl⟩
theorem dMO_constrain_177 : gD mMO_constrain 177 (.invokevirtual 93) 3 180 := ⟨by decide +kernel, rfl⟩
theorem dMO_constrain_180 : gD mMO_constrain 180 (.iload 6) 2 182 := ⟨by decide +kernel, rfl⟩
theorem dMO_constrain_182 : decode mMO_constrain.2.1 182 = .ok (.ireturn, 1) := by decide +kernel
theorem dMO_isConstraint_0 : gD mMO_isConstraint 0 (.iload_n 1) 1 1 := ⟨by decide +kernel, rfl⟩
theorem dMO_isConstraint_1 : gB mMO_isConstraint 1 (.ifCond .lt 22) 22 23 4 := ⟨by decide +kernel, by decide, rfl⟩
theorem dMO_isConstraint_4 : gD mMO_isConstraint 4 (.iload_n 1) 1 5 := ⟨by decide +kernel, rfl⟩
theorem dMO_isConstraint_5 : gD mMO_isConstraint 5 (.bipush 16) 2 7 := ⟨by decide +kernel, rfl⟩
theorem dMO_isConstraint_7 : gB mMO_isConstraint 7 (.if_icmp .ge 16) 16 23 10 := ⟨by decide +kernel, by decide, rfl⟩
theorem dMO_isConstraint_10 : gD mMO_isConstraint 10 (.aload_n 0) 1 11 := ⟨by decide +kernel, rfl⟩
theorem dMO_isConstraint_11 : gD mMO_isConstraint 11 (.getfield 39) 3 14 := ⟨by decide +kernel, rfl⟩
theorem dMO_isConstraint_14 : gD mMO_isConstraint 14 (.iload_n 1) 1 15 := ⟨by decide +kernel, rfl⟩
theorem dMO_isConstraint_15 : gD mMO_isConstraint 15 (.baload) 1 16 := ⟨by decide +kernel, rfl⟩
theorem dMO_isConstraint_16 : gB mMO_isConstraint 16 (.ifCond .eq 7) 7 23 19 := ⟨by decide +kernel, by decide, rfl⟩
theorem dMO_isConstraint_19 : gD mMO_isConstraint 19 (.iconst 1) 1 20 := ⟨by decide +kernel, rfl⟩
theorem dMO_isConstraint_20 : gB mMO_isConstraint 20 (.goto 4) 4 24 23 := ⟨by decide +kernel, by decide, rfl⟩
theorem dMO_isConstraint_23 : gD mMO_isConstraint 23 (.iconst 0) 1 24 := ⟨by decide +kernel, rfl⟩
theorem dMO_isConstraint_24 : decode mMO_isConstraint.2.1 24 = .ok (.ireturn, 1) := by decide +kernel
theorem dMO_remove_0 : gD mMO_remove 0 (.aload_n 0) 1 1 := ⟨by decide +kernel, rfl⟩
theorem dMO_remove_1 : gD mMO_remove 1 (.iload_n 1) 1 2 := ⟨by decide +kernel, rfl⟩
theorem dMO_remove_2 : gD mMO_remove 2 (.invokevirtual 166) 3 5 := ⟨by decide +kernel, rfl⟩
theorem dMO_remove_5 : gB mMO_remove 5 (.ifCond .ne 5) 5 10 8 := ⟨by decide +kernel, by decide, rfl⟩
theorem dMO_remove_8 : gD mMO_remove 8 (.iconst 0) 1 9 := ⟨by decide +kernel, rfl⟩
theorem dMO_remove_9 : decode mMO_remove.2.1 9 = .ok (.ireturn, 1) := by decide +kernel
theorem dMO_remove_10 : gD mMO_remove 10 (.aload_n 0) 1 11 := ⟨by decide +kernel, rfl⟩
theorem dMO_remove_11 : gD mMO_remove 11 (.getfield 39) 3 14 := ⟨by decide +kernel, rfl⟩
theorem dMO_remove_14 : gD mMO_remove 14 (.iload_n 1) 1 15 := ⟨by decide +kernel, rfl⟩
theorem dMO_remove_15 : gD mMO_remove 15 (.iconst 0) 1 16 := ⟨by decide +kernel, rfl⟩
theorem dMO_remove_16 : gD mMO_remove 16 (.bastore) 1 17 := ⟨by decide +kernel, rfl⟩
theorem dMO_remove_17 : gD mMO_remove 17 (.aload_n 0) 1 18 := ⟨by decide +kernel, rfl⟩
theorem dMO_remove_18 : gD mMO_remove 18 (.iconst (-1)) 1 19 := ⟨by decide +kernel, rfl⟩
theorem dMO_remove_19 : gD mMO_remove 19 (.iconst 0) 1 20 := ⟨by decide +kernel, rfl⟩
theorem dMO_remove_20 : gD mMO_remove 20 (.invokevirtual 162) 3 23 := ⟨by decide +kernel, rfl⟩
theorem dMO_remove_23 : gD mMO_remove 23 (.istore_n 2) 1 24 := ⟨by decide +kernel, rfl⟩
theorem dMO_remove_24 : gD mMO_remove 24 (.aload_n 0) 1 25 := ⟨by decide +kernel, rfl⟩
theorem dMO_remove_25 : gD mMO_remove 25 (.invokevirtual 93) 3 28 := ⟨by decide +kernel, rfl⟩
theorem dMO_remove_28 : gD mMO_remove 28 (.iload_n 2) 1 29 := ⟨by decide +kernel, rfl⟩
theorem dMO_remove_29 : decode mMO_remove.2.1 29 = .ok (.ireturn, 1) := by decide +kernel
theorem dMO_suggest_0 : gD mMO_suggest 0 (.aload_n 0) 1 1 := ⟨by decide +kernel, rfl⟩
theorem dMO_suggest_1 : gD mMO_suggest 1 (.iload_n 1) 1 2 := ⟨by decide +kernel, rfl⟩
theorem dMO_suggest_2 : gD mMO_suggest 2 (.invokevirtual 159) 3 5 := ⟨by decide +kernel, rfl⟩
theorem dMO_suggest_5 : gB mMO_suggest 5 (.ifCond .eq 15) 15 20 8 := ⟨by decide +kernel, by decide, rfl⟩
theorem dMO_suggest_8 : gD mMO_suggest 8 (.iload_n 2) 1 9 := ⟨by decide +kernel, rfl⟩
theorem dMO_suggest_9 : gD mMO_suggest 9 (.bipush (-99)) 2 11 := ⟨by decide +kernel, rfl⟩
theorem dMO_suggest_11 : gB mMO_suggest 11 (.if_icmp .lt 9) 9 20 14 := ⟨by decide +kernel, by decide, rfl⟩
theorem dMO_suggest_14 : gD mMO_suggest 14 (.iload_n 2) 1 15 := ⟨by decide +kernel, rfl⟩
theorem dMO_suggest_15 : gD mMO_suggest 15 (.bipush 99) 2 17 := ⟨by decide +kernel, rfl⟩
theorem dMO_suggest_17 : gB mMO_suggest 17 (.if_icmp .le 5) 5 22 20 := ⟨by decide +kernel, by decide, rfl⟩
theorem dMO_suggest_20 : gD mMO_suggest 20 (.iconst 0) 1 21 := ⟨by decide +kernel, rfl⟩
theorem dMO_suggest_21 : decode mMO_suggest.2.1 21 = .ok (.ireturn, 1) := by decide +kernel
theorem dMO_suggest_22 : gD mMO_suggest 22 (.aload_n 0) 1 23 := ⟨by decide +kernel, rfl⟩
theorem dMO_suggest_23 : gD mMO_suggest 23 (.iload_n 1) 1 24 := ⟨by decide +kernel, rfl⟩
theorem dMO_suggest_24 : gD mMO_suggest 24 (.iload_n 2) 1 25 := ⟨by decide +kernel, rfl⟩
theorem dMO_suggest_25 : gD mMO_suggest 25 (.invokevirtual 162) 3 28 := ⟨by decide +kernel, rfl⟩
theorem dMO_suggest_28 : gD mMO_suggest 28 (.istore_n 3) 1 29 := ⟨by decide +kernel, rfl⟩
theorem dMO_suggest_29 : gD mMO_suggest 29 (.aload_n 0) 1 30 := ⟨by decide +kernel, rfl⟩
theorem dMO_suggest_30 : gD mMO_suggest 30 (.invokevirtual 93) 3 33 := ⟨by decide +kernel, rfl⟩
theorem dMO_suggest_33 : gD mMO_suggest 33 (.iload_n 3) 1 34 := ⟨by decide +kernel, rfl⟩
theorem dMO_suggest_34 : decode mMO_suggest.2.1 34 = .ok (.ireturn, 1) := by decide +kernel
theorem dMO_resize_0 : gD mMO_resize 0 (.iload_n 1) 1 1 := ⟨by decide +kernel, rfl⟩
theorem dMO_resize_1 : gD mMO_resize 1 (.iconst 1) 1 2 := ⟨by decide +kernel, rfl⟩
theorem dMO_resize_2 : gB mMO_resize 2 (.if_icmp .lt 20) 20 22 5 := ⟨by decide +kernel, by decide, rfl⟩
theorem dMO_resize_5 : gD mMO_resize 5 (.iload_n 1) 1 6 := ⟨by decide +kernel, rfl⟩
theorem dMO_resize_6 : gD mMO_resize 6 (.bipush 24) 2 8 := ⟨by decide +kernel, rfl⟩
theorem dMO_resize_8 : gB mMO_resize 8 (.if_icmp .gt 14) 14 22 11 := ⟨by decide +kernel, by decide, rfl⟩
theorem dMO_resize_11 : gD mMO_resize 11 (.iload_n 2) 1 12 := ⟨by decide +kernel, rfl⟩
theorem dMO_resize_12 : gD mMO_resize 12 (.iconst 1) 1 13 := ⟨by decide +kernel, rfl⟩
theorem dMO_resize_13 : gB mMO_resize 13 (.if_icmp .lt 9) 9 22 16 := ⟨by decide +kernel, by decide, rfl⟩
theorem dMO_resize_16 : gD mMO_resize 16 (.iload_n 2) 1 17 := ⟨by decide +kernel, rfl⟩
theorem dMO_resize_17 : gD mMO_resize 17 (.bipush 16) 2 19 := ⟨by decide +kernel, rfl⟩
theorem dMO_resize_19 : gB mMO_resize 19 (.if_icmp .le 5) 5 24 22 := ⟨by decide +kernel, by decide, rfl⟩
theorem dMO_resize_22 : gD mMO_resize 22 (.iconst 0) 1 23 := ⟨by decide +kernel, rfl⟩
theorem dMO_resize_23 : decode mMO_resize.2.1 23 = .ok (.ireturn, 1) := by decide +kernel
theorem dMO_resize_24 : gD mMO_resize 24 (.aload_n 0) 1 25 := ⟨by decide +kernel, rfl⟩
theorem dMO_resize_25 : gD mMO_resize 25 (.getfield 87) 3 28 := ⟨by decide +kernel, rfl⟩
theorem dMO_resize_28 : gD mMO_resize 28 (.istore_n 3) 1 29 := ⟨by decide +kernel, rfl⟩
theorem dMO_resize_29 : gD mMO_resize 29 (.aload_n 0) 1 30 := ⟨by decide +kernel, rfl⟩
theorem dMO_resize_30 : gD mMO_resize 30 (.getfield 90) 3 33 := ⟨by decide +kernel, rfl⟩
theorem dMO_resize_33 : gD mMO_resize 33 (.istore 4) 2 35 := ⟨by decide +kernel, rfl⟩
theorem dMO_resize_35 : gD mMO_resize 35 (.aload_n 0) 1 36 := ⟨by decide +kernel, rfl⟩
theorem dMO_resize_36 : gD mMO_resize 36 (.iload_n 1) 1 37 := ⟨by decide +kernel, rfl⟩
theorem dMO_resize_37 : gD mMO_resize 37 (.putfield 87) 3 40 := ⟨by decide +kernel, rfl⟩
theorem dMO_resize_40 : gD mMO_resize 40 (.aload_n 0) 1 41 := ⟨by decide +kernel, rfl⟩
theorem dMO_resize_41 : gD mMO_resize 41 (.iload_n 2) 1 42 := ⟨by decide +kernel, rfl⟩
theorem dMO_resize_42 : gD mMO_resize 42 (.putfield 90) 3 45 := ⟨by decide +kernel, rfl⟩
theorem dMO_resize_45 : gD mMO_resize 45 (.aload_n 0) 1 46 := ⟨by decide +kernel, rfl⟩
theorem dMO_resize_46 : gD mMO_resize 46 (.iconst (-1)) 1 47 := ⟨by decide +kernel, rfl⟩
theorem dMO_resize_47 : gD mMO_resize 47 (.iconst 0) 1 48 := ⟨by decide +kernel, rfl⟩
theorem dMO_resize_48 : gD mMO_resize 48 (.invokevirtual 162) 3 51 := ⟨by decide +kernel, rfl⟩
theorem dMO_resize_51 : gD mMO_resize 51 (.istore 5) 2 53 := ⟨by decide +kernel, rfl⟩
theorem dMO_resize_53 : gD mMO_resize 53 (.iload 5) 2 55 := ⟨by decide +kernel, rfl⟩
theorem dMO_resize_55 : gB mMO_resize 55 (.ifCond .ne 14) 14 69 58 := ⟨by decide +kernel, by decide, rfl⟩
theorem dMO_resize_58 : gD mMO_resize 58 (.aload_n 0) 1 59 := ⟨by decide +kernel, rfl⟩
theorem dMO_resize_59 : gD mMO_resize 59 (.iload_n 3) 1 60 := ⟨by decide +kernel, rfl⟩
theorem dMO_resize_60 : gD mMO_resize 60 (.putfield 87) 3 63 := ⟨by decide +kernel, rfl⟩
theorem dMO_resize_63 : gD mMO_resize 63 (.aload_n 0) 1 64 := ⟨by decide +kernel, rfl⟩
theorem dMO_resize_64 : gD mMO_resize 64 (.iload 4) 2 66 := ⟨by decide +kernel, rfl⟩
theorem dMO_resize_66 : gD mMO_resize 66 (.putfield 90) 3 69 := ⟨by decide +kernel, rfl⟩
theorem dMO_resize_69 : gD mMO_resize 69 (.aload_n 0) 1 70 := ⟨by decide +kernel, rfl⟩
theorem dMO_resize_70 : gD mMO_resize 70 (.invokevirtual 93) 3 73 := ⟨by decide +kernel, rfl⟩
theorem dMO_resize_73 : gD mMO_resize 73 (.iload 5) 2 75 := ⟨by decide +kernel, rfl⟩
theorem dMO_resize_75 : decode mMO_resize.2.1 75 = .ok (.ireturn, 1) := by decide +kernel
theorem dMO_place_0 : gD mMO_place 0 (.aload_n 0) 1 1 := ⟨by decide +kernel, rfl⟩
theorem dMO_place_1 : gD mMO_place 1 (.iload_n 1) 1 2 := ⟨by decide +kernel, rfl⟩
theorem dMO_place_2 : gD mMO_place 2 (.invokevirtual 159) 3 5 := ⟨by decide +kernel, rfl⟩
theorem dMO_place_5 : gB mMO_place 5 (.ifCond .eq 12) 12 17 8 := ⟨by decide +kernel, by decide, rfl⟩
theorem dMO_place_8 : gD mMO_place 8 (.aload_n 0) 1 9 := ⟨by decide +kernel, rfl⟩
theorem dMO_place_9 : gD mMO_place 9 (.getfield 33) 3 12 := ⟨by decide +kernel, rfl⟩
theorem dMO_place_12 : gD mMO_place 12 (.iload_n 1) 1 13 := ⟨by decide +kernel, rfl⟩
theorem dMO_place_13 : gD mMO_place 13 (.iaload) 1 14 := ⟨by decide +kernel, rfl⟩
theorem dMO_place_14 : gB mMO_place 14 (.goto 4) 4 18 17 := ⟨by decide +kernel, by decide, rfl⟩
theorem dMO_place_17 : gD mMO_place 17 (.iconst 0) 1 18 := ⟨by decide +kernel, rfl⟩
theorem dMO_place_18 : decode mMO_place.2.1 18 = .ok (.ireturn, 1) := by decide +kernel
theorem dMO_error_0 : gD mMO_error 0 (.aload_n 0) 1 1 := ⟨by decide +kernel, rfl⟩
theorem dMO_error_1 : gD mMO_error 1 (.iload_n 1) 1 2 := ⟨by decide +kernel, rfl⟩
theorem dMO_error_2 : gD mMO_error 2 (.invokevirtual 166) 3 5 := ⟨by decide +kernel, rfl⟩
theorem dMO_error_5 : gB mMO_error 5 (.ifCond .ne 5) 5 10 8 := ⟨by decide +kernel, by decide, rfl⟩
theorem dMO_error_8 : gD mMO_error 8 (.iconst (-1)) 1 9 := ⟨by decide +kernel, rfl⟩
theorem dMO_error_9 : decode mMO_error.2.1 9 = .ok (.ireturn, 1) := by decide +kernel
theorem dMO_error_10 : gD mMO_error 10 (.aload_n 0) 1 11 := ⟨by decide +kernel, rfl⟩
theorem dMO_error_11 : gD mMO_error 11 (.getfield 33) 3 14 := ⟨by decide +kernel, rfl⟩
theorem dMO_error_14 : gD mMO_error 14 (.aload_n 0) 1 15 := ⟨by decide +kernel, rfl⟩
theorem dMO_error_15 : gD mMO_error 15 (.getfield 42) 3 18 := ⟨by decide +kernel, rfl⟩
theorem dMO_error_18 : gD mMO_error 18 (.iload_n 1) 1 19 := ⟨by decide +kernel, rfl⟩
theorem dMO_error_19 : gD mMO_error 19 (.iaload) 1 20 := ⟨by decide +kernel, rfl⟩
theorem dMO_error_20 : gD mMO_error 20 (.iaload) 1 21 := ⟨by decide +kernel, rfl⟩
theorem dMO_error_21 : gD mMO_error 21 (.aload_n 0) 1 22 := ⟨by decide +kernel, rfl⟩
theorem dMO_error_22 : gD mMO_error 22 (.getfield 33) 3 25 := ⟨by decide +kernel, rfl⟩
theorem dMO_error_25 : gD mMO_error 25 (.aload_n 0) 1 26 := ⟨by decide +kernel, rfl⟩
theorem dMO_error_26 : gD mMO_error 26 (.getfield 45) 3 29 := ⟨by decide +kernel, rfl⟩
theorem dMO_error_29 : gD mMO_error 29 (.iload_n 1) 1 30 := ⟨by decide +kernel, rfl⟩
theorem dMO_error_30 : gD mMO_error 30 (.iaload) 1 31 := ⟨by decide +kernel, rfl⟩
theorem dMO_error_31 : gD mMO_error 31 (.iaload) 1 32 := ⟨by decide +kernel, rfl⟩
theorem dMO_error_32 : gD mMO_error 32 (.isub) 1 33 := ⟨by decide +kernel, rfl⟩
theorem dMO_error_33 : gD mMO_error 33 (.aload_n 0) 1 34 := ⟨by decide +kernel, rfl⟩
theorem dMO_error_34 : gD mMO_error 34 (.getfield 48) 3 37 := ⟨by decide +kernel, rfl⟩
theorem dMO_error_37 : gD mMO_error 37 (.iload_n 1) 1 38 := ⟨by decide +kernel, rfl⟩
theorem dMO_error_38 : gD mMO_error 38 (.iaload) 1 39 := ⟨by decide +kernel, rfl⟩
theorem dMO_error_39 : gD mMO_error 39 (.isub) 1 40 := ⟨by decide +kernel, rfl⟩
theorem dMO_error_40 : gD mMO_error 40 (.istore_n 2) 1 41 := ⟨by decide +kernel, rfl⟩
theorem dMO_error_41 : gD mMO_error 41 (.iload_n 2) 1 42 := ⟨by decide +kernel, rfl⟩
theorem dMO_error_42 : gB mMO_error 42 (.ifCond .ge 6) 6 48 45 := ⟨by decide +kernel, by decide, rfl⟩
theorem dMO_error_45 : gD mMO_error 45 (.iload_n 2) 1 46 := ⟨by decide +kernel, rfl⟩
theorem dMO_error_46 : gD mMO_error 46 (.ineg) 1 47 := ⟨by decide +kernel, rfl⟩
theorem dMO_error_47 : decode mMO_error.2.1 47 = .ok (.ireturn, 1) := by decide +kernel
theorem dMO_error_48 : gD mMO_error 48 (.aload_n 0) 1 49 := ⟨by decide +kernel, rfl⟩
theorem dMO_error_49 : gD mMO_error 49 (.getfield 51) 3 52 := ⟨by decide +kernel, rfl⟩
theorem dMO_error_52 : gD mMO_error 52 (.iload_n 1) 1 53 := ⟨by decide +kernel, rfl⟩
theorem dMO_error_53 : gD mMO_error 53 (.iaload) 1 54 := ⟨by decide +kernel, rfl⟩
theorem dMO_error_54 : gB mMO_error 54 (.ifCond .ne 7) 7 61 57 := ⟨by decide +kernel, by decide, rfl⟩
theorem dMO_error_57 : gD mMO_error 57 (.iload_n 2) 1 58 := ⟨by decide +kernel, rfl⟩
theorem dMO_error_58 : gB mMO_error 58 (.goto 4) 4 62 61 := ⟨by decide +kernel, by decide, rfl⟩
theorem dMO_error_61 : gD mMO_error 61 (.iconst 0) 1 62 := ⟨by decide +kernel, rfl⟩
theorem dMO_error_62 : decode mMO_error.2.1 62 = .ok (.ireturn, 1) := by decide +kernel
theorem dMO_hide_0 : gD mMO_hide 0 (.aload_n 0) 1 1 := ⟨by decide +kernel, rfl⟩
theorem dMO_hide_1 : gD mMO_hide 1 (.iload_n 1) 1 2 := ⟨by decide +kernel, rfl⟩
theorem dMO_hide_2 : gD mMO_hide 2 (.invokevirtual 153) 3 5 := ⟨by decide +kernel, rfl⟩
theorem dMO_hide_5 : gB mMO_hide 5 (.ifCond .eq 7) 7 12 8 := ⟨by decide +kernel, by decide, rfl⟩
theorem dMO_hide_8 : gD mMO_hide 8 (.iload_n 1) 1 9 := ⟨by decide +kernel, rfl⟩
theorem dMO_hide_9 : gB mMO_hide 9 (.ifCond .ne 5) 5 14 12 := ⟨by decide +kernel, by decide, rfl⟩
theorem dMO_hide_12 : gD mMO_hide 12 (.iconst 0) 1 13 := ⟨by decide +kernel, rfl⟩
theorem dMO_hide_13 : decode mMO_hide.2.1 13 = .ok (.ireturn, 1) := by decide +kernel
theorem dMO_hide_14 : gD mMO_hide 14 (.aload_n 0) 1 15 := ⟨by decide +kernel, rfl⟩
theorem dMO_hide_15 : gD mMO_hide 15 (.getfield 20) 3 18 := ⟨by decide +kernel, rfl⟩
theorem dMO_hide_18 : gD mMO_hide 18 (.iload_n 1) 1 19 := ⟨by decide +kernel, rfl⟩
theorem dMO_hide_19 : gD mMO_hide 19 (.baload) 1 20 := ⟨by decide +kernel, rfl⟩
theorem dMO_hide_20 : gD mMO_hide 20 (.iload_n 2) 1 21 := ⟨by decide +kernel, rfl⟩
theorem dMO_hide_21 : gB mMO_hide 21 (.if_icmp .ne 5) 5 26 24 := ⟨by decide +kernel, by decide, rfl⟩
theorem dMO_hide_24 : gD mMO_hide 24 (.iconst 0) 1 25 := ⟨by decide +kernel, rfl⟩
theorem dMO_hide_25 : decode mMO_hide.2.1 25 = .ok (.ireturn, 1) := by decide +kernel
theorem dMO_hide_26 : gD mMO_hide 26 (.aload_n 0) 1 27 := ⟨by decide +kernel, rfl⟩
theorem dMO_hide_27 : gD mMO_hide 27 (.getfield 20) 3 30 := ⟨by decide +kernel, rfl⟩
theorem dMO_hide_30 : gD mMO_hide 30 (.iload_n 1) 1 31 := ⟨by decide +kernel, rfl⟩
theorem dMO_hide_31 : gD mMO_hide 31 (.iload_n 2) 1 32 := ⟨by decide +kernel, rfl⟩
theorem dMO_hide_32 : gD mMO_hide 32 (.bastore) 1 33 := ⟨by decide +kernel, rfl⟩
theorem dMO_hide_33 : gD mMO_hide 33 (.aload_n 0) 1 34 := ⟨by decide +kernel, rfl⟩
theorem dMO_hide_34 : gD mMO_hide 34 (.invokevirtual 93) 3 37 := ⟨by decide +kernel, rfl⟩
theorem dMO_hide_37 : gD mMO_hide 37 (.iconst 1) 1 38 := ⟨by decide +kernel, rfl⟩
theorem dMO_hide_38 : decode mMO_hide.2.1 38 = .ok (.ireturn, 1) := by decide +kernel
theorem dMO_isLast_0 : gD mMO_isLast 0 (.iconst 1) 1 1 := ⟨by decide +kernel, rfl⟩
theorem dMO_isLast_1 : gD mMO_isLast 1 (.istore_n 2) 1 2 := ⟨by decide +kernel, rfl⟩
theorem dMO_isLast_2 : gD mMO_isLast 2 (.iconst 1) 1 3 := ⟨by decide +kernel, rfl⟩
theorem dMO_isLast_3 : gD mMO_isLast 3 (.istore_n 3) 1 4 := ⟨by decide +kernel, rfl⟩
theorem dMO_isLast_4 : gD mMO_isLast 4 (.iload_n 3) 1 5 := ⟨by decide +kernel, rfl⟩
theorem dMO_isLast_5 : gD mMO_isLast 5 (.aload_n 0) 1 6 := ⟨by decide +kernel, rfl⟩
theorem dMO_isLast_6 : gD mMO_isLast 6 (.getfield 7) 3 9 := ⟨by decide +kernel, rfl⟩
theorem dMO_isLast_9 : gB mMO_isLast 9 (.if_icmp .ge 41) 41 50 12 := ⟨by decide +kernel, by decide, rfl⟩
theorem dMO_isLast_12 : gD mMO_isLast 12 (.aload_n 0) 1 13 := ⟨by decide +kernel, rfl⟩
theorem dMO_isLast_13 : gD mMO_isLast 13 (.getfield 17) 3 16 := ⟨by decide +kernel, rfl⟩
theorem dMO_isLast_16 : gD mMO_isLast 16 (.iload_n 3) 1 17 := ⟨by decide +kernel, rfl⟩
theorem dMO_isLast_17 : gD mMO_isLast 17 (.iaload) 1 18 := ⟨by decide +kernel, rfl⟩
theorem dMO_isLast_18 : gD mMO_isLast 18 (.aload_n 0) 1 19 := ⟨by decide +kernel, rfl⟩
theorem dMO_isLast_19 : gD mMO_isLast 19 (.getfield 17) 3 22 := ⟨by decide +kernel, rfl⟩
theorem dMO_isLast_22 : gD mMO_isLast 22 (.iload_n 1) 1 23 := ⟨by decide +kernel, rfl⟩
theorem dMO_isLast_23 : gD mMO_isLast 23 (.iaload) 1 24 := ⟨by decide +kernel, rfl⟩
theorem dMO_isLast_24 : gB mMO_isLast 24 (.if_icmp .ne 20) 20 44 27 := ⟨by decide +kernel, by decide, rfl⟩
theorem dMO_isLast_27 : gD mMO_isLast 27 (.aload_n 0) 1 28 := ⟨by decide +kernel, rfl⟩
theorem dMO_isLast_28 : gD mMO_isLast 28 (.getfield 30) 3 31 := ⟨by decide +kernel, rfl⟩
theorem dMO_isLast_31 : gD mMO_isLast 31 (.iload_n 3) 1 32 := ⟨by decide +kernel, rfl⟩
theorem dMO_isLast_32 : gD mMO_isLast 32 (.iaload) 1 33 := ⟨by decide +kernel, rfl⟩
theorem dMO_isLast_33 : gD mMO_isLast 33 (.aload_n 0) 1 34 := ⟨by decide +kernel, rfl⟩
theorem dMO_isLast_34 : gD mMO_isLast 34 (.getfield 30) 3 37 := ⟨by decide +kernel, rfl⟩
theorem dMO_isLast_37 : gD mMO_isLast 37 (.iload_n 1) 1 38 := ⟨by decide +kernel, rfl⟩
theorem dMO_isLast_38 : gD mMO_isLast 38 (.iaload) 1 39 := ⟨by decide +kernel, rfl⟩
theorem dMO_isLast_39 : gB mMO_isLast 39 (.if_icmp .le 5) 5 44 42 := ⟨by decide +kernel, by decide, rfl⟩
theorem dMO_isLast_42 : gD mMO_isLast 42 (.iconst 0) 1 43 := ⟨by decide +kernel, rfl⟩
theorem dMO_isLast_43 : gD mMO_isLast 43 (.istore_n 2) 1 44 := ⟨by decide +kernel, rfl⟩
theorem dMO_isLast_44 : gD mMO_isLast 44 (.iinc 3 1) 3 47 := ⟨by decide +kernel, rfl⟩
theorem dMO_isLast_47 : gB mMO_isLast 47 (.goto (-43)) (-43) 4 50 := ⟨by decide +kernel, by decide, rfl⟩
theorem dMO_isLast_50 : gD mMO_isLast 50 (.iload_n 2) 1 51 := ⟨by decide +kernel, rfl⟩
theorem dMO_isLast_51 : decode mMO_isLast.2.1 51 = .ok (.ireturn, 1) := by decide +kernel
theorem dMO_raise_0 : gD mMO_raise 0 (.aload_n 0) 1 1 := ⟨by decide +kernel, rfl⟩
theorem dMO_raise_1 : gD mMO_raise 1 (.iload_n 1) 1 2 := ⟨by decide +kernel, rfl⟩
theorem dMO_raise_2 : gD mMO_raise 2 (.invokevirtual 153) 3 5 := ⟨by decide +kernel, rfl⟩
theorem dMO_raise_5 : gB mMO_raise 5 (.ifCond .eq 7) 7 12 8 := ⟨by decide +kernel, by decide, rfl⟩
theorem dMO_raise_8 : gD mMO_raise 8 (.iload_n 1) 1 9 := ⟨by decide +kernel, rfl⟩
theorem dMO_raise_9 : gB mMO_raise 9 (.ifCond .ne 5) 5 14 12 := ⟨by decide +kernel, by decide, rfl⟩
theorem dMO_raise_12 : gD mMO_raise 12 (.iconst 0) 1 13 := ⟨by decide +kernel, rfl⟩
theorem dMO_raise_13 : decode mMO_raise.2.1 13 = .ok (.ireturn, 1) := by decide +kernel
theorem dMO_raise_14 : gD mMO_raise 14 (.aload_n 0) 1 15 := ⟨by decide +kernel, rfl⟩
theorem dMO_raise_15 : gD mMO_raise 15 (.iload_n 1) 1 16 := ⟨by decide +kernel, rfl⟩
theorem dMO_raise_16 : gD mMO_raise 16 (.invokevirtual 169) 3 19 := ⟨by decide +kernel, rfl⟩
theorem dMO_raise_19 : gB mMO_raise 19 (.ifCond .eq 5) 5 24 22 := ⟨by decide +kernel, by decide, rfl⟩
theorem dMO_raise_22 : gD mMO_raise 22 (.iconst 0) 1 23 := ⟨by decide +kernel, rfl⟩
theorem dMO_raise_23 : decode mMO_raise.2.1 23 = .ok (.ireturn, 1) := by decide +kernel
theorem dMO_raise_24 : gD mMO_raise 24 (.aload_n 0) 1 25 := ⟨by decide +kernel, rfl⟩
theorem dMO_raise_25 : gD mMO_raise 25 (.dup) 1 26 := ⟨by decide +kernel, rfl⟩
theorem dMO_raise_26 : gD mMO_raise 26 (.getfield 156) 3 29 := ⟨by decide +kernel, rfl⟩
theorem dMO_raise_29 : gD mMO_raise 29 (.iconst 1) 1 30 := ⟨by decide +kernel, rfl⟩
theorem dMO_raise_30 : gD mMO_raise 30 (.iadd) 1 31 := ⟨by decide +kernel, rfl⟩
theorem dMO_raise_31 : gD mMO_raise 31 (.putfield 156) 3 34 := ⟨by decide +kernel, rfl⟩
theorem dMO_raise_34 : gD mMO_raise 34 (.aload_n 0) 1 35 := ⟨by decide +kernel, rfl⟩
theorem dMO_raise_35 : gD mMO_raise 35 (.getfield 30) 3 38 := ⟨by decide +kernel, rfl⟩
theorem dMO_raise_38 : gD mMO_raise 38 (.iload_n 1) 1 39 := ⟨by decide +kernel, rfl⟩
theorem dMO_raise_39 : gD mMO_raise 39 (.aload_n 0) 1 40 := ⟨by decide +kernel, rfl⟩
theorem dMO_raise_40 : gD mMO_raise 40 (.getfield 156) 3 43 := ⟨by decide +kernel, rfl⟩
theorem dMO_raise_43 : gD mMO_raise 43 (.iastore) 1 44 := ⟨by decide +kernel, rfl⟩
theorem dMO_raise_44 : gD mMO_raise 44 (.iconst 0) 1 45 := ⟨by decide +kernel, rfl⟩
theorem dMO_raise_45 : gD mMO_raise 45 (.istore_n 2) 1 46 := ⟨by decide +kernel, rfl⟩
theorem dMO_raise_46 : gD mMO_raise 46 (.iload_n 2) 1 47 := ⟨by decide +kernel, rfl⟩
theorem dMO_raise_47 : gD mMO_raise 47 (.sipush 384) 3 50 := ⟨by decide +kernel, rfl⟩
theorem dMO_raise_50 : gB mMO_raise 50 (.if_icmp .ge 45) 45 95 53 := ⟨by decide +kernel, by decide, rfl⟩
theorem dMO_raise_53 : gD mMO_raise 53 (.aload_n 0) 1 54 := ⟨by decide +kernel, rfl⟩
theorem dMO_raise_54 : gD mMO_raise 54 (.getfield 81) 3 57 := ⟨by decide +kernel, rfl⟩
theorem dMO_raise_57 : gD mMO_raise 57 (.iload_n 2) 1 58 := ⟨by decide +kernel, rfl⟩
theorem dMO_raise_58 : gD mMO_raise 58 (.aload_n 0) 1 59 := ⟨by decide +kernel, rfl⟩
theorem dMO_raise_59 : gD mMO_raise 59 (.getfield 81) 3 62 := ⟨by decide +kernel, rfl⟩
theorem dMO_raise_62 : gD mMO_raise 62 (.iload_n 2) 1 63 := ⟨by decide +kernel, rfl⟩
theorem dMO_raise_63 : gD mMO_raise 63 (.baload) 1 64 := ⟨by decide +kernel, rfl⟩
theorem dMO_raise_64 : gB mMO_raise 64 (.ifCond .ne 19) 19 83 67 := ⟨by decide +kernel, by decide, rfl⟩
theorem dMO_raise_67 : gD mMO_raise 67 (.aload_n 0) 1 68 := ⟨by decide +kernel, rfl⟩
theorem dMO_raise_68 : gD mMO_raise 68 (.iload_n 1) 1 69 := ⟨by decide +kernel, rfl⟩
theorem dMO_raise_69 : gD mMO_raise 69 (.iload_n 2) 1 70 := ⟨by decide +kernel, rfl⟩
theorem dMO_raise_70 : gD mMO_raise 70 (.bipush 24) 2 72 := ⟨by decide +kernel, rfl⟩
theorem dMO_raise_72 : gD mMO_raise 72 (.irem) 1 73 := ⟨by decide +kernel, rfl⟩
theorem dMO_raise_73 : gD mMO_raise 73 (.iload_n 2) 1 74 := ⟨by decide +kernel, rfl⟩
theorem dMO_raise_74 : gD mMO_raise 74 (.bipush 24) 2 76 := ⟨by decide +kernel, rfl⟩
theorem dMO_raise_76 : gD mMO_raise 76 (.idiv) 1 77 := ⟨by decide +kernel, rfl⟩
theorem dMO_raise_77 : gD mMO_raise 77 (.invokevirtual 100) 3 80 := ⟨by decide +kernel, rfl⟩
theorem dMO_raise_80 : gB mMO_raise 80 (.ifCond .eq 7) 7 87 83 := ⟨by decide +kernel, by decide, rfl⟩
theorem dMO_raise_83 : gD mMO_raise 83 (.iconst 1) 1 84 := ⟨by decide +kernel, rfl⟩
theorem dMO_raise_84 : gB mMO_raise 84 (.goto 4) 4 88 87 := ⟨by decide +kernel, by decide, rfl⟩
theorem dMO_raise_87 : gD mMO_raise 87 (.iconst 0) 1 88 := ⟨by decide +kernel, rfl⟩
theorem dMO_raise_88 : gD mMO_raise 88 (.bastore) 1 89 := ⟨by decide +kernel, rfl⟩
theorem dMO_raise_89 : gD mMO_raise 89 (.iinc 2 1) 3 92 := ⟨by decide +kernel, rfl⟩
theorem dMO_raise_92 : gB mMO_raise 92 (.goto (-46)) (-46) 46 95 := ⟨by decide +kernel, by decide, rfl⟩
theorem dMO_raise_95 : gD mMO_raise 95 (.iconst 1) 1 96 := ⟨by decide +kernel, rfl⟩
theorem dMO_raise_96 : decode mMO_raise.2.1 96 = .ok (.ireturn, 1) := by decide +kernel
theorem dMO_inFront_0 : gD mMO_inFront 0 (.iload_n 1) 1 1 := ⟨by decide +kernel, rfl⟩
theorem dMO_inFront_1 : gD mMO_inFront 1 (.istore_n 3) 1 2 := ⟨by decide +kernel, rfl⟩
theorem dMO_inFront_2 : gD mMO_inFront 2 (.iconst 0) 1 3 := ⟨by decide +kernel, rfl⟩
theorem dMO_inFront_3 : gD mMO_inFront 3 (.istore 4) 2 5 := ⟨by decide +kernel, rfl⟩
theorem dMO_inFront_5 : gD mMO_inFront 5 (.iload 4) 2 7 := ⟨by decide +kernel, rfl⟩
theorem dMO_inFront_7 : gD mMO_inFront 7 (.bipush 6) 2 9 := ⟨by decide +kernel, rfl⟩
theorem dMO_inFront_9 : gB mMO_inFront 9 (.if_icmp .ge 114) 114 123 12 := ⟨by decide +kernel, by decide, rfl⟩
theorem dMO_inFront_12 : gD mMO_inFront 12 (.iload_n 3) 1 13 := ⟨by decide +kernel, rfl⟩
theorem dMO_inFront_13 : gB mMO_inFront 13 (.ifCond .lt 110) 110 123 16 := ⟨by decide +kernel, by decide, rfl⟩
theorem dMO_inFront_16 : gD mMO_inFront 16 (.iload_n 2) 1 17 := ⟨by decide +kernel, rfl⟩
theorem dMO_inFront_17 : gD mMO_inFront 17 (.istore 5) 2 19 := ⟨by decide +kernel, rfl⟩
theorem dMO_inFront_19 : gD mMO_inFront 19 (.iconst 0) 1 20 := ⟨by decide +kernel, rfl⟩
theorem dMO_inFront_20 : gD mMO_inFront 20 (.istore 6) 2 22 := ⟨by decide +kernel, rfl⟩
theorem dMO_inFront_22 : gD mMO_inFront 22 (.iload 6) 2 24 := ⟨by decide +kernel, rfl⟩
theorem dMO_inFront_24 : gD mMO_inFront 24 (.bipush 6) 2 26 := ⟨by decide +kernel, rfl⟩
theorem dMO_inFront_26 : gB mMO_inFront 26 (.if_icmp .ge 84) 84 110 29 := ⟨by decide +kernel, by decide, rfl⟩
theorem dMO_inFront_29 : gD mMO_inFront 29 (.iload 5) 2 31 := ⟨by decide +kernel, rfl⟩
theorem dMO_inFront_31 : gB mMO_inFront 31 (.ifCond .lt 79) 79 110 34 := ⟨by decide +kernel, by decide, rfl⟩
theorem dMO_inFront_34 : gD mMO_inFront 34 (.iload_n 3) 1 35 := ⟨by decide +kernel, rfl⟩
theorem dMO_inFront_35 : gD mMO_inFront 35 (.iload 5) 2 37 := ⟨by decide +kernel, rfl⟩
theorem dMO_inFront_37 : gB mMO_inFront 37 (.if_icmp .ne 20) 20 57 40 := ⟨by decide +kernel, by decide, rfl⟩
theorem dMO_inFront_40 : gD mMO_inFront 40 (.iload 5) 2 42 := ⟨by decide +kernel, rfl⟩
theorem dMO_inFront_42 : gD mMO_inFront 42 (.iload_n 2) 1 43 := ⟨by decide +kernel, rfl⟩
theorem dMO_inFront_43 : gB mMO_inFront 43 (.if_icmp .ne 12) 12 55 46 := ⟨by decide +kernel, by decide, rfl⟩
theorem dMO_inFront_46 : gD mMO_inFront 46 (.iload_n 1) 1 47 := ⟨by decide +kernel, rfl⟩
theorem dMO_inFront_47 : gD mMO_inFront 47 (.iload_n 2) 1 48 := ⟨by decide +kernel, rfl⟩
theorem dMO_inFront_48 : gB mMO_inFront 48 (.if_icmp .eq 7) 7 55 51 := ⟨by decide +kernel, by decide, rfl⟩
theorem dMO_inFront_51 : gD mMO_inFront 51 (.iconst 1) 1 52 := ⟨by decide +kernel, rfl⟩
theorem dMO_inFront_52 : gB mMO_inFront 52 (.goto 4) 4 56 55 := ⟨by decide +kernel, by decide, rfl⟩
theorem dMO_inFront_55 : gD mMO_inFront 55 (.iconst 0) 1 56 := ⟨by decide +kernel, rfl⟩
theorem dMO_inFront_56 : decode mMO_inFront.2.1 56 = .ok (.ireturn, 1) := by decide +kernel
theorem dMO_inFront_57 : gD mMO_inFront 57 (.aload_n 0) 1 58 := ⟨by decide +kernel, rfl⟩
theorem dMO_inFront_58 : gD mMO_inFront 58 (.getfield 17) 3 61 := ⟨by decide +kernel, rfl⟩
theorem dMO_inFront_61 : gD mMO_inFront 61 (.iload_n 3) 1 62 := ⟨by decide +kernel, rfl⟩
theorem dMO_inFront_62 : gD mMO_inFront 62 (.iaload) 1 63 := ⟨by decide +kernel, rfl⟩
theorem dMO_inFront_63 : gD mMO_inFront 63 (.aload_n 0) 1 64 := ⟨by decide +kernel, rfl⟩
theorem dMO_inFront_64 : gD mMO_inFront 64 (.getfield 17) 3 67 := ⟨by decide +kernel, rfl⟩
theorem dMO_inFront_67 : gD mMO_inFront 67 (.iload 5) 2 69 := ⟨by decide +kernel, rfl⟩
theorem dMO_inFront_69 : gD mMO_inFront 69 (.iaload) 1 70 := ⟨by decide +kernel, rfl⟩
theorem dMO_inFront_70 : gB mMO_inFront 70 (.if_icmp .ne 25) 25 95 73 := ⟨by decide +kernel, by decide, rfl⟩
theorem dMO_inFront_73 : gD mMO_inFront 73 (.aload_n 0) 1 74 := ⟨by decide +kernel, rfl⟩
theorem dMO_inFront_74 : gD mMO_inFront 74 (.getfield 30) 3 77 := ⟨by decide +kernel, rfl⟩
theorem dMO_inFront_77 : gD mMO_inFront 77 (.iload_n 3) 1 78 := ⟨by decide +kernel, rfl⟩
theorem dMO_inFront_78 : gD mMO_inFront 78 (.iaload) 1 79 := ⟨by decide +kernel, rfl⟩
theorem dMO_inFront_79 : gD mMO_inFront 79 (.aload_n 0) 1 80 := ⟨by decide +kernel, rfl⟩
theorem dMO_inFront_80 : gD mMO_inFront 80 (.getfield 30) 3 83 := ⟨by decide +kernel, rfl⟩
theorem dMO_inFront_83 : gD mMO_inFront 83 (.iload 5) 2 85 := ⟨by decide +kernel, rfl⟩
theorem dMO_inFront_85 : gD mMO_inFront 85 (.iaload) 1 86 := ⟨by decide +kernel, rfl⟩
theorem dMO_inFront_86 : gB mMO_inFront 86 (.if_icmp .le 7) 7 93 89 := ⟨by decide +kernel, by decide, rfl⟩
theorem dMO_inFront_89 : gD mMO_inFront 89 (.iconst 1) 1 90 := ⟨by decide +kernel, rfl⟩
theorem dMO_inFront_90 : gB mMO_inFront 90 (.goto 4) 4 94 93 := ⟨by decide +kernel, by decide, rfl⟩
theorem dMO_inFront_93 : gD mMO_inFront 93 (.iconst 0) 1 94 := ⟨by decide +kernel, rfl⟩
theorem dMO_inFront_94 : decode mMO_inFront.2.1 94 = .ok (.ireturn, 1) := by decide +kernel
theorem dMO_inFront_95 : gD mMO_inFront 95 (.aload_n 0) 1 96 := ⟨by decide +kernel, rfl⟩
theorem dMO_inFront_96 : gD mMO_inFront 96 (.getfield 17) 3 99 := ⟨by decide +kernel, rfl⟩
theorem dMO_inFront_99 : gD mMO_inFront 99 (.iload 5) 2 101 := ⟨by decide +kernel, rfl⟩
theorem dMO_inFront_101 : gD mMO_inFront 101 (.iaload) 1 102 := ⟨by decide +kernel, rfl⟩
theorem dMO_inFront_102 : gD mMO_inFront 102 (.istore 5) 2 104 := ⟨by decide +kernel, rfl⟩
theorem dMO_inFront_104 : gD mMO_inFront 104 (.iinc 6 1) 3 107 := ⟨by decide +kernel, rfl⟩
theorem dMO_inFront_107 : gB mMO_inFront 107 (.goto (-85)) (-85) 22 110 := ⟨by decide +kernel, by decide, rfl⟩
theorem dMO_inFront_110 : gD mMO_inFront 110 (.aload_n 0) 1 111 := ⟨by decide +kernel, rfl⟩
theorem dMO_inFront_111 : gD mMO_inFront 111 (.getfield 17) 3 114 := ⟨by decide +kernel, rfl⟩
theorem dMO_inFront_114 : gD mMO_inFront 114 (.iload_n 3) 1 115 := ⟨by decide +kernel, rfl⟩
theorem dMO_inFront_115 : gD mMO_inFront 115 (.iaload) 1 116 := ⟨by decide +kernel, rfl⟩
theorem dMO_inFront_116 : gD mMO_inFront 116 (.istore_n 3) 1 117 := ⟨by decide +kernel, rfl⟩
theorem dMO_inFront_117 : gD mMO_inFront 117 (.iinc 4 1) 3 120 := ⟨by decide +kernel, rfl⟩
theorem dMO_inFront_120 : gB mMO_inFront 120 (.goto (-115)) (-115) 5 123 := ⟨by decide +kernel, by decide, rfl⟩
theorem dMO_inFront_123 : gD mMO_inFront 123 (.iconst 0) 1 124 := ⟨by decide +kernel, rfl⟩
theorem dMO_inFront_124 : decode mMO_inFront.2.1 124 = .ok (.ireturn, 1) := by decide +kernel
theorem dMO_hit_0 : gD mMO_hit 0 (.iconst (-1)) 1 1 := ⟨by decide +kernel, rfl⟩
theorem dMO_hit_1 : gD mMO_hit 1 (.istore_n 3) 1 2 := ⟨by decide +kernel, rfl⟩
theorem dMO_hit_2 : gD mMO_hit 2 (.iconst 0) 1 3 := ⟨by decide +kernel, rfl⟩
theorem dMO_hit_3 : gD mMO_hit 3 (.istore 4) 2 5 := ⟨by decide +kernel, rfl⟩
theorem dMO_hit_5 : gD mMO_hit 5 (.iload 4) 2 7 := ⟨by decide +kernel, rfl⟩
theorem dMO_hit_7 : gD mMO_hit 7 (.aload_n 0) 1 8 := ⟨by decide +kernel, rfl⟩
theorem dMO_hit_8 : gD mMO_hit 8 (.getfield 7) 3 11 := ⟨by decide +kernel, rfl⟩
theorem dMO_hit_11 : gB mMO_hit 11 (.if_icmp .ge 37) 37 48 14 := ⟨by decide +kernel, by decide, rfl⟩
theorem dMO_hit_14 : gD mMO_hit 14 (.aload_n 0) 1 15 := ⟨by decide +kernel, rfl⟩
theorem dMO_hit_15 : gD mMO_hit 15 (.iload 4) 2 17 := ⟨by decide +kernel, rfl⟩
theorem dMO_hit_17 : gD mMO_hit 17 (.iload_n 1) 1 18 := ⟨by decide +kernel, rfl⟩
theorem dMO_hit_18 : gD mMO_hit 18 (.iload_n 2) 1 19 := ⟨by decide +kernel, rfl⟩
theorem dMO_hit_19 : gD mMO_hit 19 (.invokevirtual 100) 3 22 := ⟨by decide +kernel, rfl⟩
theorem dMO_hit_22 : gB mMO_hit 22 (.ifCond .eq 20) 20 42 25 := ⟨by decide +kernel, by decide, rfl⟩
theorem dMO_hit_25 : gD mMO_hit 25 (.iload_n 3) 1 26 := ⟨by decide +kernel, rfl⟩
theorem dMO_hit_26 : gB mMO_hit 26 (.ifCond .lt 13) 13 39 29 := ⟨by decide +kernel, by decide, rfl⟩
theorem dMO_hit_29 : gD mMO_hit 29 (.aload_n 0) 1 30 := ⟨by decide +kernel, rfl⟩
theorem dMO_hit_30 : gD mMO_hit 30 (.iload 4) 2 32 := ⟨by decide +kernel, rfl⟩
theorem dMO_hit_32 : gD mMO_hit 32 (.iload_n 3) 1 33 := ⟨by decide +kernel, rfl⟩
theorem dMO_hit_33 : gD mMO_hit 33 (.invokevirtual 172) 3 36 := ⟨by decide +kernel, rfl⟩
theorem dMO_hit_36 : gB mMO_hit 36 (.ifCond .eq 6) 6 42 39 := ⟨by decide +kernel, by decide, rfl⟩
theorem dMO_hit_39 : gD mMO_hit 39 (.iload 4) 2 41 := ⟨by decide +kernel, rfl⟩
theorem dMO_hit_41 : gD mMO_hit 41 (.istore_n 3) 1 42 := ⟨by decide +kernel, rfl⟩
theorem dMO_hit_42 : gD mMO_hit 42 (.iinc 4 1) 3 45 := ⟨by decide +kernel, rfl⟩
theorem dMO_hit_45 : gB mMO_hit 45 (.goto (-40)) (-40) 5 48 := ⟨by decide +kernel, by decide, rfl⟩
theorem dMO_hit_48 : gD mMO_hit 48 (.iload_n 3) 1 49 := ⟨by decide +kernel, rfl⟩
theorem dMO_hit_49 : decode mMO_hit.2.1 49 = .ok (.ireturn, 1) := by decide +kernel
theorem dMO_press_0 : gD mMO_press 0 (.aload_n 0) 1 1 := ⟨by decide +kernel, rfl⟩
theorem dMO_press_1 : gD mMO_press 1 (.getfield 72) 3 4 := ⟨by decide +kernel, rfl⟩
theorem dMO_press_4 : gB mMO_press 4 (.ifCond .lt 6) 6 10 7 := ⟨by decide +kernel, by decide, rfl⟩
theorem dMO_press_7 : gD mMO_press 7 (.bipush (-2)) 2 9 := ⟨by decide +kernel, rfl⟩
theorem dMO_press_9 : decode mMO_press.2.1 9 = .ok (.ireturn, 1) := by decide +kernel
theorem dMO_press_10 : gD mMO_press 10 (.aload_n 0) 1 11 := ⟨by decide +kernel, rfl⟩
theorem dMO_press_11 : gD mMO_press 11 (.iload_n 1) 1 12 := ⟨by decide +kernel, rfl⟩
theorem dMO_press_12 : gD mMO_press 12 (.iload_n 2) 1 13 := ⟨by decide +kernel, rfl⟩
theorem dMO_press_13 : gD mMO_press 13 (.invokevirtual 175) 3 16 := ⟨by decide +kernel, rfl⟩
theorem dMO_press_16 : gD mMO_press 16 (.istore_n 3) 1 17 := ⟨by decide +kernel, rfl⟩
theorem dMO_press_17 : gD mMO_press 17 (.aload_n 0) 1 18 := ⟨by decide +kernel, rfl⟩
theorem dMO_press_18 : gD mMO_press 18 (.iload_n 3) 1 19 := ⟨by decide +kernel, rfl⟩
theorem dMO_press_19 : gD mMO_press 19 (.invokevirtual 107) 3 22 := ⟨by decide +kernel, rfl⟩
theorem dMO_press_22 : gD mMO_press 22 (.istore 4) 2 24 := ⟨by decide +kernel, rfl⟩
theorem dMO_press_24 : gD mMO_press 24 (.aload_n 0) 1 25 := ⟨by decide +kernel, rfl⟩
theorem dMO_press_25 : gD mMO_press 25 (.iload 4) 2 27 := ⟨by decide +kernel, rfl⟩
theorem dMO_press_27 : gB mMO_press 27 (.ifCond .eq 7) 7 34 30 := ⟨by decide +kernel, by decide, rfl⟩
theorem dMO_press_30 : gD mMO_press 30 (.iload_n 3) 1 31 := ⟨by decide +kernel, rfl⟩
theorem dMO_press_31 : gB mMO_press 31 (.goto 4) 4 35 34 := ⟨by decide +kernel, by decide, rfl⟩
theorem dMO_press_34 : gD mMO_press 34 (.iconst (-1)) 1 35 := ⟨by decide +kernel, rfl⟩
theorem dMO_press_35 : gD mMO_press 35 (.putfield 69) 3 38 := ⟨by decide +kernel, rfl⟩
theorem dMO_press_38 : gD mMO_press 38 (.aload_n 0) 1 39 := ⟨by decide +kernel, rfl⟩
theorem dMO_press_39 : gD mMO_press 39 (.iload 4) 2 41 := ⟨by decide +kernel, rfl⟩
theorem dMO_press_41 : gB mMO_press 41 (.ifCond .eq 7) 7 48 44 := ⟨by decide +kernel, by decide, rfl⟩
theorem dMO_press_44 : gD mMO_press 44 (.iload_n 3) 1 45 := ⟨by decide +kernel, rfl⟩
theorem dMO_press_45 : gB mMO_press 45 (.goto 4) 4 49 48 := ⟨by decide +kernel, by decide, rfl⟩
theorem dMO_press_48 : gD mMO_press 48 (.iconst (-1)) 1 49 := ⟨by decide +kernel, rfl⟩
theorem dMO_press_49 : gD mMO_press 49 (.putfield 72) 3 52 := ⟨by decide +kernel, rfl⟩
theorem dMO_press_52 : gD mMO_press 52 (.aload_n 0) 1 53 := ⟨by decide +kernel, rfl⟩
theorem dMO_press_53 : gD mMO_press 53 (.invokevirtual 93) 3 56 := ⟨by decide +kernel, rfl⟩
theorem dMO_press_56 : gD mMO_press 56 (.iload_n 3) 1 57 := ⟨by decide +kernel, rfl⟩
theorem dMO_press_57 : decode mMO_press.2.1 57 = .ok (.ireturn, 1) := by decide +kernel
theorem dMO_activate_0 : gD mMO_activate 0 (.iload_n 1) 1 1 := ⟨by decide +kernel, rfl⟩
theorem dMO_activate_1 : gD mMO_activate 1 (.istore_n 2) 1 2 := ⟨by decide +kernel, rfl⟩
theorem dMO_activate_2 : gD mMO_activate 2 (.iconst 0) 1 3 := ⟨by decide +kernel, rfl⟩
theorem dMO_activate_3 : gD mMO_activate 3 (.istore_n 3) 1 4 := ⟨by decide +kernel, rfl⟩
theorem dMO_activate_4 : gD mMO_activate 4 (.iload_n 3) 1 5 := ⟨by decide +kernel, rfl⟩
theorem dMO_activate_5 : gD mMO_activate 5 (.bipush 6) 2 7 := ⟨by decide +kernel, rfl⟩
theorem dMO_activate_7 : gB mMO_activate 7 (.if_icmp .ge 30) 30 37 10 := ⟨by decide +kernel, by decide, rfl⟩
theorem dMO_activate_10 : gD mMO_activate 10 (.iload_n 2) 1 11 := ⟨by decide +kernel, rfl⟩
theorem dMO_activate_11 : gB mMO_activate 11 (.ifCond .lt 26) 26 37 14 := ⟨by decide +kernel, by decide, rfl⟩
theorem dMO_activate_14 : gD mMO_activate 14 (.aload_n 0) 1 15 := ⟨by decide +kernel, rfl⟩
theorem dMO_activate_15 : gD mMO_activate 15 (.getfield 27) 3 18 := ⟨by decide +kernel, rfl⟩
theorem dMO_activate_18 : gD mMO_activate 18 (.iload_n 2) 1 19 := ⟨by decide +kernel, rfl⟩
theorem dMO_activate_19 : gD mMO_activate 19 (.dup2) 1 20 := ⟨by decide +kernel, rfl⟩
theorem dMO_activate_20 : gD mMO_activate 20 (.iaload) 1 21 := ⟨by decide +kernel, rfl⟩
theorem dMO_activate_21 : gD mMO_activate 21 (.iconst 1) 1 22 := ⟨by decide +kernel, rfl⟩
theorem dMO_activate_22 : gD mMO_activate 22 (.iadd) 1 23 := ⟨by decide +kernel, rfl⟩
theorem dMO_activate_23 : gD mMO_activate 23 (.iastore) 1 24 := ⟨by decide +kernel, rfl⟩
theorem dMO_activate_24 : gD mMO_activate 24 (.aload_n 0) 1 25 := ⟨by decide +kernel, rfl⟩
theorem dMO_activate_25 : gD mMO_activate 25 (.getfield 17) 3 28 := ⟨by decide +kernel, rfl⟩
theorem dMO_activate_28 : gD mMO_activate 28 (.iload_n 2) 1 29 := ⟨by decide +kernel, rfl⟩
theorem dMO_activate_29 : gD mMO_activate 29 (.iaload) 1 30 := ⟨by decide +kernel, rfl⟩
theorem dMO_activate_30 : gD mMO_activate 30 (.istore_n 2) 1 31 := ⟨by decide +kernel, rfl⟩
theorem dMO_activate_31 : gD mMO_activate 31 (.iinc 3 1) 3 34 := ⟨by decide +kernel, rfl⟩
theorem dMO_activate_34 : gB mMO_activate 34 (.goto (-30)) (-30) 4 37 := ⟨by decide +kernel, by decide, rfl⟩
theorem dMO_activate_37 : gD mMO_activate 37 (.aload_n 0) 1 38 := ⟨by decide +kernel, rfl⟩
theorem dMO_activate_38 : gD mMO_activate 38 (.getfield 13) 3 41 := ⟨by decide +kernel, rfl⟩
theorem dMO_activate_41 : gD mMO_activate 41 (.iload_n 1) 1 42 := ⟨by decide +kernel, rfl⟩
theorem dMO_activate_42 : gD mMO_activate 42 (.iaload) 1 43 := ⟨by decide +kernel, rfl⟩
theorem dMO_activate_43 : gD mMO_activate 43 (.iconst 2) 1 44 := ⟨by decide +kernel, rfl⟩
theorem dMO_activate_44 : gB mMO_activate 44 (.if_icmp .ne 23) 23 67 47 := ⟨by decide +kernel, by decide, rfl⟩
theorem dMO_activate_47 : gD mMO_activate 47 (.aload_n 0) 1 48 := ⟨by decide +kernel, rfl⟩
theorem dMO_activate_48 : gD mMO_activate 48 (.getfield 24) 3 51 := ⟨by decide +kernel, rfl⟩
theorem dMO_activate_51 : gD mMO_activate 51 (.iload_n 1) 1 52 := ⟨by decide +kernel, rfl⟩
theorem dMO_activate_52 : gD mMO_activate 52 (.aload_n 0) 1 53 := ⟨by decide +kernel, rfl⟩
theorem dMO_activate_53 : gD mMO_activate 53 (.getfield 24) 3 56 := ⟨by decide +kernel, rfl⟩
theorem dMO_activate_56 : gD mMO_activate 56 (.iload_n 1) 1 57 := ⟨by decide +kernel, rfl⟩
theorem dMO_activate_57 : gD mMO_activate 57 (.baload) 1 58 := ⟨by decide +kernel, rfl⟩
theorem dMO_activate_58 : gB mMO_activate 58 (.ifCond .ne 7) 7 65 61 := ⟨by decide +kernel, by decide, rfl⟩
theorem dMO_activate_61 : gD mMO_activate 61 (.iconst 1) 1 62 := ⟨by decide +kernel, rfl⟩
theorem dMO_activate_62 : gB mMO_activate 62 (.goto 4) 4 66 65 := ⟨by decide +kernel, by decide, rfl⟩
theorem dMO_activate_65 : gD mMO_activate 65 (.iconst 0) 1 66 := ⟨by decide +kernel, rfl⟩
theorem dMO_activate_66 : gD mMO_activate 66 (.bastore) 1 67 := ⟨by decide +kernel, rfl⟩
theorem dMO_activate_67 : decode mMO_activate.2.1 67 = .ok (.return_, 1) := by decide +kernel
theorem dMO_release_0 : gD mMO_release 0 (.aload_n 0) 1 1 := ⟨by decide +kernel, rfl⟩
theorem dMO_release_1 : gD mMO_release 1 (.getfield 72) 3 4 := ⟨by decide +kernel, rfl⟩
theorem dMO_release_4 : gB mMO_release 4 (.ifCond .ge 6) 6 10 7 := ⟨by decide +kernel, by decide, rfl⟩
theorem dMO_release_7 : gD mMO_release 7 (.bipush (-2)) 2 9 := ⟨by decide +kernel, rfl⟩
theorem dMO_release_9 : decode mMO_release.2.1 9 = .ok (.ireturn, 1) := by decide +kernel
theorem dMO_release_10 : gD mMO_release 10 (.aload_n 0) 1 11 := ⟨by decide +kernel, rfl⟩
theorem dMO_release_11 : gD mMO_release 11 (.getfield 72) 3 14 := ⟨by decide +kernel, rfl⟩
theorem dMO_release_14 : gD mMO_release 14 (.istore_n 3) 1 15 := ⟨by decide +kernel, rfl⟩
theorem dMO_release_15 : gD mMO_release 15 (.aload_n 0) 1 16 := ⟨by decide +kernel, rfl⟩
theorem dMO_release_16 : gD mMO_release 16 (.iconst (-1)) 1 17 := ⟨by decide +kernel, rfl⟩
theorem dMO_release_17 : gD mMO_release 17 (.putfield 72) 3 20 := ⟨by decide +kernel, rfl⟩
theorem dMO_release_20 : gD mMO_release 20 (.aload_n 0) 1 21 := ⟨by decide +kernel, rfl⟩
theorem dMO_release_21 : gD mMO_release 21 (.iload_n 1) 1 22 := ⟨by decide +kernel, rfl⟩
theorem dMO_release_22 : gD mMO_release 22 (.iload_n 2) 1 23 := ⟨by decide +kernel, rfl⟩
theorem dMO_release_23 : gD mMO_release 23 (.invokevirtual 175) 3 26 := ⟨by decide +kernel, rfl⟩
theorem dMO_release_26 : gD mMO_release 26 (.iload_n 3) 1 27 := ⟨by decide +kernel, rfl⟩
theorem dMO_release_27 : gB mMO_release 27 (.if_icmp .ne 7) 7 34 30 := ⟨by decide +kernel, by decide, rfl⟩
theorem dMO_release_30 : gD mMO_release 30 (.iconst 1) 1 31 := ⟨by decide +kernel, rfl⟩
theorem dMO_release_31 : gB mMO_release 31 (.goto 4) 4 35 34 := ⟨by decide +kernel, by decide, rfl⟩
theorem dMO_release_34 : gD mMO_release 34 (.iconst 0) 1 35 := ⟨by decide +kernel, rfl⟩
theorem dMO_release_35 : gD mMO_release 35 (.istore 4) 2 37 := ⟨by decide +kernel, rfl⟩
theorem dMO_release_37 : gD mMO_release 37 (.iload 4) 2 39 := ⟨by decide +kernel, rfl⟩
theorem dMO_release_39 : gB mMO_release 39 (.ifCond .eq 8) 8 47 42 := ⟨by decide +kernel, by decide, rfl⟩
theorem dMO_release_42 : gD mMO_release 42 (.aload_n 0) 1 43 := ⟨by decide +kernel, rfl⟩
theorem dMO_release_43 : gD mMO_release 43 (.iload_n 3) 1 44 := ⟨by decide +kernel, rfl⟩
theorem dMO_release_44 : gD mMO_release 44 (.invokevirtual 178) 3 47 := ⟨by decide +kernel, rfl⟩
theorem dMO_release_47 : gD mMO_release 47 (.aload_n 0) 1 48 := ⟨by decide +kernel, rfl⟩
theorem dMO_release_48 : gD mMO_release 48 (.invokevirtual 93) 3 51 := ⟨by decide +kernel, rfl⟩
theorem dMO_release_51 : gD mMO_release 51 (.iload 4) 2 53 := ⟨by decide +kernel, rfl⟩
theorem dMO_release_53 : gB mMO_release 53 (.ifCond .eq 7) 7 60 56 := ⟨by decide +kernel, by decide, rfl⟩
theorem dMO_release_56 : gD mMO_release 56 (.iload_n 3) 1 57 := ⟨by decide +kernel, rfl⟩
theorem dMO_release_57 : gB mMO_release 57 (.goto 4) 4 61 60 := ⟨by decide +kernel, by decide, rfl⟩
theorem dMO_release_60 : gD mMO_release 60 (.iconst (-1)) 1 61 := ⟨by decide +kernel, rfl⟩
theorem dMO_release_61 : decode mMO_release.2.1 61 = .ok (.ireturn, 1) := by decide +kernel
theorem dMO_step_0 : gD mMO_step 0 (.aload_n 0) 1 1 := ⟨by decide +kernel, rfl⟩
theorem dMO_step_1 : gD mMO_step 1 (.getfield 69) 3 4 := ⟨by decide +kernel, rfl⟩
theorem dMO_step_4 : gB mMO_step 4 (.ifCond .ge 18) 18 22 7 := ⟨by decide +kernel, by decide, rfl⟩
theorem dMO_step_7 : gD mMO_step 7 (.iload_n 1) 1 8 := ⟨by decide +kernel, rfl⟩
theorem dMO_step_8 : gB mMO_step 8 (.ifCond .eq 10) 10 18 11 := ⟨by decide +kernel, by decide, rfl⟩
theorem dMO_step_11 : gD mMO_step 11 (.aload_n 0) 1 12 := ⟨by decide +kernel, rfl⟩
theorem dMO_step_12 : gD mMO_step 12 (.getfield 7) 3 15 := ⟨by decide +kernel, rfl⟩
theorem dMO_step_15 : gB mMO_step 15 (.goto 11) 11 26 18 := ⟨by decide +kernel, by decide, rfl⟩
theorem dMO_step_18 : gD mMO_step 18 (.iconst (-1)) 1 19 := ⟨by decide +kernel, rfl⟩
theorem dMO_step_19 : gB mMO_step 19 (.goto 7) 7 26 22 := ⟨by decide +kernel, by decide, rfl⟩
theorem dMO_step_22 : gD mMO_step 22 (.aload_n 0) 1 23 := ⟨by decide +kernel, rfl⟩
theorem dMO_step_23 : gD mMO_step 23 (.getfield 69) 3 26 := ⟨by decide +kernel, rfl⟩
theorem dMO_step_26 : gD mMO_step 26 (.istore_n 2) 1 27 := ⟨by decide +kernel, rfl⟩
theorem dMO_step_27 : gD mMO_step 27 (.iconst 0) 1 28 := ⟨by decide +kernel, rfl⟩
theorem dMO_step_28 : gD mMO_step 28 (.istore_n 3) 1 29 := ⟨by decide +kernel, rfl⟩
theorem dMO_step_29 : gD mMO_step 29 (.iconst 0) 1 30 := ⟨by decide +kernel, rfl⟩
theorem dMO_step_30 : gD mMO_step 30 (.istore 4) 2 32 := ⟨by decide +kernel, rfl⟩
theorem dMO_step_32 : gD mMO_step 32 (.iload 4) 2 34 := ⟨by decide +kernel, rfl⟩
theorem dMO_step_34 : gD mMO_step 34 (.aload_n 0) 1 35 := ⟨by decide +kernel, rfl⟩
theorem dMO_step_35 : gD mMO_step 35 (.getfield 7) 3 38 := ⟨by decide +kernel, rfl⟩
theorem dMO_step_38 : gB mMO_step 38 (.if_icmp .gt 60) 60 98 41 := ⟨by decide +kernel, by decide, rfl⟩
theorem dMO_step_41 : gD mMO_step 41 (.iload_n 3) 1 42 := ⟨by decide +kernel, rfl⟩
theorem dMO_step_42 : gB mMO_step 42 (.ifCond .ne 56) 56 98 45 := ⟨by decide +kernel, by decide, rfl⟩
theorem dMO_step_45 : gD mMO_step 45 (.iload_n 1) 1 46 := ⟨by decide +kernel, rfl⟩
theorem dMO_step_46 : gB mMO_step 46 (.ifCond .eq 9) 9 55 49 := ⟨by decide +kernel, by decide, rfl⟩
theorem dMO_step_49 : gD mMO_step 49 (.iload_n 2) 1 50 := ⟨by decide +kernel, rfl⟩
theorem dMO_step_50 : gD mMO_step 50 (.iconst 1) 1 51 := ⟨by decide +kernel, rfl⟩
theorem dMO_step_51 : gD mMO_step 51 (.isub) 1 52 := ⟨by decide +kernel, rfl⟩
theorem dMO_step_52 : gB mMO_step 52 (.goto 6) 6 58 55 := ⟨by decide +kernel, by decide, rfl⟩
theorem dMO_step_55 : gD mMO_step 55 (.iload_n 2) 1 56 := ⟨by decide +kernel, rfl⟩
theorem dMO_step_56 : gD mMO_step 56 (.iconst 1) 1 57 := ⟨by decide +kernel, rfl⟩
theorem dMO_step_57 : gD mMO_step 57 (.iadd) 1 58 := ⟨by decide +kernel, rfl⟩
theorem dMO_step_58 : gD mMO_step 58 (.istore_n 2) 1 59 := ⟨by decide +kernel, rfl⟩
theorem dMO_step_59 : gD mMO_step 59 (.iload_n 2) 1 60 := ⟨by decide +kernel, rfl⟩
theorem dMO_step_60 : gB mMO_step 60 (.ifCond .ge 12) 12 72 63 := ⟨by decide +kernel, by decide, rfl⟩
theorem dMO_step_63 : gD mMO_step 63 (.aload_n 0) 1 64 := ⟨by decide +kernel, rfl⟩
theorem dMO_step_64 : gD mMO_step 64 (.getfield 7) 3 67 := ⟨by decide +kernel, rfl⟩
theorem dMO_step_67 : gD mMO_step 67 (.iconst 1) 1 68 := ⟨by decide +kernel, rfl⟩
theorem dMO_step_68 : gD mMO_step 68 (.isub) 1 69 := ⟨by decide +kernel, rfl⟩
theorem dMO_step_69 : gB mMO_step 69 (.goto 16) 16 85 72 := ⟨by decide +kernel, by decide, rfl⟩
theorem dMO_step_72 : gD mMO_step 72 (.iload_n 2) 1 73 := ⟨by decide +kernel, rfl⟩
theorem dMO_step_73 : gD mMO_step 73 (.aload_n 0) 1 74 := ⟨by decide +kernel, rfl⟩
theorem dMO_step_74 : gD mMO_step 74 (.getfield 7) 3 77 := ⟨by decide +kernel, rfl⟩
theorem dMO_step_77 : gB mMO_step 77 (.if_icmp .lt 7) 7 84 80 := ⟨by decide +kernel, by decide, rfl⟩
theorem dMO_step_80 : gD mMO_step 80 (.iconst 0) 1 81 := ⟨by decide +kernel, rfl⟩
theorem dMO_step_81 : gB mMO_step 81 (.goto 4) 4 85 84 := ⟨by decide +kernel, by decide, rfl⟩
theorem dMO_step_84 : gD mMO_step 84 (.iload_n 2) 1 85 := ⟨by decide +kernel, rfl⟩
theorem dMO_step_85 : gD mMO_step 85 (.istore_n 2) 1 86 := ⟨by decide +kernel, rfl⟩
theorem dMO_step_86 : gD mMO_step 86 (.aload_n 0) 1 87 := ⟨by decide +kernel, rfl⟩
theorem dMO_step_87 : gD mMO_step 87 (.iload_n 2) 1 88 := ⟨by decide +kernel, rfl⟩
theorem dMO_step_88 : gD mMO_step 88 (.invokevirtual 107) 3 91 := ⟨by decide +kernel, rfl⟩
theorem dMO_step_91 : gD mMO_step 91 (.istore_n 3) 1 92 := ⟨by decide +kernel, rfl⟩
theorem dMO_step_92 : gD mMO_step 92 (.iinc 4 1) 3 95 := ⟨by decide +kernel, rfl⟩
theorem dMO_step_95 : gB mMO_step 95 (.goto (-63)) (-63) 32 98 := ⟨by decide +kernel, by decide, rfl⟩
theorem dMO_step_98 : gD mMO_step 98 (.aload_n 0) 1 99 := ⟨by decide +kernel, rfl⟩
theorem dMO_step_99 : gD mMO_step 99 (.iload_n 3) 1 100 := ⟨by decide +kernel, rfl⟩
theorem dMO_step_100 : gB mMO_step 100 (.ifCond .eq 7) 7 107 103 := ⟨by decide +kernel, by decide, rfl⟩
theorem dMO_step_103 : gD mMO_step 103 (.iload_n 2) 1 104 := ⟨by decide +kernel, rfl⟩
theorem dMO_step_104 : gB mMO_step 104 (.goto 4) 4 108 107 := ⟨by decide +kernel, by decide, rfl⟩
theorem dMO_step_107 : gD mMO_step 107 (.iconst (-1)) 1 108 := ⟨by decide +kernel, rfl⟩
theorem dMO_step_108 : gD mMO_step 108 (.putfield 69) 3 111 := ⟨by decide +kernel, rfl⟩
theorem dMO_step_111 : gD mMO_step 111 (.aload_n 0) 1 112 := ⟨by decide +kernel, rfl⟩
theorem dMO_step_112 : gD mMO_step 112 (.invokevirtual 93) 3 115 := ⟨by decide +kernel, rfl⟩
theorem dMO_step_115 : gD mMO_step 115 (.aload_n 0) 1 116 := ⟨by decide +kernel, rfl⟩
theorem dMO_step_116 : gD mMO_step 116 (.getfield 69) 3 119 := ⟨by decide +kernel, rfl⟩
theorem dMO_step_119 : decode mMO_step.2.1 119 = .ok (.ireturn, 1) := by decide +kernel
theorem dMO_key_0 : gD mMO_key 0 (.aload_n 0) 1 1 := ⟨by decide +kernel, rfl⟩
theorem dMO_key_1 : gD mMO_key 1 (.getfield 69) 3 4 := ⟨by decide +kernel, rfl⟩
theorem dMO_key_4 : gB mMO_key 4 (.ifCond .ge 5) 5 9 7 := ⟨by decide +kernel, by decide, rfl⟩
theorem dMO_key_7 : gD mMO_key 7 (.iconst (-1)) 1 8 := ⟨by decide +kernel, rfl⟩
theorem dMO_key_8 : decode mMO_key.2.1 8 = .ok (.ireturn, 1) := by decide +kernel
theorem dMO_key_9 : gD mMO_key 9 (.aload_n 0) 1 10 := ⟨by decide +kernel, rfl⟩
theorem dMO_key_10 : gD mMO_key 10 (.getfield 69) 3 13 := ⟨by decide +kernel, rfl⟩
theorem dMO_key_13 : gD mMO_key 13 (.istore_n 1) 1 14 := ⟨by decide +kernel, rfl⟩
theorem dMO_key_14 : gD mMO_key 14 (.aload_n 0) 1 15 := ⟨by decide +kernel, rfl⟩
theorem dMO_key_15 : gD mMO_key 15 (.iload_n 1) 1 16 := ⟨by decide +kernel, rfl⟩
theorem dMO_key_16 : gD mMO_key 16 (.invokevirtual 178) 3 19 := ⟨by decide +kernel, rfl⟩
theorem dMO_key_19 : gD mMO_key 19 (.aload_n 0) 1 20 := ⟨by decide +kernel, rfl⟩
theorem dMO_key_20 : gD mMO_key 20 (.invokevirtual 93) 3 23 := ⟨by decide +kernel, rfl⟩
theorem dMO_key_23 : gD mMO_key 23 (.iload_n 1) 1 24 := ⟨by decide +kernel, rfl⟩
theorem dMO_key_24 : decode mMO_key.2.1 24 = .ok (.ireturn, 1) := by decide +kernel
theorem dMO_attention_0 : gD mMO_attention 0 (.aload_n 0) 1 1 := ⟨by decide +kernel, rfl⟩
theorem dMO_attention_1 : gD mMO_attention 1 (.getfield 69) 3 4 := ⟨by decide +kernel, rfl⟩
theorem dMO_attention_4 : gD mMO_attention 4 (.iconst 1) 1 5 := ⟨by decide +kernel, rfl⟩
theorem dMO_attention_5 : gD mMO_attention 5 (.iadd) 1 6 := ⟨by decide +kernel, rfl⟩
theorem dMO_attention_6 : gD mMO_attention 6 (.bipush 8) 2 8 := ⟨by decide +kernel, rfl⟩
theorem dMO_attention_8 : gD mMO_attention 8 (.aload_n 0) 1 9 := ⟨by decide +kernel, rfl⟩
theorem dMO_attention_9 : gD mMO_attention 9 (.getfield 72) 3 12 := ⟨by decide +kernel, rfl⟩
theorem dMO_attention_12 : gD mMO_attention 12 (.iconst 1) 1 13 := ⟨by decide +kernel, rfl⟩
theorem dMO_attention_13 : gD mMO_attention 13 (.iadd) 1 14 := ⟨by decide +kernel, rfl⟩
theorem dMO_attention_14 : gD mMO_attention 14 (.imul) 1 15 := ⟨by decide +kernel, rfl⟩
theorem dMO_attention_15 : gD mMO_attention 15 (.iadd) 1 16 := ⟨by decide +kernel, rfl⟩
theorem dMO_attention_16 : decode mMO_attention.2.1 16 = .ok (.ireturn, 1) := by decide +kernel
theorem dMO_count_0 : gD mMO_count 0 (.aload_n 0) 1 1 := ⟨by decide +kernel, rfl⟩
theorem dMO_count_1 : gD mMO_count 1 (.iload_n 1) 1 2 := ⟨by decide +kernel, rfl⟩
theorem dMO_count_2 : gD mMO_count 2 (.invokevirtual 153) 3 5 := ⟨by decide +kernel, rfl⟩
theorem dMO_count_5 : gB mMO_count 5 (.ifCond .eq 12) 12 17 8 := ⟨by decide +kernel, by decide, rfl⟩
theorem dMO_count_8 : gD mMO_count 8 (.aload_n 0) 1 9 := ⟨by decide +kernel, rfl⟩
theorem dMO_count_9 : gD mMO_count 9 (.getfield 27) 3 12 := ⟨by decide +kernel, rfl⟩
theorem dMO_count_12 : gD mMO_count 12 (.iload_n 1) 1 13 := ⟨by decide +kernel, rfl⟩
theorem dMO_count_13 : gD mMO_count 13 (.iaload) 1 14 := ⟨by decide +kernel, rfl⟩
theorem dMO_count_14 : gB mMO_count 14 (.goto 4) 4 18 17 := ⟨by decide +kernel, by decide, rfl⟩
theorem dMO_count_17 : gD mMO_count 17 (.iconst (-1)) 1 18 := ⟨by decide +kernel, rfl⟩
theorem dMO_count_18 : decode mMO_count.2.1 18 = .ok (.ireturn, 1) := by decide +kernel
theorem dMO_damage_0 : gD mMO_damage 0 (.iconst 0) 1 1 := ⟨by decide +kernel, rfl⟩
theorem dMO_damage_1 : gD mMO_damage 1 (.istore_n 1) 1 2 := ⟨by decide +kernel, rfl⟩
theorem dMO_damage_2 : gD mMO_damage 2 (.iconst 0) 1 3 := ⟨by decide +kernel, rfl⟩
theorem dMO_damage_3 : gD mMO_damage 3 (.istore_n 2) 1 4 := ⟨by decide +kernel, rfl⟩
theorem dMO_damage_4 : gD mMO_damage 4 (.iload_n 2) 1 5 := ⟨by decide +kernel, rfl⟩
theorem dMO_damage_5 : gD mMO_damage 5 (.sipush 384) 3 8 := ⟨by decide +kernel, rfl⟩
theorem dMO_damage_8 : gB mMO_damage 8 (.if_icmp .ge 21) 21 29 11 := ⟨by decide +kernel, by decide, rfl⟩
theorem dMO_damage_11 : gD mMO_damage 11 (.aload_n 0) 1 12 := ⟨by decide +kernel, rfl⟩
theorem dMO_damage_12 : gD mMO_damage 12 (.getfield 81) 3 15 := ⟨by decide +kernel, rfl⟩
theorem dMO_damage_15 : gD mMO_damage 15 (.iload_n 2) 1 16 := ⟨by decide +kernel, rfl⟩
theorem dMO_damage_16 : gD mMO_damage 16 (.baload) 1 17 := ⟨by decide +kernel, rfl⟩
theorem dMO_damage_17 : gB mMO_damage 17 (.ifCond .eq 6) 6 23 20 := ⟨by decide +kernel, by decide, rfl⟩
theorem dMO_damage_20 : gD mMO_damage 20 (.iinc 1 1) 3 23 := ⟨by decide +kernel, rfl⟩
theorem dMO_damage_23 : gD mMO_damage 23 (.iinc 2 1) 3 26 := ⟨by decide +kernel, rfl⟩
theorem dMO_damage_26 : gB mMO_damage 26 (.goto (-22)) (-22) 4 29 := ⟨by decide +kernel, by decide, rfl⟩
theorem dMO_damage_29 : gD mMO_damage 29 (.iload_n 1) 1 30 := ⟨by decide +kernel, rfl⟩
theorem dMO_damage_30 : decode mMO_damage.2.1 30 = .ok (.ireturn, 1) := by decide +kernel
theorem dMO_paint_0 : gD mMO_paint 0 (.iconst 0) 1 1 := ⟨by decide +kernel, rfl⟩
theorem dMO_paint_1 : gD mMO_paint 1 (.istore_n 1) 1 2 := ⟨by decide +kernel, rfl⟩
theorem dMO_paint_2 : gD mMO_paint 2 (.iconst 0) 1 3 := ⟨by decide +kernel, rfl⟩
theorem dMO_paint_3 : gD mMO_paint 3 (.istore_n 2) 1 4 := ⟨by decide +kernel, rfl⟩
theorem dMO_paint_4 : gD mMO_paint 4 (.iload_n 2) 1 5 := ⟨by decide +kernel, rfl⟩
theorem dMO_paint_5 : gD mMO_paint 5 (.sipush 384) 3 8 := ⟨by decide +kernel, rfl⟩
theorem dMO_paint_8 : gB mMO_paint 8 (.if_icmp .ge 84) 84 92 11 := ⟨by decide +kernel, by decide, rfl⟩
theorem dMO_paint_11 : gD mMO_paint 11 (.aload_n 0) 1 12 := ⟨by decide +kernel, rfl⟩
theorem dMO_paint_12 : gD mMO_paint 12 (.getfield 81) 3 15 := ⟨by decide +kernel, rfl⟩
theorem dMO_paint_15 : gD mMO_paint 15 (.iload_n 2) 1 16 := ⟨by decide +kernel, rfl⟩
theorem dMO_paint_16 : gD mMO_paint 16 (.baload) 1 17 := ⟨by decide +kernel, rfl⟩
theorem dMO_paint_17 : gB mMO_paint 17 (.ifCond .ne 6) 6 23 20 := ⟨by decide +kernel, by decide, rfl⟩
theorem dMO_paint_20 : gB mMO_paint 20 (.goto 66) 66 86 23 := ⟨by decide +kernel, by decide, rfl⟩
theorem dMO_paint_23 : gD mMO_paint 23 (.aload_n 0) 1 24 := ⟨by decide +kernel, rfl⟩
theorem dMO_paint_24 : gD mMO_paint 24 (.getfield 81) 3 27 := ⟨by decide +kernel, rfl⟩
theorem dMO_paint_27 : gD mMO_paint 27 (.iload_n 2) 1 28 := ⟨by decide +kernel, rfl⟩
theorem dMO_paint_28 : gD mMO_paint 28 (.iconst 0) 1 29 := ⟨by decide +kernel, rfl⟩
theorem dMO_paint_29 : gD mMO_paint 29 (.bastore) 1 30 := ⟨by decide +kernel, rfl⟩
theorem dMO_paint_30 : gD mMO_paint 30 (.aload_n 0) 1 31 := ⟨by decide +kernel, rfl⟩
theorem dMO_paint_31 : gD mMO_paint 31 (.iload_n 2) 1 32 := ⟨by decide +kernel, rfl⟩
theorem dMO_paint_32 : gD mMO_paint 32 (.bipush 24) 2 34 := ⟨by decide +kernel, rfl⟩
theorem dMO_paint_34 : gD mMO_paint 34 (.irem) 1 35 := ⟨by decide +kernel, rfl⟩
theorem dMO_paint_35 : gD mMO_paint 35 (.iload_n 2) 1 36 := ⟨by decide +kernel, rfl⟩
theorem dMO_paint_36 : gD mMO_paint 36 (.bipush 24) 2 38 := ⟨by decide +kernel, rfl⟩
theorem dMO_paint_38 : gD mMO_paint 38 (.idiv) 1 39 := ⟨by decide +kernel, rfl⟩
theorem dMO_paint_39 : gD mMO_paint 39 (.invokevirtual 175) 3 42 := ⟨by decide +kernel, rfl⟩
theorem dMO_paint_42 : gD mMO_paint 42 (.istore_n 3) 1 43 := ⟨by decide +kernel, rfl⟩
theorem dMO_paint_43 : gD mMO_paint 43 (.iload_n 3) 1 44 := ⟨by decide +kernel, rfl⟩
theorem dMO_paint_44 : gB mMO_paint 44 (.ifCond .ge 7) 7 51 47 := ⟨by decide +kernel, by decide, rfl⟩
theorem dMO_paint_47 : gD mMO_paint 47 (.iconst 0) 1 48 := ⟨by decide +kernel, rfl⟩
theorem dMO_paint_48 : gB mMO_paint 48 (.goto 9) 9 57 51 := ⟨by decide +kernel, by decide, rfl⟩
theorem dMO_paint_51 : gD mMO_paint 51 (.aload_n 0) 1 52 := ⟨by decide +kernel, rfl⟩
theorem dMO_paint_52 : gD mMO_paint 52 (.getfield 78) 3 55 := ⟨by decide +kernel, rfl⟩
theorem dMO_paint_55 : gD mMO_paint 55 (.iload_n 3) 1 56 := ⟨by decide +kernel, rfl⟩
theorem dMO_paint_56 : gD mMO_paint 56 (.iaload) 1 57 := ⟨by decide +kernel, rfl⟩
theorem dMO_paint_57 : gD mMO_paint 57 (.istore 4) 2 59 := ⟨by decide +kernel, rfl⟩
theorem dMO_paint_59 : gD mMO_paint 59 (.aload_n 0) 1 60 := ⟨by decide +kernel, rfl⟩
theorem dMO_paint_60 : gD mMO_paint 60 (.getfield 84) 3 63 := ⟨by decide +kernel, rfl⟩
theorem dMO_paint_63 : gD mMO_paint 63 (.iload_n 2) 1 64 := ⟨by decide +kernel, rfl⟩
theorem dMO_paint_64 : gD mMO_paint 64 (.iaload) 1 65 := ⟨by decide +kernel, rfl⟩
theorem dMO_paint_65 : gD mMO_paint 65 (.iload 4) 2 67 := ⟨by decide +kernel, rfl⟩
theorem dMO_paint_67 : gB mMO_paint 67 (.if_icmp .ne 7) 7 74 70 := ⟨by decide +kernel, by decide, rfl⟩
theorem dMO_paint_70 : gD mMO_paint 70 (.iload_n 1) 1 71 := ⟨by decide +kernel, rfl⟩
theorem dMO_paint_71 : gB mMO_paint 71 (.goto 6) 6 77 74 := ⟨by decide +kernel, by decide, rfl⟩
theorem dMO_paint_74 : gD mMO_paint 74 (.iload_n 1) 1 75 := ⟨by decide +kernel, rfl⟩
theorem dMO_paint_75 : gD mMO_paint 75 (.iconst 1) 1 76 := ⟨by decide +kernel, rfl⟩
theorem dMO_paint_76 : gD mMO_paint 76 (.iadd) 1 77 := ⟨by decide +kernel, rfl⟩
theorem dMO_paint_77 : gD mMO_paint 77 (.istore_n 1) 1 78 := ⟨by decide +kernel, rfl⟩
theorem dMO_paint_78 : gD mMO_paint 78 (.aload_n 0) 1 79 := ⟨by decide +kernel, rfl⟩
theorem dMO_paint_79 : gD mMO_paint 79 (.getfield 84) 3 82 := ⟨by decide +kernel, rfl⟩
theorem dMO_paint_82 : gD mMO_paint 82 (.iload_n 2) 1 83 := ⟨by decide +kernel, rfl⟩
theorem dMO_paint_83 : gD mMO_paint 83 (.iload 4) 2 85 := ⟨by decide +kernel, rfl⟩
theorem dMO_paint_85 : gD mMO_paint 85 (.iastore) 1 86 := ⟨by decide +kernel, rfl⟩
theorem dMO_paint_86 : gD mMO_paint 86 (.iinc 2 1) 3 89 := ⟨by decide +kernel, rfl⟩
theorem dMO_paint_89 : gB mMO_paint 89 (.goto (-85)) (-85) 4 92 := ⟨by decide +kernel, by decide, rfl⟩
theorem dMO_paint_92 : gD mMO_paint 92 (.iload_n 1) 1 93 := ⟨by decide +kernel, rfl⟩
theorem dMO_paint_93 : decode mMO_paint.2.1 93 = .ok (.ireturn, 1) := by decide +kernel
theorem dMO_pixel_0 : gD mMO_pixel 0 (.iload_n 1) 1 1 := ⟨by decide +kernel, rfl⟩
theorem dMO_pixel_1 : gB mMO_pixel 1 (.ifCond .lt 19) 19 20 4 := ⟨by decide +kernel, by decide, rfl⟩
theorem dMO_pixel_4 : gD mMO_pixel 4 (.iload_n 1) 1 5 := ⟨by decide +kernel, rfl⟩
theorem dMO_pixel_5 : gD mMO_pixel 5 (.bipush 23) 2 7 := ⟨by decide +kernel, rfl⟩
theorem dMO_pixel_7 : gB mMO_pixel 7 (.if_icmp .gt 13) 13 20 10 := ⟨by decide +kernel, by decide, rfl⟩
theorem dMO_pixel_10 : gD mMO_pixel 10 (.iload_n 2) 1 11 := ⟨by decide +kernel, rfl⟩
theorem dMO_pixel_11 : gB mMO_pixel 11 (.ifCond .lt 9) 9 20 14 := ⟨by decide +kernel, by decide, rfl⟩
theorem dMO_pixel_14 : gD mMO_pixel 14 (.iload_n 2) 1 15 := ⟨by decide +kernel, rfl⟩
theorem dMO_pixel_15 : gD mMO_pixel 15 (.bipush 15) 2 17 := ⟨by decide +kernel, rfl⟩
theorem dMO_pixel_17 : gB mMO_pixel 17 (.if_icmp .le 7) 7 24 20 := ⟨by decide +kernel, by decide, rfl⟩
theorem dMO_pixel_20 : gD mMO_pixel 20 (.iconst (-1)) 1 21 := ⟨by decide +kernel, rfl⟩
theorem dMO_pixel_21 : gB mMO_pixel 21 (.goto 14) 14 35 24 := ⟨by decide +kernel, by decide, rfl⟩
theorem dMO_pixel_24 : gD mMO_pixel 24 (.aload_n 0) 1 25 := ⟨by decide +kernel, rfl⟩
theorem dMO_pixel_25 : gD mMO_pixel 25 (.getfield 84) 3 28 := ⟨by decide +kernel, rfl⟩
theorem dMO_pixel_28 : gD mMO_pixel 28 (.bipush 24) 2 30 := ⟨by decide +kernel, rfl⟩
theorem dMO_pixel_30 : gD mMO_pixel 30 (.iload_n 2) 1 31 := ⟨by decide +kernel, rfl⟩
theorem dMO_pixel_31 : gD mMO_pixel 31 (.imul) 1 32 := ⟨by decide +kernel, rfl⟩
theorem dMO_pixel_32 : gD mMO_pixel 32 (.iload_n 1) 1 33 := ⟨by decide +kernel, rfl⟩
theorem dMO_pixel_33 : gD mMO_pixel 33 (.iadd) 1 34 := ⟨by decide +kernel, rfl⟩
theorem dMO_pixel_34 : gD mMO_pixel 34 (.iaload) 1 35 := ⟨by decide +kernel, rfl⟩
theorem dMO_pixel_35 : decode mMO_pixel.2.1 35 = .ok (.ireturn, 1) := by decide +kernel
end
section
theorem gn_outer (c : ClassId) (N h0 : Nat) : ∀ i : Nat, Jvm.Free.Multi.outerC c N h0 i = arrV c N (gav 4 (fun _ => 0) (fun j => if j < i then some (h0 + 1 + j) else none))
  | 0 => by
    show ({ cls := c, slots := Array.replicate N .null, vm := .none } : Cell) = _
    rw [arrV_new]
    refine congrArg (arrV c N) (funext fun j => ?_)
    simp [gav, va_rf]
  | i + 1 => by
    show (Jvm.Free.Multi.outerC c N h0 i).setSlot i (.ref (h0 + 1 + i)) = _
    rw [gn_outer c N h0 i, arrV_store]
    refine congrArg (arrV c N) (funext fun j => ?_)
    by_cases e : j = i
    · subst e
      simp [updV, gav, va_rf]
    · by_cases h : j < i
      · simp [updV, gav, e, h, Nat.lt_succ_of_lt h]
      · simp [updV, gav, e, h, show ¬ j < i + 1 by omega]
def gNM (T : gT) (N K : Nat) : gT := (fun q => if q = T.2.2 then 104 else if T.2.2 < q ∧ q ≤ T.2.2 + N then 100 else T.1 q, fun q => if q = T.2.2 then N else if T.2.2 < q ∧ q ≤ T.2.2 + N then K else T.2.1 q, T.2.2 + 1 + N)
def gNMi (T : gT) (gi : gI) (N : Nat) : gI := fun q => if T.2.2 ≤ q ∧ q ≤ T.2.2 + N then (fun _ => 0) else gi q
def gNMr (T : gT) (gr : gR) (N : Nat) : gR := fun q => if q = T.2.2 then (fun j => if j < N then some (T.2.2 + 1 + j) else none) else if T.2.2 < q ∧ q ≤ T.2.2 + N then (fun _ => none) else gr q
section GMN
variable {E : gE} {X : gX} {pc pc' : Nat} {ls st : List Value} {T : gT} {gi : gI} {gr : gR} {k n : Nat} {Q : gQ}
theorem G_mna {idx N K : Nat} {x y : Int32} (hd : gD X pc (.multianewarray idx 2) 4 pc') (w1 : Cond.classLink X.1.cls idx "[[I" ∈ gTbl) (w2 : Cond.arrayClass FieldType.int ∈ gTbl) (hx : ¬ x < 0) (hy : ¬ y < 0) (hN : x.toNatClampNeg = N) (hK : y.toNatClampNeg = K) (hN1 : N ≤ 1000) (hK1 : K ≤ 1000) (hk : k + (1 + N) ≤ X.2.2.2.2.cells) (hn : n + (N + N * K) ≤ X.2.2.2.2.slots)
    (kk : G E X pc' ls (.ref T.2.2 :: st) (gNM T N K) (gNMi T gi N) (gNMr T gr N) (k + 1 + N) (n + N + N * K) Q) : G E X pc ls (.int y :: .int x :: st) T gi gr k n Q := by
  obtain ⟨hd, rfl⟩ := hd
  subst hN
  subst hK
  intro p e s m args below meth c Z hc hr H locs lsA hl hw hf
  have hts := hc.2.2.2.2.2.2.1
  have hKs := hc.2.2.2.2.2.2.2.2
  intro U hU Xs
  obtain ⟨vm₁, cA, comp, -, fA, fC, hO, -, X', step⟩ := Xs.multianewarray2F hc.1 hc.2.2.2.2.2.1 (hts _ w1) hKs.2.2.2.2 (hts _ w2) (g := F0 m pc lsA (.int y :: .int x :: st)) rfl (by rw [hc.2.1]; exact hd) rfl hx hy (by omega) (by show _ * 4 ≤ _; omega) (by omega) rfl rfl hk hn
  have hcA : cA = E.2.2.1 4 := by
    have h := (gK_arr hKs (q := 4) (by decide)).2
    exact Option.some.inj (fA.symm.trans h)
  have hcomp : comp = E.2.2.1 0 := by
    have h := (gK_arr hKs (q := 0) (by decide)).2
    exact Option.some.inj (fC.symm.trans h)
  subst hcA
  subst hcomp
  generalize hF : Jvm.Free.Multi.fill (U.setVm vm₁) (E.2.2.1 4) (E.2.2.1 0) x.toNatClampNeg y.toNatClampNeg (defaultValue .int) x.toNatClampNeg = F at X' step
  have hUh : (U.setVm vm₁).heap = H := hU
  obtain ⟨f1, f2, -, -⟩ := Jvm.Free.Multi.fill_facts (U.setVm vm₁) (E.2.2.1 4) (E.2.2.1 0) x.toNatClampNeg y.toNatClampNeg (defaultValue .int) x.toNatClampNeg
  rw [hF, hUh] at f1 f2
  have hold : ∀ q : Nat, q < H.size → F.heap[q]? = H[q]? := fun q hq => by
    have := Jvm.Free.Multi.fill_old (U.setVm vm₁) (E.2.2.1 4) (E.2.2.1 0) x.toNatClampNeg y.toNatClampNeg (defaultValue .int) (a := q) (by rw [hUh]; exact hq) x.toNatClampNeg
    rw [hF, hUh] at this
    exact this
  have hrow : ∀ j : Nat, j < x.toNatClampNeg → F.heap[H.size + 1 + j]? = some (arrV (E.2.2.1 0) y.toNatClampNeg (gav 0 (fun _ => 0) (fun _ => none))) := fun j hj => by
    have := Jvm.Free.Multi.fill_inner (U.setVm vm₁) (E.2.2.1 4) (E.2.2.1 0) x.toNatClampNeg y.toNatClampNeg (defaultValue .int) x.toNatClampNeg j hj
    rw [hF, hUh] at this
    rw [this]
    show some ({ cls := E.2.2.1 0, slots := Array.replicate _ (Value.int 0), vm := .none } : Cell) = _
    rw [arrV_new]
    rfl
  rw [gn_outer] at f2
  obtain ⟨m1, m2, m3⟩ := hw.1
  have hM : gMem E (gNM T x.toNatClampNeg y.toNatClampNeg) (gNMi T gi x.toNatClampNeg) (gNMr T gr x.toNatClampNeg) F.heap := by
    refine ⟨by rw [f1, m1]; rfl, by show gbase E ≤ T.2.2 + 1 + _; omega, fun q hq => ?_⟩
    by_cases h1 : q = T.2.2
    · subst h1
      refine ⟨m2, _, by rw [← m1]; exact f2, ?_⟩
      have a1 : (gNM T x.toNatClampNeg y.toNatClampNeg).1 T.2.2 = 100 + 4 := by simp [gNM]
      have a2 : (gNM T x.toNatClampNeg y.toNatClampNeg).2.1 T.2.2 = x.toNatClampNeg := by simp [gNM]
      rw [a1, a2]
      refine gAt_arr ?_
      refine congrArg (arrV (E.2.2.1 4) x.toNatClampNeg) (funext fun j => ?_)
      simp [gav, gNMr, m1]
    · by_cases h2 : T.2.2 < q ∧ q ≤ T.2.2 + x.toNatClampNeg
      · have hrj := hrow (q - T.2.2 - 1) (by omega)
        rw [show H.size + 1 + (q - T.2.2 - 1) = q by omega] at hrj
        refine ⟨by omega, _, hrj, ?_⟩
        have a1 : (gNM T x.toNatClampNeg y.toNatClampNeg).1 q = 100 + 0 := by simp only [gNM]; rw [if_neg h1, if_pos h2]
        have a2 : (gNM T x.toNatClampNeg y.toNatClampNeg).2.1 q = y.toNatClampNeg := by simp only [gNM]; rw [if_neg h1, if_pos h2]
        have a3 : gNMi T gi x.toNatClampNeg q = fun _ => 0 := by unfold gNMi; rw [if_pos (by omega)]
        rw [a1, a2, a3]
        exact gAt_arr (by congr 1)
      · have a1 : (gNM T x.toNatClampNeg y.toNatClampNeg).1 q = T.1 q := by simp only [gNM]; rw [if_neg h1, if_neg h2]
        have a2 : (gNM T x.toNatClampNeg y.toNatClampNeg).2.1 q = T.2.1 q := by simp only [gNM]; rw [if_neg h1, if_neg h2]
        have a3 : gNMi T gi x.toNatClampNeg q = gi q := by unfold gNMi; rw [if_neg (by omega)]
        have a4 : gNMr T gr x.toNatClampNeg q = gr q := by unfold gNMr; rw [if_neg h1, if_neg h2]
        rw [a1] at hq
        obtain ⟨hb, cell, hcell, hat⟩ := m3 q hq
        refine ⟨hb, cell, (hold q (Array.getElem?_eq_some_iff.mp hcell).1).trans hcell, ?_⟩
        rw [a1, a2, a3, a4]
        exact hat
  obtain ⟨t2, b1, b2⟩ := kk p e s m args below meth c Z hc hr F.heap locs lsA hl (gW_to hw hM (hold _ (by rw [m1]; exact Nat.lt_of_lt_of_le hw.2.2 m2))) hf F rfl X'
  refine ⟨t2, step t2 ?_, b2⟩
  have e0 : U.heap.size = T.2.2 := by rw [hU]; exact m1
  rw [e0]
  exact b1
end GMN
end
section
def gNa (T : gT) (a tag len : Nat) : gT := (gup T.1 a tag, gup T.2.1 a len, a + 1)
def gNMa (T : gT) (a N K : Nat) : gT := (fun q => if q = a then 104 else if a < q ∧ q ≤ a + N then 100 else T.1 q, fun q => if q = a then N else if a < q ∧ q ≤ a + N then K else T.2.1 q, a + 1 + N)
def gNMia (gi : gI) (a N : Nat) : gI := fun q => if a ≤ q ∧ q ≤ a + N then (fun _ => 0) else gi q
def gNMra (gr : gR) (a N : Nat) : gR := fun q => if q = a then (fun j => if j < N then some (a + 1 + j) else none) else if a < q ∧ q ≤ a + N then (fun _ => none) else gr q
section GA
variable {E : gE} {X : gX} {pc pc' : Nat} {ls st : List Value} {T : gT} {gi : gI} {gr : gR} {k n : Nat} {Q : gQ}
theorem G_newA {idx ci N a : Nat} (f : gNw X.1.cls idx ci N) (hd : gD X pc (.new idx) 3 pc') (ha : T.2.2 = a) (hk : k + 1 ≤ X.2.2.2.2.cells) (hn : n + N ≤ X.2.2.2.2.slots)
    (kk : G E X pc' ls (.ref a :: st) (gNa T a (ci + 1) 0) (gup gi a (fun _ => 0)) (gup gr a (fun _ => none)) (k + 1) (n + N) Q) : G E X pc ls st T gi gr k n Q := by
  subst ha
  exact G_new f hd hk hn kk
theorem G_newaA (q : Nat) {ty : ArrayType} {x : Int32} {len a : Nat} (hd : gD X pc (.newarray ty) 2 pc') (ha : T.2.2 = a) (hq : q < 2) (hty : newarray.typeOf ty = gAT q) (hwd : Cond.arrayClass (newarray.typeOf ty) ∈ gTbl) (hx : ¬ x < 0) (hN : x.toNatClampNeg = len) (hlen : len ≤ 100000) (hk : k + 1 ≤ X.2.2.2.2.cells) (hn : n + len ≤ X.2.2.2.2.slots)
    (kk : G E X pc' ls (.ref a :: st) (gNa T a (100 + q) len) (gup gi a (fun _ => 0)) (gup gr a (fun _ => none)) (k + 1) (n + len) Q) : G E X pc ls (.int x :: st) T gi gr k n Q := by
  subst ha
  exact G_newa q hd hq hty hwd hx hN hlen hk hn kk
theorem G_anewA (q : Nat) {idx : Nat} {C : String} {x : Int32} {len a : Nat} (hd : gD X pc (.anewarray idx) 3 pc') (ha : T.2.2 = a) (hq : q = 2 ∨ q = 3) (hC : gAT q = .object C) (hwd : Cond.classLink X.1.cls idx C ∈ gTbl) (hx : ¬ x < 0) (hN : x.toNatClampNeg = len) (hlen : len ≤ 100000) (hk : k + 1 ≤ X.2.2.2.2.cells) (hn : n + len ≤ X.2.2.2.2.slots)
    (kk : G E X pc' ls (.ref a :: st) (gNa T a (100 + q) len) (gup gi a (fun _ => 0)) (gup gr a (fun _ => none)) (k + 1) (n + len) Q) : G E X pc ls (.int x :: st) T gi gr k n Q := by
  subst ha
  exact G_anew q hd hq hC hwd hx hN hlen hk hn kk
theorem G_mnaA {idx N K a : Nat} {x y : Int32} (hd : gD X pc (.multianewarray idx 2) 4 pc') (ha : T.2.2 = a) (w1 : Cond.classLink X.1.cls idx "[[I" ∈ gTbl) (w2 : Cond.arrayClass FieldType.int ∈ gTbl) (hx : ¬ x < 0) (hy : ¬ y < 0) (hN : x.toNatClampNeg = N) (hK : y.toNatClampNeg = K) (hN1 : N ≤ 1000) (hK1 : K ≤ 1000) (hk : k + (1 + N) ≤ X.2.2.2.2.cells) (hn : n + (N + N * K) ≤ X.2.2.2.2.slots)
    (kk : G E X pc' ls (.ref a :: st) (gNMa T a N K) (gNMia gi a N) (gNMra gr a N) (k + 1 + N) (n + N + N * K) Q) : G E X pc ls (.int y :: .int x :: st) T gi gr k n Q := by
  subst ha
  exact G_mna hd w1 w2 hx hy hN hK hN1 hK1 hk hn kk
end GA
def FrB (T T' : gT) (gi gi' : gI) (gr gr' : gR) (b : Nat) : Prop := ∀ a, a < b → T'.1 a = T.1 a ∧ T'.2.1 a = T.2.1 a ∧ gi' a = gi a ∧ gr' a = gr a
theorem FrB.rf {T : gT} {gi : gI} {gr : gR} {b : Nat} : FrB T T gi gi gr gr b := fun _ _ => ⟨rfl, rfl, rfl, rfl⟩
theorem FrB.tr {T T' T'' : gT} {gi gi' gi'' : gI} {gr gr' gr'' : gR} {b : Nat} (h : FrB T T' gi gi' gr gr' b) (h' : FrB T' T'' gi' gi'' gr' gr'' b) : FrB T T'' gi gi'' gr gr'' b := fun a ha => ⟨(h' a ha).1.trans (h a ha).1, (h' a ha).2.1.trans (h a ha).2.1, (h' a ha).2.2.1.trans (h a ha).2.2.1, (h' a ha).2.2.2.trans (h a ha).2.2.2⟩
theorem FrB.le {T T' : gT} {gi gi' : gI} {gr gr' : gR} {b c : Nat} (h : FrB T T' gi gi' gr gr' b) (hc : c ≤ b) : FrB T T' gi gi' gr gr' c := fun a ha => h a (by omega)
end
section
def BdOk (T : gT) (gr : gR) (bd : Nat) : Prop := T.1 bd = 4 ∧ T.1 (bd + 1) = 104 ∧ T.2.1 (bd + 1) = 24 ∧ gr bd 0 = some (bd + 1) ∧ ∀ i, i < 24 → gr (bd + 1) i = some (bd + 2 + i) ∧ T.1 (bd + 2 + i) = 100 ∧ T.2.1 (bd + 2 + i) = 24
def BdIs (gi : gI) (bd : Nat) (R : Nat → Nat → Int32) (cf : Int32) (ec : Nat) : Prop := gi bd 1 = nI ec ∧ gi bd 2 = cf ∧ ∀ i j, i < 24 → j < 24 → gi (bd + 2 + i) j = R i j
def BdOff (gi gi' : gI) (bd : Nat) : Prop := ∀ a, ¬ (bd ≤ a ∧ a < bd + 26) → gi' a = gi a
theorem BdOff.rf {gi : gI} {bd : Nat} : BdOff gi gi bd := fun _ _ => rfl
theorem BdOff.tr {g1 g2 g3 : gI} {bd : Nat} (h : BdOff g1 g2 bd) (h' : BdOff g2 g3 bd) : BdOff g1 g3 bd := fun a ha => (h' a ha).trans (h a ha)
theorem nI_inc (a : Nat) : nI a + Int32.ofInt 1 = nI (a + 1) := nI_1 a
theorem gcat_nil : ∀ v ∈ ([] : List Value), v.category = 1 := fun _ h => by cases h
theorem gcat_cons {v : Value} {l : List Value} (h : v.category = 1) (hl : ∀ w ∈ l, w.category = 1) : ∀ w ∈ v :: l, w.category = 1 := by
  intro w hw
  rcases List.mem_cons.mp hw with rfl | hw
  · exact h
  · exact hl w hw
theorem va_rf_cat (r : Option Nat) : (va_rf r).category = 1 := by cases r <;> rfl
theorem cBD_highest {E : gE} {T : gT} {gi : gI} {gr : gR} {bd p q : Nat} (hB : BdOk T gr bd) (hp : p < 24) (hq : q < 24) : Ct E mBD_highest [.ref bd, .int (nI p), .int (nI q)] T gi gr (fun T' gi' gr' v => T' = T ∧ gi' = gi ∧ gr' = gr ∧ v = some (.int (gi (bd + 2 + q) p))) := by
  refine Ct_of (ls := [.ref bd, .int (nI p), .int (nI q)]) (by decide) (gcat_cons rfl (gcat_cons rfl (gcat_cons rfl gcat_nil))) (Nat.le_of_ble_eq_true rfl) rfl ?_
  refine G_aload_n dBD_highest_0 rfl ?_
  refine G_getRs fBD_11 dBD_highest_1 hB.1 hB.2.2.2.1 ?_
  refine G_iload_n dBD_highest_4 rfl ?_
  refine G_aaldsN 4 dBD_highest_5 (by decide) hB.2.1 hB.2.2.1 (by decide) hq (hB.2.2.2.2 q hq).1 ?_
  refine G_iload_n dBD_highest_6 rfl ?_
  refine G_ialdN dBD_highest_7 (hB.2.2.2.2 q hq).2.1 (hB.2.2.2.2 q hq).2.2 (by decide) hp ?_
  exact G_ireturn dBD_highest_8 rfl rfl (Nat.zero_le _) (Nat.zero_le _) ⟨rfl, rfl, rfl, rfl⟩
theorem cBD_lowest {E : gE} {T : gT} {gi : gI} {gr : gR} {bd p q : Nat} (hB : BdOk T gr bd) (hp : p < 24) (hq : q < 24) : Ct E mBD_lowest [.ref bd, .int (nI p), .int (nI q)] T gi gr (fun T' gi' gr' v => T' = T ∧ gi' = gi ∧ gr' = gr ∧ v = some (.int (-(gi (bd + 2 + p) q)))) := by
  refine Ct_of (ls := [.ref bd, .int (nI p), .int (nI q)]) (by decide) (gcat_cons rfl (gcat_cons rfl (gcat_cons rfl gcat_nil))) (Nat.le_of_ble_eq_true rfl) rfl ?_
  refine G_aload_n dBD_lowest_0 rfl ?_
  refine G_getRs fBD_11 dBD_lowest_1 hB.1 hB.2.2.2.1 ?_
  refine G_iload_n dBD_lowest_4 rfl ?_
  refine G_aaldsN 4 dBD_lowest_5 (by decide) hB.2.1 hB.2.2.1 (by decide) hp (hB.2.2.2.2 p hp).1 ?_
  refine G_iload_n dBD_lowest_6 rfl ?_
  refine G_ialdN dBD_lowest_7 (hB.2.2.2.2 p hp).2.1 (hB.2.2.2.2 p hp).2.2 (by decide) hq ?_
  refine G_ineg dBD_lowest_8 ?_
  exact G_ireturn dBD_lowest_9 rfl rfl (Nat.zero_le _) (Nat.zero_le _) ⟨rfl, rfl, rfl, rfl⟩
def kamR (R : Nat → Nat → Int32) (p q : Nat) (d : Int32) (ec : Nat) : Nat → Nat → Int32 := fun f t => if f < ec ∧ t < ec ∧ ¬ 268435456 ≤ R f q ∧ R f q + d < R f p ∧ ¬ 268435456 ≤ R p t ∧ ¬ R f t ≤ R f q + d + R p t then R f q + d + R p t else R f t
def kamM (R : Nat → Nat → Int32) (p q : Nat) (d : Int32) (ec : Nat) : Nat → Nat → Int32 := if d < R q p then (if -(R p q) ≤ d then kamR R p q d ec else R) else R
def kamC (R : Nat → Nat → Int32) (p q : Nat) (d : Int32) (cf : Int32) : Int32 := if d < R q p then (if -(R p q) ≤ d then cf else 1) else cf
def kamI (g0 gi : gI) (bd p f : Nat) (way : Int32) (t : Nat) : Prop := (∀ a, a ≠ bd + 2 + f → gi a = g0 a) ∧ ∀ j, j < 24 → gi (bd + 2 + f) j = if j < t ∧ ¬ 268435456 ≤ g0 (bd + 2 + p) j ∧ ¬ g0 (bd + 2 + f) j ≤ way + g0 (bd + 2 + p) j then way + g0 (bd + 2 + p) j else g0 (bd + 2 + f) j
theorem kamI_0 {g0 : gI} {bd p f : Nat} {way : Int32} : kamI g0 g0 bd p f way 0 := ⟨fun _ _ => rfl, fun j _ => by rw [if_neg (fun h => absurd h.1 (Nat.not_lt_zero _))]⟩
theorem kamI_skip {g0 gi : gI} {bd p f t : Nat} {way : Int32} (h : kamI g0 gi bd p f way t) (hn : ¬ (¬ 268435456 ≤ g0 (bd + 2 + p) t ∧ ¬ g0 (bd + 2 + f) t ≤ way + g0 (bd + 2 + p) t)) : kamI g0 gi bd p f way (t + 1) := by
  refine ⟨h.1, fun j hj => ?_⟩
  rw [h.2 j hj]
  by_cases e : j = t
  · subst e
    rw [if_neg (fun z => absurd z.1 (Nat.lt_irrefl _)), if_neg (fun z => hn z.2)]
  · by_cases c : j < t
    · have c' : j < t + 1 := Nat.lt_succ_of_lt c
      simp only [c, c', true_and]
    · have c' : ¬ j < t + 1 := by omega
      simp only [c, c', false_and]
theorem kamI_put {g0 gi : gI} {bd p f t : Nat} {way : Int32} (h : kamI g0 gi bd p f way t) (hn : ¬ 268435456 ≤ g0 (bd + 2 + p) t ∧ ¬ g0 (bd + 2 + f) t ≤ way + g0 (bd + 2 + p) t) : kamI g0 (gu gi (bd + 2 + f) t (way + g0 (bd + 2 + p) t)) bd p f way (t + 1) := by
  refine ⟨fun a ha => (gu_off ha).trans (h.1 a ha), fun j hj => ?_⟩
  rw [gu_row]
  by_cases e : j = t
  · subst e
    rw [if_pos rfl, if_pos ⟨Nat.lt_succ_self _, hn⟩]
  · rw [if_neg e, h.2 j hj]
    by_cases c : j < t
    · have c' : j < t + 1 := Nat.lt_succ_of_lt c
      simp only [c, c', true_and]
    · have c' : ¬ j < t + 1 := by omega
      simp only [c, c', false_and]
theorem kam_in {E : gE} {T : gT} {g0 : gI} {gr : gR} {bd p q f ec : Nat} {d way : Int32} {Q : gQ} (hB : BdOk T gr bd) (hp : p < 24) (hq : q < 24) (hf : f < 24) (hfp : f ≠ p) (hec24 : ec ≤ 24) (hec0 : g0 bd 1 = nI ec)
    (kx : ∀ gi : gI, kamI g0 gi bd p f way ec → G E mBD_keepAtMost 167 [.ref bd, .int (nI p), .int (nI q), .int d, .int (nI f), .int way, .int (nI ec)] [] T gi gr 0 0 Q) : ∀ (n t : Nat), t + n = ec → ∀ gi : gI, kamI g0 gi bd p f way t → G E mBD_keepAtMost 91 [.ref bd, .int (nI p), .int (nI q), .int d, .int (nI f), .int way, .int (nI t)] [] T gi gr 0 0 Q := by
  intro n
  induction n with
  | zero =>
    intro t htn gi hI
    have hec : gi bd 1 = nI ec := by rw [hI.1 bd (by omega)]; exact hec0
    refine G_iload dBD_keepAtMost_91 rfl ?_
    refine G_aload_n dBD_keepAtMost_93 rfl ?_
    refine G_getI fBD_22 dBD_keepAtMost_94 hB.1 ?_
    rw [hec]
    refine G_icmp_ge dBD_keepAtMost_97 (fun h1 => ?_) (fun h1 => ?_)
    · rw [show t = ec by omega]
      rw [show t = ec by omega] at hI
      exact kx gi hI
    · exact absurd (nI_le (by omega) (by omega)) h1
  | succ n ih =>
    intro t htn gi hI
    have ht : t < 24 := by omega
    have hec : gi bd 1 = nI ec := by rw [hI.1 bd (by omega)]; exact hec0
    have hpt : gi (bd + 2 + p) t = g0 (bd + 2 + p) t := by rw [hI.1 (bd + 2 + p) (by omega)]
    have hft : gi (bd + 2 + f) t = g0 (bd + 2 + f) t := by rw [hI.2 t ht, if_neg (fun z => absurd z.1 (Nat.lt_irrefl _))]
    refine G_iload dBD_keepAtMost_91 rfl ?_
    refine G_aload_n dBD_keepAtMost_93 rfl ?_
    refine G_getI fBD_22 dBD_keepAtMost_94 hB.1 ?_
    rw [hec]
    refine G_icmp_ge dBD_keepAtMost_97 (fun h1 => ?_) (fun h1 => ?_)
    · exact absurd h1 (nI_ge (by omega) (by omega))
    · refine G_aload_n dBD_keepAtMost_100 rfl ?_
      refine G_getRs fBD_11 dBD_keepAtMost_101 hB.1 hB.2.2.2.1 ?_
      refine G_iload_n dBD_keepAtMost_104 rfl ?_
      refine G_aaldsN 4 dBD_keepAtMost_105 (by decide) hB.2.1 hB.2.2.1 (by decide) hp (hB.2.2.2.2 p hp).1 ?_
      refine G_iload dBD_keepAtMost_106 rfl ?_
      refine G_ialdN dBD_keepAtMost_108 (hB.2.2.2.2 p hp).2.1 (hB.2.2.2.2 p hp).2.2 (by decide) ht ?_
      rw [hpt]
      refine G_ldc (v := 268435456) dBD_keepAtMost_109 kBD_30 ?_
      refine G_icmp_ge dBD_keepAtMost_111 (fun h2 => ?_) (fun h2 => ?_)
      · refine G_iinc (ls' := [.ref bd, .int (nI p), .int (nI q), .int d, .int (nI f), .int way, .int (nI (t + 1))]) dBD_keepAtMost_161 rfl (nI_inc t) (by decide) rfl ?_
        refine G_goto dBD_keepAtMost_164 ?_
        exact ih (t + 1) (by omega) _ (kamI_skip hI (fun z => z.1 h2))
      · refine G_iload dBD_keepAtMost_114 rfl ?_
        refine G_aload_n dBD_keepAtMost_116 rfl ?_
        refine G_getRs fBD_11 dBD_keepAtMost_117 hB.1 hB.2.2.2.1 ?_
        refine G_iload_n dBD_keepAtMost_120 rfl ?_
        refine G_aaldsN 4 dBD_keepAtMost_121 (by decide) hB.2.1 hB.2.2.1 (by decide) hp (hB.2.2.2.2 p hp).1 ?_
        refine G_iload dBD_keepAtMost_122 rfl ?_
        refine G_ialdN dBD_keepAtMost_124 (hB.2.2.2.2 p hp).2.1 (hB.2.2.2.2 p hp).2.2 (by decide) ht ?_
        rw [hpt]
        refine G_iadd dBD_keepAtMost_125 ?_
        refine G_aload_n dBD_keepAtMost_126 rfl ?_
        refine G_getRs fBD_11 dBD_keepAtMost_127 hB.1 hB.2.2.2.1 ?_
        refine G_iload dBD_keepAtMost_130 rfl ?_
        refine G_aaldsN 4 dBD_keepAtMost_132 (by decide) hB.2.1 hB.2.2.1 (by decide) hf (hB.2.2.2.2 f hf).1 ?_
        refine G_iload dBD_keepAtMost_133 rfl ?_
        refine G_ialdN dBD_keepAtMost_135 (hB.2.2.2.2 f hf).2.1 (hB.2.2.2.2 f hf).2.2 (by decide) ht ?_
        rw [hft]
        refine G_icmp_ge dBD_keepAtMost_136 (fun h3 => ?_) (fun h3 => ?_)
        · refine G_iinc (ls' := [.ref bd, .int (nI p), .int (nI q), .int d, .int (nI f), .int way, .int (nI (t + 1))]) dBD_keepAtMost_161 rfl (nI_inc t) (by decide) rfl ?_
          refine G_goto dBD_keepAtMost_164 ?_
          exact ih (t + 1) (by omega) _ (kamI_skip hI (fun z => z.2 h3))
        · refine G_aload_n dBD_keepAtMost_139 rfl ?_
          refine G_getRs fBD_11 dBD_keepAtMost_140 hB.1 hB.2.2.2.1 ?_
          refine G_iload dBD_keepAtMost_143 rfl ?_
          refine G_aaldsN 4 dBD_keepAtMost_145 (by decide) hB.2.1 hB.2.2.1 (by decide) hf (hB.2.2.2.2 f hf).1 ?_
          refine G_iload dBD_keepAtMost_146 rfl ?_
          refine G_iload dBD_keepAtMost_148 rfl ?_
          refine G_aload_n dBD_keepAtMost_150 rfl ?_
          refine G_getRs fBD_11 dBD_keepAtMost_151 hB.1 hB.2.2.2.1 ?_
          refine G_iload_n dBD_keepAtMost_154 rfl ?_
          refine G_aaldsN 4 dBD_keepAtMost_155 (by decide) hB.2.1 hB.2.2.1 (by decide) hp (hB.2.2.2.2 p hp).1 ?_
          refine G_iload dBD_keepAtMost_156 rfl ?_
          refine G_ialdN dBD_keepAtMost_158 (hB.2.2.2.2 p hp).2.1 (hB.2.2.2.2 p hp).2.2 (by decide) ht ?_
          rw [hpt]
          refine G_iadd dBD_keepAtMost_159 ?_
          refine G_iastN dBD_keepAtMost_160 (hB.2.2.2.2 f hf).2.1 (hB.2.2.2.2 f hf).2.2 (by decide) ht ?_
          refine G_iinc (ls' := [.ref bd, .int (nI p), .int (nI q), .int d, .int (nI f), .int way, .int (nI (t + 1))]) dBD_keepAtMost_161 rfl (nI_inc t) (by decide) rfl ?_
          refine G_goto dBD_keepAtMost_164 ?_
          exact ih (t + 1) (by omega) _ (kamI_put hI ⟨h2, h3⟩)
def kamS (R : Nat → Nat → Int32) (p q : Nat) (d : Int32) (ec f : Nat) : Nat → Nat → Int32 := fun i j => if i < f then kamR R p q d ec i j else R i j
theorem kamR_p {R : Nat → Nat → Int32} {p q ec : Nat} {d : Int32} (hpp : ¬ (¬ 268435456 ≤ R p q ∧ R p q + d < R p p)) (j : Nat) : kamR R p q d ec p j = R p j := by
  unfold kamR
  rw [if_neg]
  rintro ⟨-, -, h1, h2, -⟩
  exact hpp ⟨h1, h2⟩
theorem kamS_skip {gi : gI} {bd : Nat} {R : Nat → Nat → Int32} {p q ec f : Nat} {d cf : Int32} (hI : BdIs gi bd (kamS R p q d ec f) cf ec) (h : ¬ (¬ 268435456 ≤ R f q ∧ R f q + d < R f p)) : BdIs gi bd (kamS R p q d ec (f + 1)) cf ec := by
  refine ⟨hI.1, hI.2.1, fun i j hi hj => ?_⟩
  rw [hI.2.2 i j hi hj]
  unfold kamS
  by_cases e : i = f
  · subst e
    rw [if_neg (Nat.lt_irrefl _), if_pos (Nat.lt_succ_self _)]
    unfold kamR
    rw [if_neg]
    rintro ⟨-, -, h1, h2, -⟩
    exact h ⟨h1, h2⟩
  · by_cases c : i < f
    · rw [if_pos c, if_pos (by omega)]
    · rw [if_neg c, if_neg (by omega)]
theorem kamS_row {g0 gi : gI} {bd : Nat} {R : Nat → Nat → Int32} {p q ec f : Nat} {d cf : Int32} (hI : BdIs g0 bd (kamS R p q d ec f) cf ec) (hf : f < ec) (hf24 : f < 24) (hp : p < 24) (hfp : f ≠ p) (hpp : ¬ (¬ 268435456 ≤ R p q ∧ R p q + d < R p p)) (h1 : ¬ 268435456 ≤ R f q) (h2 : R f q + d < R f p) (hK : kamI g0 gi bd p f (R f q + d) ec) : BdIs gi bd (kamS R p q d ec (f + 1)) cf ec ∧ BdOff g0 gi bd := by
  have hrp : ∀ j, j < 24 → g0 (bd + 2 + p) j = R p j := by
    intro j hj
    rw [hI.2.2 p j hp hj]
    unfold kamS
    split
    · exact kamR_p hpp j
    · rfl
  have hrf : ∀ j, j < 24 → g0 (bd + 2 + f) j = R f j := by
    intro j hj
    rw [hI.2.2 f j hf24 hj]
    unfold kamS
    rw [if_neg (Nat.lt_irrefl _)]
  refine ⟨⟨by rw [hK.1 bd (by omega)]; exact hI.1, by rw [hK.1 bd (by omega)]; exact hI.2.1, fun i j hi hj => ?_⟩, fun a ha => hK.1 a (by omega)⟩
  by_cases e : i = f
  · subst e
    rw [hK.2 j hj, hrp j hj, hrf j hj]
    unfold kamS
    rw [if_pos (Nat.lt_succ_self _)]
    unfold kamR
    simp only [hf, h1, h2, true_and, not_false_eq_true]
  · rw [hK.1 (bd + 2 + i) (by omega), hI.2.2 i j hi hj]
    unfold kamS
    by_cases c : i < f
    · rw [if_pos c, if_pos (by omega)]
    · rw [if_neg c, if_neg (by omega)]
theorem kam_out {E : gE} {T : gT} {g00 : gI} {gr : gR} {bd p q ec : Nat} {d cf : Int32} {R : Nat → Nat → Int32} {Q : gQ} (hB : BdOk T gr bd) (hp : p < 24) (hq : q < 24) (hec24 : ec ≤ 24) (hpp : ¬ (¬ 268435456 ≤ R p q ∧ R p q + d < R p p))
    (kx : ∀ (gi : gI) (v5 v6 : Value), BdIs gi bd (kamS R p q d ec ec) cf ec → BdOff g00 gi bd → G E mBD_keepAtMost 173 [.ref bd, .int (nI p), .int (nI q), .int d, .int (nI ec), v5, v6] [] T gi gr 0 0 Q) : ∀ (n f : Nat), f + n = ec → ∀ (gi : gI) (v5 v6 : Value), BdIs gi bd (kamS R p q d ec f) cf ec → BdOff g00 gi bd → G E mBD_keepAtMost 35 [.ref bd, .int (nI p), .int (nI q), .int d, .int (nI f), v5, v6] [] T gi gr 0 0 Q := by
  intro n
  induction n with
  | zero =>
    intro f hfn gi v5 v6 hI hO
    refine G_iload dBD_keepAtMost_35 rfl ?_
    refine G_aload_n dBD_keepAtMost_37 rfl ?_
    refine G_getI fBD_22 dBD_keepAtMost_38 hB.1 ?_
    rw [hI.1]
    refine G_icmp_ge dBD_keepAtMost_41 (fun h1 => ?_) (fun h1 => ?_)
    · rw [show f = ec by omega]
      rw [show f = ec by omega] at hI
      exact kx gi v5 v6 hI hO
    · exact absurd (nI_le (by omega) (by omega)) h1
  | succ n ih =>
    intro f hfn gi v5 v6 hI hO
    have hf : f < 24 := by omega
    have hec : gi bd 1 = nI ec := hI.1
    have hrow : ∀ j, j < 24 → gi (bd + 2 + f) j = R f j := by
      intro j hj
      rw [hI.2.2 f j hf hj]
      unfold kamS
      rw [if_neg (Nat.lt_irrefl _)]
    have k167 : ∀ (gi : gI) (v5 v6 : Value), BdIs gi bd (kamS R p q d ec (f + 1)) cf ec → BdOff g00 gi bd → G E mBD_keepAtMost 167 [.ref bd, .int (nI p), .int (nI q), .int d, .int (nI f), v5, v6] [] T gi gr 0 0 Q := by
      intro gi v5 v6 hI hO
      refine G_iinc (ls' := [.ref bd, .int (nI p), .int (nI q), .int d, .int (nI (f + 1)), v5, v6]) dBD_keepAtMost_167 rfl (nI_inc f) (by decide) rfl ?_
      refine G_goto dBD_keepAtMost_170 ?_
      exact ih (f + 1) (by omega) gi v5 v6 hI hO
    refine G_iload dBD_keepAtMost_35 rfl ?_
    refine G_aload_n dBD_keepAtMost_37 rfl ?_
    refine G_getI fBD_22 dBD_keepAtMost_38 hB.1 ?_
    rw [hec]
    refine G_icmp_ge dBD_keepAtMost_41 (fun h1 => ?_) (fun h1 => ?_)
    · exact absurd h1 (nI_ge (by omega) (by omega))
    · refine G_aload_n dBD_keepAtMost_44 rfl ?_
      refine G_getRs fBD_11 dBD_keepAtMost_45 hB.1 hB.2.2.2.1 ?_
      refine G_iload dBD_keepAtMost_48 rfl ?_
      refine G_aaldsN 4 dBD_keepAtMost_50 (by decide) hB.2.1 hB.2.2.1 (by decide) hf (hB.2.2.2.2 f hf).1 ?_
      refine G_iload_n dBD_keepAtMost_51 rfl ?_
      refine G_ialdN dBD_keepAtMost_52 (hB.2.2.2.2 f hf).2.1 (hB.2.2.2.2 f hf).2.2 (by decide) hq ?_
      rw [hrow q hq]
      refine G_iload_n dBD_keepAtMost_53 rfl ?_
      refine G_iadd dBD_keepAtMost_54 ?_
      refine G_istore (ls' := [.ref bd, .int (nI p), .int (nI q), .int d, .int (nI f), .int ((R f q) + (d)), v6]) dBD_keepAtMost_55 (by decide) rfl ?_
      refine G_aload_n dBD_keepAtMost_57 rfl ?_
      refine G_getRs fBD_11 dBD_keepAtMost_58 hB.1 hB.2.2.2.1 ?_
      refine G_iload dBD_keepAtMost_61 rfl ?_
      refine G_aaldsN 4 dBD_keepAtMost_63 (by decide) hB.2.1 hB.2.2.1 (by decide) hf (hB.2.2.2.2 f hf).1 ?_
      refine G_iload_n dBD_keepAtMost_64 rfl ?_
      refine G_ialdN dBD_keepAtMost_65 (hB.2.2.2.2 f hf).2.1 (hB.2.2.2.2 f hf).2.2 (by decide) hq ?_
      rw [hrow q hq]
      refine G_ldc (v := 268435456) dBD_keepAtMost_66 kBD_30 ?_
      refine G_icmp_ge dBD_keepAtMost_68 (fun h2 => ?_) (fun h2 => ?_)
      · exact k167 gi _ _ (kamS_skip hI (fun z => z.1 h2)) hO
      · refine G_iload dBD_keepAtMost_71 rfl ?_
        refine G_aload_n dBD_keepAtMost_73 rfl ?_
        refine G_getRs fBD_11 dBD_keepAtMost_74 hB.1 hB.2.2.2.1 ?_
        refine G_iload dBD_keepAtMost_77 rfl ?_
        refine G_aaldsN 4 dBD_keepAtMost_79 (by decide) hB.2.1 hB.2.2.1 (by decide) hf (hB.2.2.2.2 f hf).1 ?_
        refine G_iload_n dBD_keepAtMost_80 rfl ?_
        refine G_ialdN dBD_keepAtMost_81 (hB.2.2.2.2 f hf).2.1 (hB.2.2.2.2 f hf).2.2 (by decide) hp ?_
        rw [hrow p hp]
        refine G_icmp_lt dBD_keepAtMost_82 (fun h3 => ?_) (fun h3 => ?_)
        · refine G_iconst (v := nI 0) dBD_keepAtMost_88 (by decide +kernel) ?_
          refine G_istore (ls' := [.ref bd, .int (nI p), .int (nI q), .int d, .int (nI f), .int ((R f q) + (d)), .int (nI 0)]) dBD_keepAtMost_89 (by decide) rfl ?_
          have hne : f ≠ p := fun z => hpp (by rw [z] at h2 h3; exact ⟨h2, h3⟩)
          exact kam_in hB hp hq hf hne hec24 hec (fun gi2 hK => k167 gi2 _ _ (kamS_row hI (by omega) hf hp hne hpp h2 h3 hK).1 (hO.tr (kamS_row hI (by omega) hf hp hne hpp h2 h3 hK).2)) ec 0 (Nat.zero_add _) gi kamI_0
        · refine G_goto dBD_keepAtMost_85 ?_
          exact k167 gi _ _ (kamS_skip hI (fun z => h3 z.2)) hO
theorem cBD_keepAtMost {E : gE} {T : gT} {gi : gI} {gr : gR} {bd p q ec : Nat} {d cf : Int32} {R : Nat → Nat → Int32} (hB : BdOk T gr bd) (hI : BdIs gi bd R cf ec) (hp : p < 24) (hq : q < 24) (hec24 : ec ≤ 24) (hpp : d < R q p → -(R p q) ≤ d → ¬ (¬ 268435456 ≤ R p q ∧ R p q + d < R p p)) : Ct E mBD_keepAtMost [.ref bd, .int (nI p), .int (nI q), .int d] T gi gr (fun T' gi' gr' v => T' = T ∧ gr' = gr ∧ v = none ∧ BdIs gi' bd (kamM R p q d ec) (kamC R p q d cf) ec ∧ BdOff gi gi' bd) := by
  refine Ct_of (ls := [.ref bd, .int (nI p), .int (nI q), .int d, .long 0, .long 0, .long 0]) (by decide) (gcat_cons rfl (gcat_cons rfl (gcat_cons rfl (gcat_cons rfl gcat_nil)))) (Nat.le_of_ble_eq_true rfl) rfl ?_
  refine G_iload_n dBD_keepAtMost_0 rfl ?_
  refine G_aload_n dBD_keepAtMost_1 rfl ?_
  refine G_getRs fBD_11 dBD_keepAtMost_2 hB.1 hB.2.2.2.1 ?_
  refine G_iload_n dBD_keepAtMost_5 rfl ?_
  refine G_aaldsN 4 dBD_keepAtMost_6 (by decide) hB.2.1 hB.2.2.1 (by decide) hq (hB.2.2.2.2 q hq).1 ?_
  refine G_iload_n dBD_keepAtMost_7 rfl ?_
  refine G_ialdN dBD_keepAtMost_8 (hB.2.2.2.2 q hq).2.1 (hB.2.2.2.2 q hq).2.2 (by decide) hp ?_
  rw [hI.2.2 q p hq hp]
  refine G_icmp_lt dBD_keepAtMost_9 (fun h1 => ?_) (fun h1 => ?_)
  · refine G_iload_n dBD_keepAtMost_13 rfl ?_
    refine G_aload_n dBD_keepAtMost_14 rfl ?_
    refine G_getRs fBD_11 dBD_keepAtMost_15 hB.1 hB.2.2.2.1 ?_
    refine G_iload_n dBD_keepAtMost_18 rfl ?_
    refine G_aaldsN 4 dBD_keepAtMost_19 (by decide) hB.2.1 hB.2.2.1 (by decide) hp (hB.2.2.2.2 p hp).1 ?_
    refine G_iload_n dBD_keepAtMost_20 rfl ?_
    refine G_ialdN dBD_keepAtMost_21 (hB.2.2.2.2 p hp).2.1 (hB.2.2.2.2 p hp).2.2 (by decide) hq ?_
    rw [hI.2.2 p q hp hq]
    refine G_ineg dBD_keepAtMost_22 ?_
    refine G_icmp_ge dBD_keepAtMost_23 (fun h2 => ?_) (fun h2 => ?_)
    · refine G_iconst (v := nI 0) dBD_keepAtMost_32 (by decide +kernel) ?_
      refine G_istore (ls' := [.ref bd, .int (nI p), .int (nI q), .int d, .int (nI 0), .long 0, .long 0]) dBD_keepAtMost_33 (by decide) rfl ?_
      refine kam_out (g00 := gi) (cf := cf) hB hp hq hec24 (hpp h1 h2) (fun gi2 v5 v6 hI2 hO2 => ?_) ec 0 (Nat.zero_add _) gi _ _ ⟨hI.1, hI.2.1, fun i j hi hj => by rw [hI.2.2 i j hi hj]; unfold kamS; rw [if_neg (Nat.not_lt_zero _)]⟩ BdOff.rf
      refine G_return dBD_keepAtMost_173 rfl (Nat.zero_le _) (Nat.zero_le _) ⟨rfl, rfl, rfl, ?_, hO2⟩
      unfold kamM kamC
      rw [if_pos h1, if_pos h2, if_pos h1, if_pos h2]
      refine ⟨hI2.1, hI2.2.1, fun i j hi hj => ?_⟩
      rw [hI2.2.2 i j hi hj]
      unfold kamS
      split
      · rfl
      · unfold kamR
        rw [if_neg (fun z => by omega)]
    · refine G_aload_n dBD_keepAtMost_26 rfl ?_
      refine G_iconst (v := 1) dBD_keepAtMost_27 (by decide) ?_
      refine G_putI wBD_26 (Or.inl rfl) dBD_keepAtMost_28 hB.1 (nr_z (Or.inr rfl)) (ft_z (Or.inr rfl)) ?_
      refine G_return dBD_keepAtMost_31 rfl (Nat.zero_le _) (Nat.zero_le _) ⟨rfl, rfl, rfl, ?_, fun a ha => gu_off (by omega)⟩
      unfold kamM kamC
      rw [if_pos h1, if_neg h2, if_pos h1, if_neg h2]
      exact ⟨by rw [gu_ne (Or.inr (by decide))]; exact hI.1, gu_same, fun i j hi hj => by rw [gu_ne (Or.inl (by omega))]; exact hI.2.2 i j hi hj⟩
  · exact G_return dBD_keepAtMost_12 rfl (Nat.zero_le _) (Nat.zero_le _) ⟨rfl, rfl, rfl, by unfold kamM kamC; rw [if_neg h1, if_neg h1]; exact hI, BdOff.rf⟩
end
section
abbrev A4 : Type := Int32 × Int32 × Int32 × Int32
def ArIs (gi : gI) (a : Nat) (q : A4) : Prop := gi a 0 = q.1 ∧ gi a 1 = q.2.1 ∧ gi a 2 = q.2.2.1 ∧ gi a 3 = q.2.2.2
def Off1 (gi gi' : gI) (a : Nat) : Prop := ∀ q, q ≠ a → gi' q = gi q
def A0 : A4 := (0, 0, 0, 0)
abbrev arE (q : A4) : Prop := q.2.1 ≤ q.1 ∨ q.2.2.2 ≤ q.2.2.1
abbrev arH (q : A4) (x y : Int32) : Prop := ¬ x < q.1 ∧ ¬ q.2.1 ≤ x ∧ ¬ y < q.2.2.1 ∧ ¬ q.2.2.2 ≤ y
def mxI (x y : Int32) : Int32 := if x < y then y else x
def mnI (x y : Int32) : Int32 := if y < x then y else x
def arM (q r : A4) : A4 := (mxI q.1 r.1, mnI q.2.1 r.2.1, mxI q.2.2.1 r.2.2.1, mnI q.2.2.2 r.2.2.2)
def arC (q r : A4) : A4 := if arE (arM q r) then A0 else arM q r
theorem Off1.tr {g1 g2 g3 : gI} {a : Nat} (h : Off1 g1 g2 a) (h' : Off1 g2 g3 a) : Off1 g1 g3 a := fun q hq => (h' q hq).trans (h q hq)
theorem ArIs.off {gi gi' : gI} {a b : Nat} {q : A4} (h : ArIs gi a q) (ho : Off1 gi gi' b) (hne : a ≠ b) : ArIs gi' a q := by
  unfold ArIs
  rw [ho a hne]
  exact h
theorem nI_p0 (f : Nat) : nI f + 0 = nI f := Int32.add_zero _
theorem nI_p1 (f : Nat) : nI f + 1 = nI (f + 1) := nI_1 f
theorem nI_p2 (f : Nat) : nI f + 2 = nI (f + 2) := nI_add f 2
theorem nI_p3 (f : Nat) : nI f + 3 = nI (f + 3) := nI_add f 3
theorem cAR_isEmpty {E : gE} {T : gT} {gi : gI} {gr : gR} {a : Nat} {q : A4} (ht : T.1 a = 6) (hA : ArIs gi a q) : Ct E mAR_isEmpty [.ref a] T gi gr (fun T' gi' gr' v => T' = T ∧ gi' = gi ∧ gr' = gr ∧ v = some (.int (if arE q then 1 else 0))) := by
  refine Ct_of (ls := [.ref a]) (by decide) (gcat_cons rfl gcat_nil) (Nat.le_of_ble_eq_true rfl) rfl ?_
  refine G_aload_n dAR_isEmpty_0 rfl ?_
  refine G_getI fAR_9 dAR_isEmpty_1 ht ?_
  rw [hA.1]
  refine G_aload_n dAR_isEmpty_4 rfl ?_
  refine G_getI fAR_15 dAR_isEmpty_5 ht ?_
  rw [hA.2.1]
  refine G_icmp_ge dAR_isEmpty_8 (fun h1 => ?_) (fun h1 => ?_)
  · refine G_iconst (v := 1) dAR_isEmpty_22 (by decide) ?_
    refine G_goto dAR_isEmpty_23 ?_
    exact G_ireturn dAR_isEmpty_27 rfl (nr_z (by decide)) (by decide) (by decide) ⟨rfl, rfl, rfl, by simp [arE, h1]⟩
  · refine G_aload_n dAR_isEmpty_11 rfl ?_
    refine G_getI fAR_18 dAR_isEmpty_12 ht ?_
    rw [hA.2.2.1]
    refine G_aload_n dAR_isEmpty_15 rfl ?_
    refine G_getI fAR_21 dAR_isEmpty_16 ht ?_
    rw [hA.2.2.2]
    refine G_icmp_lt dAR_isEmpty_19 (fun h2 => ?_) (fun h2 => ?_)
    · refine G_iconst (v := 0) dAR_isEmpty_26 (by decide) ?_
      exact G_ireturn dAR_isEmpty_27 rfl (nr_z (by decide)) (by decide) (by decide) ⟨rfl, rfl, rfl, by simp [arE, h1, h2]⟩
    · refine G_iconst (v := 1) dAR_isEmpty_22 (by decide) ?_
      refine G_goto dAR_isEmpty_23 ?_
      exact G_ireturn dAR_isEmpty_27 rfl (nr_z (by decide)) (by decide) (by decide) ⟨rfl, rfl, rfl, by simp [arE, h1, h2]⟩
theorem cAR_has {E : gE} {T : gT} {gi : gI} {gr : gR} {a : Nat} {q : A4} {x y : Int32} (ht : T.1 a = 6) (hA : ArIs gi a q) : Ct E mAR_has [.ref a, .int x, .int y] T gi gr (fun T' gi' gr' v => T' = T ∧ gi' = gi ∧ gr' = gr ∧ v = some (.int (if arH q x y then 1 else 0))) := by
  refine Ct_of (ls := [.ref a, .int x, .int y]) (by decide) (gcat_cons rfl (gcat_cons rfl (gcat_cons rfl gcat_nil))) (Nat.le_of_ble_eq_true rfl) rfl ?_
  refine G_aload_n dAR_has_0 rfl ?_
  refine G_getI fAR_9 dAR_has_1 ht ?_
  rw [hA.1]
  refine G_iload_n dAR_has_4 rfl ?_
  refine G_icmp_gt dAR_has_5 (fun h1 => ?_) (fun h1 => ?_)
  · refine G_iconst (v := 0) dAR_has_36 (by decide) ?_
    exact G_ireturn dAR_has_37 rfl (nr_z (by decide)) (by decide) (by decide) ⟨rfl, rfl, rfl, by simp [arH, h1]⟩
  · refine G_iload_n dAR_has_8 rfl ?_
    refine G_aload_n dAR_has_9 rfl ?_
    refine G_getI fAR_15 dAR_has_10 ht ?_
    rw [hA.2.1]
    refine G_icmp_ge dAR_has_13 (fun h2 => ?_) (fun h2 => ?_)
    · refine G_iconst (v := 0) dAR_has_36 (by decide) ?_
      exact G_ireturn dAR_has_37 rfl (nr_z (by decide)) (by decide) (by decide) ⟨rfl, rfl, rfl, by simp [arH, h1, h2]⟩
    · refine G_aload_n dAR_has_16 rfl ?_
      refine G_getI fAR_18 dAR_has_17 ht ?_
      rw [hA.2.2.1]
      refine G_iload_n dAR_has_20 rfl ?_
      refine G_icmp_gt dAR_has_21 (fun h3 => ?_) (fun h3 => ?_)
      · refine G_iconst (v := 0) dAR_has_36 (by decide) ?_
        exact G_ireturn dAR_has_37 rfl (nr_z (by decide)) (by decide) (by decide) ⟨rfl, rfl, rfl, by simp [arH, h1, h2, h3]⟩
      · refine G_iload_n dAR_has_24 rfl ?_
        refine G_aload_n dAR_has_25 rfl ?_
        refine G_getI fAR_21 dAR_has_26 ht ?_
        rw [hA.2.2.2]
        refine G_icmp_ge dAR_has_29 (fun h4 => ?_) (fun h4 => ?_)
        · refine G_iconst (v := 0) dAR_has_36 (by decide) ?_
          exact G_ireturn dAR_has_37 rfl (nr_z (by decide)) (by decide) (by decide) ⟨rfl, rfl, rfl, by simp [arH, h1, h2, h3, h4]⟩
        · refine G_iconst (v := 1) dAR_has_32 (by decide) ?_
          refine G_goto dAR_has_33 ?_
          exact G_ireturn dAR_has_37 rfl (nr_z (by decide)) (by decide) (by decide) ⟨rfl, rfl, rfl, by simp [arH, h1, h2, h3, h4]⟩
theorem cAR_isSameAs {E : gE} {T : gT} {gi : gI} {gr : gR} {a b : Nat} {q r : A4} (ht : T.1 a = 6) (htb : T.1 b = 6) (hA : ArIs gi a q) (hR : ArIs gi b r) : Ct E mAR_isSameAs [.ref a, .ref b] T gi gr (fun T' gi' gr' v => T' = T ∧ gi' = gi ∧ gr' = gr ∧ v = some (.int (if q = r then 1 else 0))) := by
  refine Ct_of (ls := [.ref a, .ref b]) (by decide) (gcat_cons rfl (gcat_cons rfl gcat_nil)) (Nat.le_of_ble_eq_true rfl) rfl ?_
  refine G_aload_n dAR_isSameAs_0 rfl ?_
  refine G_getI fAR_9 dAR_isSameAs_1 ht ?_
  rw [hA.1]
  refine G_aload_n dAR_isSameAs_4 rfl ?_
  refine G_getI fAR_9 dAR_isSameAs_5 htb ?_
  rw [hR.1]
  refine G_icmp_ne dAR_isSameAs_8 (fun h1 => ?_) (fun h1 => ?_)
  · refine G_iconst (v := 0) dAR_isSameAs_48 (by decide) ?_
    exact G_ireturn dAR_isSameAs_49 rfl (nr_z (by decide)) (by decide) (by decide) ⟨rfl, rfl, rfl, by simp [Prod.ext_iff, h1]⟩
  · refine G_aload_n dAR_isSameAs_11 rfl ?_
    refine G_getI fAR_15 dAR_isSameAs_12 ht ?_
    rw [hA.2.1]
    refine G_aload_n dAR_isSameAs_15 rfl ?_
    refine G_getI fAR_15 dAR_isSameAs_16 htb ?_
    rw [hR.2.1]
    refine G_icmp_ne dAR_isSameAs_19 (fun h2 => ?_) (fun h2 => ?_)
    · refine G_iconst (v := 0) dAR_isSameAs_48 (by decide) ?_
      exact G_ireturn dAR_isSameAs_49 rfl (nr_z (by decide)) (by decide) (by decide) ⟨rfl, rfl, rfl, by simp [Prod.ext_iff, h1, h2]⟩
    · refine G_aload_n dAR_isSameAs_22 rfl ?_
      refine G_getI fAR_18 dAR_isSameAs_23 ht ?_
      rw [hA.2.2.1]
      refine G_aload_n dAR_isSameAs_26 rfl ?_
      refine G_getI fAR_18 dAR_isSameAs_27 htb ?_
      rw [hR.2.2.1]
      refine G_icmp_ne dAR_isSameAs_30 (fun h3 => ?_) (fun h3 => ?_)
      · refine G_iconst (v := 0) dAR_isSameAs_48 (by decide) ?_
        exact G_ireturn dAR_isSameAs_49 rfl (nr_z (by decide)) (by decide) (by decide) ⟨rfl, rfl, rfl, by simp [Prod.ext_iff, h1, h2, h3]⟩
      · refine G_aload_n dAR_isSameAs_33 rfl ?_
        refine G_getI fAR_21 dAR_isSameAs_34 ht ?_
        rw [hA.2.2.2]
        refine G_aload_n dAR_isSameAs_37 rfl ?_
        refine G_getI fAR_21 dAR_isSameAs_38 htb ?_
        rw [hR.2.2.2]
        refine G_icmp_ne dAR_isSameAs_41 (fun h4 => ?_) (fun h4 => ?_)
        · refine G_iconst (v := 0) dAR_isSameAs_48 (by decide) ?_
          exact G_ireturn dAR_isSameAs_49 rfl (nr_z (by decide)) (by decide) (by decide) ⟨rfl, rfl, rfl, by simp [Prod.ext_iff, h1, h2, h3, h4]⟩
        · refine G_iconst (v := 1) dAR_isSameAs_44 (by decide) ?_
          refine G_goto dAR_isSameAs_45 ?_
          exact G_ireturn dAR_isSameAs_49 rfl (nr_z (by decide)) (by decide) (by decide) ⟨rfl, rfl, rfl, by simp [Prod.ext_iff, h1, h2, h3, h4]⟩
theorem cAR_makeEmpty {E : gE} {T : gT} {gi : gI} {gr : gR} {a : Nat} (ht : T.1 a = 6) : Ct E mAR_makeEmpty [.ref a] T gi gr (fun T' gi' gr' v => T' = T ∧ gr' = gr ∧ v = none ∧ ArIs gi' a A0 ∧ Off1 gi gi' a) := by
  refine Ct_of (ls := [.ref a]) (by decide) (gcat_cons rfl gcat_nil) (Nat.le_of_ble_eq_true rfl) rfl ?_
  refine G_aload_n dAR_makeEmpty_0 rfl ?_
  refine G_iconst (v := 0) dAR_makeEmpty_1 (by decide) ?_
  refine G_putI wAR_9 (Or.inl rfl) dAR_makeEmpty_2 ht rfl rfl ?_
  refine G_aload_n dAR_makeEmpty_5 rfl ?_
  refine G_iconst (v := 0) dAR_makeEmpty_6 (by decide) ?_
  refine G_putI wAR_15 (Or.inl rfl) dAR_makeEmpty_7 ht rfl rfl ?_
  refine G_aload_n dAR_makeEmpty_10 rfl ?_
  refine G_iconst (v := 0) dAR_makeEmpty_11 (by decide) ?_
  refine G_putI wAR_18 (Or.inl rfl) dAR_makeEmpty_12 ht rfl rfl ?_
  refine G_aload_n dAR_makeEmpty_15 rfl ?_
  refine G_iconst (v := 0) dAR_makeEmpty_16 (by decide) ?_
  refine G_putI wAR_21 (Or.inl rfl) dAR_makeEmpty_17 ht rfl rfl ?_
  exact G_return dAR_makeEmpty_20 rfl (by decide) (by decide) ⟨rfl, rfl, rfl, ⟨by simp [gu, A0], by simp [gu, A0], by simp [gu, A0], by simp [gu, A0]⟩, fun q hq => by rw [gu_off hq, gu_off hq, gu_off hq, gu_off hq]⟩
theorem cAR_copyFrom {E : gE} {T : gT} {gi : gI} {gr : gR} {a b : Nat} {r : A4} (ht : T.1 a = 6) (htb : T.1 b = 6) (hne : b ≠ a) (hR : ArIs gi b r) : Ct E mAR_copyFrom [.ref a, .ref b] T gi gr (fun T' gi' gr' v => T' = T ∧ gr' = gr ∧ v = none ∧ ArIs gi' a r ∧ Off1 gi gi' a) := by
  refine Ct_of (ls := [.ref a, .ref b]) (by decide) (gcat_cons rfl (gcat_cons rfl gcat_nil)) (Nat.le_of_ble_eq_true rfl) rfl ?_
  refine G_aload_n dAR_copyFrom_0 rfl ?_
  refine G_aload_n dAR_copyFrom_1 rfl ?_
  refine G_getI fAR_9 dAR_copyFrom_2 htb ?_
  rw [hR.1]
  refine G_putI wAR_9 (Or.inl rfl) dAR_copyFrom_5 ht rfl rfl ?_
  refine G_aload_n dAR_copyFrom_8 rfl ?_
  refine G_aload_n dAR_copyFrom_9 rfl ?_
  refine G_getI fAR_15 dAR_copyFrom_10 htb ?_
  rw [show (gu gi (a) 0 (r.1)) (b) 1 = r.2.1 from by rw [gu_off hne, hR.2.1]]
  refine G_putI wAR_15 (Or.inl rfl) dAR_copyFrom_13 ht rfl rfl ?_
  refine G_aload_n dAR_copyFrom_16 rfl ?_
  refine G_aload_n dAR_copyFrom_17 rfl ?_
  refine G_getI fAR_18 dAR_copyFrom_18 htb ?_
  rw [show (gu (gu gi (a) 0 (r.1)) (a) 1 (r.2.1)) (b) 2 = r.2.2.1 from by rw [gu_off hne, gu_off hne, hR.2.2.1]]
  refine G_putI wAR_18 (Or.inl rfl) dAR_copyFrom_21 ht rfl rfl ?_
  refine G_aload_n dAR_copyFrom_24 rfl ?_
  refine G_aload_n dAR_copyFrom_25 rfl ?_
  refine G_getI fAR_21 dAR_copyFrom_26 htb ?_
  rw [show (gu (gu (gu gi (a) 0 (r.1)) (a) 1 (r.2.1)) (a) 2 (r.2.2.1)) (b) 3 = r.2.2.2 from by rw [gu_off hne, gu_off hne, gu_off hne, hR.2.2.2]]
  refine G_putI wAR_21 (Or.inl rfl) dAR_copyFrom_29 ht rfl rfl ?_
  exact G_return dAR_copyFrom_32 rfl (by decide) (by decide) ⟨rfl, rfl, rfl, ⟨by simp [gu, A0], by simp [gu, A0], by simp [gu, A0], by simp [gu, A0]⟩, fun q hq => by rw [gu_off hq, gu_off hq, gu_off hq, gu_off hq]⟩
theorem cAR_takeEdges {E : gE} {T : gT} {gi : gI} {gr : gR} {a pl f : Nat} (ht : T.1 a = 6) (hne : pl ≠ a) (hp : T.1 pl = 100 ∧ T.2.1 pl = 24 ∧ f + 3 < 24) : Ct E mAR_takeEdges [.ref a, .ref pl, .int (nI f)] T gi gr (fun T' gi' gr' v => T' = T ∧ gr' = gr ∧ v = none ∧ ArIs gi' a (gi pl f, gi pl (f + 1), gi pl (f + 2), gi pl (f + 3)) ∧ Off1 gi gi' a) := by
  refine Ct_of (ls := [.ref a, .ref pl, .int (nI f)]) (by decide) (gcat_cons rfl (gcat_cons rfl (gcat_cons rfl gcat_nil))) (Nat.le_of_ble_eq_true rfl) rfl ?_
  refine G_aload_n dAR_takeEdges_0 rfl ?_
  refine G_aload_n dAR_takeEdges_1 rfl ?_
  refine G_iload_n dAR_takeEdges_2 rfl ?_
  refine G_iconst (v := 0) dAR_takeEdges_3 (by decide) ?_
  refine G_iadd dAR_takeEdges_4 ?_
  rw [nI_p0]
  refine G_ialdN dAR_takeEdges_5 hp.1 hp.2.1 (by decide) (by omega) ?_
  refine G_putI wAR_9 (Or.inl rfl) dAR_takeEdges_6 ht rfl rfl ?_
  refine G_aload_n dAR_takeEdges_9 rfl ?_
  refine G_aload_n dAR_takeEdges_10 rfl ?_
  refine G_iload_n dAR_takeEdges_11 rfl ?_
  refine G_iconst (v := 1) dAR_takeEdges_12 (by decide) ?_
  refine G_iadd dAR_takeEdges_13 ?_
  rw [nI_p1]
  refine G_ialdN dAR_takeEdges_14 hp.1 hp.2.1 (by decide) (by omega) ?_
  rw [show (gu gi (a) 0 (gi (pl) f)) (pl) (f + 1) = gi pl (f + 1) from by rw [gu_off hne]]
  refine G_putI wAR_15 (Or.inl rfl) dAR_takeEdges_15 ht rfl rfl ?_
  refine G_aload_n dAR_takeEdges_18 rfl ?_
  refine G_aload_n dAR_takeEdges_19 rfl ?_
  refine G_iload_n dAR_takeEdges_20 rfl ?_
  refine G_iconst (v := 2) dAR_takeEdges_21 (by decide) ?_
  refine G_iadd dAR_takeEdges_22 ?_
  rw [nI_p2]
  refine G_ialdN dAR_takeEdges_23 hp.1 hp.2.1 (by decide) (by omega) ?_
  rw [show (gu (gu gi (a) 0 (gi (pl) f)) (a) 1 (gi pl (f + 1))) (pl) (f + 2) = gi pl (f + 2) from by rw [gu_off hne, gu_off hne]]
  refine G_putI wAR_18 (Or.inl rfl) dAR_takeEdges_24 ht rfl rfl ?_
  refine G_aload_n dAR_takeEdges_27 rfl ?_
  refine G_aload_n dAR_takeEdges_28 rfl ?_
  refine G_iload_n dAR_takeEdges_29 rfl ?_
  refine G_iconst (v := 3) dAR_takeEdges_30 (by decide) ?_
  refine G_iadd dAR_takeEdges_31 ?_
  rw [nI_p3]
  refine G_ialdN dAR_takeEdges_32 hp.1 hp.2.1 (by decide) (by omega) ?_
  rw [show (gu (gu (gu gi (a) 0 (gi (pl) f)) (a) 1 (gi pl (f + 1))) (a) 2 (gi pl (f + 2))) (pl) (f + 3) = gi pl (f + 3) from by rw [gu_off hne, gu_off hne, gu_off hne]]
  refine G_putI wAR_21 (Or.inl rfl) dAR_takeEdges_33 ht rfl rfl ?_
  exact G_return dAR_takeEdges_36 rfl (by decide) (by decide) ⟨rfl, rfl, rfl, ⟨by simp [gu, A0], by simp [gu, A0], by simp [gu, A0], by simp [gu, A0]⟩, fun q hq => by rw [gu_off hq, gu_off hq, gu_off hq, gu_off hq]⟩
theorem cAR_cutTo {E : gE} {T : gT} {gi : gI} {gr : gR} {a b : Nat} {q r : A4} (ht : T.1 a = 6) (htb : T.1 b = 6) (hne : b ≠ a) (hA : ArIs gi a q) (hR : ArIs gi b r) : Ct E mAR_cutTo [.ref a, .ref b] T gi gr (fun T' gi' gr' v => T' = T ∧ gr' = gr ∧ v = none ∧ ArIs gi' a (arC q r) ∧ Off1 gi gi' a) := by
  refine Ct_of (ls := [.ref a, .ref b]) (by decide) (gcat_cons rfl (gcat_cons rfl gcat_nil)) (Nat.le_of_ble_eq_true rfl) rfl ?_
  refine G_aload_n dAR_cutTo_0 rfl ?_
  refine G_aload_n dAR_cutTo_1 rfl ?_
  refine G_getI fAR_9 dAR_cutTo_2 ht ?_
  rw [hA.1]
  refine G_aload_n dAR_cutTo_5 rfl ?_
  refine G_getI fAR_9 dAR_cutTo_6 htb ?_
  rw [hR.1]
  refine G_mmax jAR_24.1 jAR_24.2.1 jAR_24.2.2.1 jAR_24.2.2.2 dAR_cutTo_9 (by decide) (Nat.le_of_ble_eq_true rfl) (by decide) (by decide) ?_
  refine G_putI wAR_9 (Or.inl rfl) dAR_cutTo_12 ht rfl rfl ?_
  refine G_aload_n dAR_cutTo_15 rfl ?_
  refine G_aload_n dAR_cutTo_16 rfl ?_
  refine G_getI fAR_15 dAR_cutTo_17 ht ?_
  rw [show (gu gi (a) 0 (if q.1 < r.1 then r.1 else q.1)) (a) 1 = q.2.1 from by simp [gu, hA.1, hA.2.1, hA.2.2.1, hA.2.2.2]]
  refine G_aload_n dAR_cutTo_20 rfl ?_
  refine G_getI fAR_15 dAR_cutTo_21 htb ?_
  rw [show (gu gi (a) 0 (if q.1 < r.1 then r.1 else q.1)) (b) 1 = r.2.1 from by rw [gu_off hne, hR.2.1]]
  refine G_mmin jAR_30.1 jAR_30.2.1 jAR_30.2.2.1 jAR_30.2.2.2 dAR_cutTo_24 (by decide) (Nat.le_of_ble_eq_true rfl) (by decide) (by decide) ?_
  refine G_putI wAR_15 (Or.inl rfl) dAR_cutTo_27 ht rfl rfl ?_
  refine G_aload_n dAR_cutTo_30 rfl ?_
  refine G_aload_n dAR_cutTo_31 rfl ?_
  refine G_getI fAR_18 dAR_cutTo_32 ht ?_
  rw [show (gu (gu gi (a) 0 (if q.1 < r.1 then r.1 else q.1)) (a) 1 (if r.2.1 < q.2.1 then r.2.1 else q.2.1)) (a) 2 = q.2.2.1 from by simp [gu, hA.1, hA.2.1, hA.2.2.1, hA.2.2.2]]
  refine G_aload_n dAR_cutTo_35 rfl ?_
  refine G_getI fAR_18 dAR_cutTo_36 htb ?_
  rw [show (gu (gu gi (a) 0 (if q.1 < r.1 then r.1 else q.1)) (a) 1 (if r.2.1 < q.2.1 then r.2.1 else q.2.1)) (b) 2 = r.2.2.1 from by rw [gu_off hne, gu_off hne, hR.2.2.1]]
  refine G_mmax jAR_24.1 jAR_24.2.1 jAR_24.2.2.1 jAR_24.2.2.2 dAR_cutTo_39 (by decide) (Nat.le_of_ble_eq_true rfl) (by decide) (by decide) ?_
  refine G_putI wAR_18 (Or.inl rfl) dAR_cutTo_42 ht rfl rfl ?_
  refine G_aload_n dAR_cutTo_45 rfl ?_
  refine G_aload_n dAR_cutTo_46 rfl ?_
  refine G_getI fAR_21 dAR_cutTo_47 ht ?_
  rw [show (gu (gu (gu gi (a) 0 (if q.1 < r.1 then r.1 else q.1)) (a) 1 (if r.2.1 < q.2.1 then r.2.1 else q.2.1)) (a) 2 (if q.2.2.1 < r.2.2.1 then r.2.2.1 else q.2.2.1)) (a) 3 = q.2.2.2 from by simp [gu, hA.1, hA.2.1, hA.2.2.1, hA.2.2.2]]
  refine G_aload_n dAR_cutTo_50 rfl ?_
  refine G_getI fAR_21 dAR_cutTo_51 htb ?_
  rw [show (gu (gu (gu gi (a) 0 (if q.1 < r.1 then r.1 else q.1)) (a) 1 (if r.2.1 < q.2.1 then r.2.1 else q.2.1)) (a) 2 (if q.2.2.1 < r.2.2.1 then r.2.2.1 else q.2.2.1)) (b) 3 = r.2.2.2 from by rw [gu_off hne, gu_off hne, gu_off hne, hR.2.2.2]]
  refine G_mmin jAR_30.1 jAR_30.2.1 jAR_30.2.2.1 jAR_30.2.2.2 dAR_cutTo_54 (by decide) (Nat.le_of_ble_eq_true rfl) (by decide) (by decide) ?_
  refine G_putI wAR_21 (Or.inl rfl) dAR_cutTo_57 ht rfl rfl ?_
  refine G_aload_n dAR_cutTo_60 rfl ?_
  have hA1 : ArIs (gu (gu (gu (gu gi (a) 0 (if q.1 < r.1 then r.1 else q.1)) (a) 1 (if r.2.1 < q.2.1 then r.2.1 else q.2.1)) (a) 2 (if q.2.2.1 < r.2.2.1 then r.2.2.1 else q.2.2.1)) (a) 3 (if r.2.2.2 < q.2.2.2 then r.2.2.2 else q.2.2.2)) a (arM q r) := ⟨by simp [gu, arM, mxI, mnI], by simp [gu, arM, mxI, mnI], by simp [gu, arM, mxI, mnI], by simp [gu, arM, mxI, mnI]⟩
  have hO1 : Off1 gi (gu (gu (gu (gu gi (a) 0 (if q.1 < r.1 then r.1 else q.1)) (a) 1 (if r.2.1 < q.2.1 then r.2.1 else q.2.1)) (a) 2 (if q.2.2.1 < r.2.2.1 then r.2.2.1 else q.2.2.1)) (a) 3 (if r.2.2.2 < q.2.2.2 then r.2.2.2 else q.2.2.2)) a := fun q hq => by rw [gu_off hq, gu_off hq, gu_off hq, gu_off hq]
  refine G_callV (As := []) (rest := []) gAR_cutTo_AR_isEmpty lAR_33.1 lAR_33.2.1 lAR_33.2.2.1 lAR_33.2.2.2 dAR_cutTo_61 rfl (Nat.le_of_ble_eq_true rfl) ht ⟨by decide, by decide⟩ (cAR_isEmpty ht hA1) ?_
  rintro _ _ _ _ ⟨rfl, rfl, rfl, rfl⟩
  refine G_st (st' := [.int (if arE (arM q r) then 1 else 0)]) rfl ?_
  refine G_if_eq dAR_cutTo_64 (fun h1 => ?_) (fun h1 => ?_)
  · have hE : ¬ arE (arM q r) := fun c => by rw [if_pos c] at h1; exact absurd h1 (by decide)
    exact G_return dAR_cutTo_71 rfl (by decide) (by decide) ⟨rfl, rfl, rfl, by unfold arC; rw [if_neg hE]; exact hA1, hO1⟩
  · refine G_aload_n dAR_cutTo_67 rfl ?_
    refine G_callV (As := []) (rest := []) gAR_cutTo_AR_makeEmpty lAR_37.1 lAR_37.2.1 lAR_37.2.2.1 lAR_37.2.2.2 dAR_cutTo_68 rfl (Nat.le_of_ble_eq_true rfl) ht ⟨by decide, by decide⟩ (cAR_makeEmpty ht) ?_
    rintro _ g2 _ _ ⟨rfl, rfl, rfl, hA2, hO2⟩
    refine G_st (st' := []) rfl ?_
    have hE : arE (arM q r) := by by_cases c : arE (arM q r); exact c; exact absurd (if_neg c) h1
    exact G_return dAR_cutTo_71 rfl (by decide) (by decide) ⟨rfl, rfl, rfl, by unfold arC; rw [if_pos hE]; exact hA2, hO1.tr hO2⟩
end
section
def nearI (w l m : Int32) : Int32 := if l ≤ w then (if w ≤ m then w else m) else l
def KOk (R : Nat → Nat → Int32) (p q : Nat) (d : Int32) : Prop := d < R q p → -(R p q) ≤ d → ¬ (¬ 268435456 ≤ R p q ∧ R p q + d < R p p)
def fixM (R : Nat → Nat → Int32) (p q : Nat) (d : Int32) (ec : Nat) : Nat → Nat → Int32 := kamM (kamM R p q d ec) q p (-d) ec
def fixC (R : Nat → Nat → Int32) (p q : Nat) (d : Int32) (ec : Nat) (cf : Int32) : Int32 := kamC (kamM R p q d ec) q p (-d) (kamC R p q d cf)
theorem cDV_nearest {E : gE} {T : gT} {gi : gI} {gr : gR} {x l m : Int32}  : Ct E mDV_nearest [.int x, .int l, .int m] T gi gr (fun T' gi' gr' v => T' = T ∧ gi' = gi ∧ gr' = gr ∧ v = some (.int (nearI x l m))) := by
  refine Ct_of (ls := [.int x, .int l, .int m]) (by decide) (gcat_cons rfl (gcat_cons rfl (gcat_cons rfl gcat_nil))) (Nat.le_of_ble_eq_true rfl) rfl ?_
  refine G_iload_n dDV_nearest_0 rfl ?_
  refine G_iload_n dDV_nearest_1 rfl ?_
  refine G_icmp_ge dDV_nearest_2 (fun h1 => ?_) (fun h1 => ?_)
  · refine G_iload_n dDV_nearest_7 rfl ?_
    refine G_iload_n dDV_nearest_8 rfl ?_
    refine G_icmp_le dDV_nearest_9 (fun h2 => ?_) (fun h2 => ?_)
    · refine G_iload_n dDV_nearest_16 rfl ?_
      exact G_ireturn dDV_nearest_17 rfl rfl (by decide) (by decide) ⟨rfl, rfl, rfl, by simp [nearI, h1, h2]⟩
    · refine G_iload_n dDV_nearest_12 rfl ?_
      refine G_goto dDV_nearest_13 ?_
      exact G_ireturn dDV_nearest_17 rfl rfl (by decide) (by decide) ⟨rfl, rfl, rfl, by simp [nearI, h1, h2]⟩
  · refine G_iload_n dDV_nearest_5 rfl ?_
    exact G_ireturn dDV_nearest_6 rfl rfl (by decide) (by decide) ⟨rfl, rfl, rfl, by simp [nearI, h1]⟩
theorem cAR_init {E : gE} {T : gT} {gi : gI} {gr : gR} {a : Nat}  : Ct E mAR_init [.ref a] T gi gr (fun T' gi' gr' v => T' = T ∧ gi' = gi ∧ gr' = gr ∧ v = none) := by
  refine Ct_of (ls := [.ref a]) (by decide) (gcat_cons rfl gcat_nil) (Nat.le_of_ble_eq_true rfl) rfl ?_
  refine G_aload_n dAR_init_0 rfl ?_
  refine G_objInit oAR_3.1 oAR_3.2.1 oAR_3.2.2 dAR_init_1 (by decide) (Nat.le_of_ble_eq_true rfl) ?_
  exact G_return dAR_init_4 rfl (by decide) (by decide) ⟨rfl, rfl, rfl, rfl⟩
theorem JF_loop {E : gE} {T : gT} {g0 : gI} {gr : gR} {a len : Nat} {x : Int32} {Q : gQ} (ht : T.1 a = 100) (hl : T.2.1 a = len) (hb : len < 2 ^ 31) (kx : ∀ gi : gI, Off1 g0 gi a → (∀ j, j < len → gi a j = x) → Q T gi gr none) : ∀ (n i : Nat), i + n = len → ∀ gi : gI, Off1 g0 gi a → (∀ j, j < i → gi a j = x) → G E mJF_fill 5 [.ref a, .int x, .int (nI i), .int (nI len)] [] T gi gr 0 0 Q := by
  intro n
  induction n with
  | zero =>
    intro i hi gi hO hA
    refine G_iload_n dJF_fill_5 rfl ?_
    refine G_iload_n dJF_fill_6 rfl ?_
    refine G_icmp_ge dJF_fill_7 (fun h1 => ?_) (fun h1 => ?_)
    · exact G_return dJF_fill_20 rfl (by decide) (by decide) (kx gi hO (fun j hj => hA j (by omega)))
    · exact absurd (nI_le (by omega) (by omega)) h1
  | succ n ih =>
    intro i hi gi hO hA
    refine G_iload_n dJF_fill_5 rfl ?_
    refine G_iload_n dJF_fill_6 rfl ?_
    refine G_icmp_ge dJF_fill_7 (fun h1 => ?_) (fun h1 => ?_)
    · exact absurd h1 (nI_ge (by omega) (by omega))
    · refine G_aload_n dJF_fill_10 rfl ?_
      refine G_iload_n dJF_fill_11 rfl ?_
      refine G_iload_n dJF_fill_12 rfl ?_
      refine G_iastN dJF_fill_13 ht hl hb (by omega) ?_
      refine G_iinc (ls' := [.ref a, .int x, .int (nI (i + 1)), .int (nI len)]) dJF_fill_14 rfl (nI_inc i) (by decide) rfl ?_
      refine G_goto dJF_fill_17 ?_
      refine ih (i + 1) (by omega) _ (fun q hq => by rw [gu_off hq]; exact hO q hq) (fun j hj => ?_)
      rw [gu_row]
      by_cases e : j = i
      · rw [if_pos e]
      · rw [if_neg e]; exact hA j (by omega)
theorem cJF_fill {E : gE} {T : gT} {gi : gI} {gr : gR} {a len : Nat} {x : Int32} (ht : T.1 a = 100) (hl : T.2.1 a = len) (hb : len < 2 ^ 31) : Ct E mJF_fill [.ref a, .int x] T gi gr (fun T' gi' gr' v => T' = T ∧ gr' = gr ∧ v = none ∧ Off1 gi gi' a ∧ ∀ j, j < len → gi' a j = x) := by
  refine Ct_of (ls := [.ref a, .int x, .long 0, .long 0]) (by decide) (gcat_cons rfl (gcat_cons rfl gcat_nil)) (Nat.le_of_ble_eq_true rfl) rfl ?_
  refine G_iconst (v := nI 0) dJF_fill_0 (by decide +kernel) ?_
  refine G_istore_n (ls' := [.ref a, .int x, .int (nI 0), .long 0]) dJF_fill_1 (by decide) rfl ?_
  refine G_aload_n dJF_fill_2 rfl ?_
  refine G_alen 0 (v := nI len) dJF_fill_3 (by decide) ht (by rw [hl]; rfl) ?_
  refine G_istore_n (ls' := [.ref a, .int x, .int (nI 0), .int (nI len)]) dJF_fill_4 (by decide) rfl ?_
  exact JF_loop ht hl hb (fun g2 hO hA => ⟨rfl, rfl, rfl, hO, hA⟩) len 0 (Nat.zero_add _) gi (fun _ _ => rfl) (fun j hj => absurd hj (Nat.not_lt_zero _))
theorem cBD_fix {E : gE} {T : gT} {gi : gI} {gr : gR} {bd p q ec : Nat} {d cf : Int32} {R : Nat → Nat → Int32} (hB : BdOk T gr bd) (hI : BdIs gi bd R cf ec) (hp : p < 24) (hq : q < 24) (hec24 : ec ≤ 24) (hk1 : KOk R p q d) (hk2 : KOk (kamM R p q d ec) q p (-d)) : Ct E mBD_fix [.ref bd, .int (nI p), .int (nI q), .int d] T gi gr (fun T' gi' gr' v => T' = T ∧ gr' = gr ∧ v = none ∧ BdIs gi' bd (fixM R p q d ec) (fixC R p q d ec cf) ec ∧ BdOff gi gi' bd) := by
  refine Ct_of (ls := [.ref bd, .int (nI p), .int (nI q), .int d]) (by decide) (gcat_cons rfl (gcat_cons rfl (gcat_cons rfl (gcat_cons rfl gcat_nil)))) (Nat.le_of_ble_eq_true rfl) rfl ?_
  refine G_aload_n dBD_fix_0 rfl ?_
  refine G_iload_n dBD_fix_1 rfl ?_
  refine G_iload_n dBD_fix_2 rfl ?_
  refine G_iload_n dBD_fix_3 rfl ?_
  refine G_callV (As := [.int (nI p), .int (nI q), .int d]) (rest := []) gBD_fix_BD_keepAtMost lBD_37.1 lBD_37.2.1 lBD_37.2.2.1 lBD_37.2.2.2 dBD_fix_4 rfl (Nat.le_of_ble_eq_true rfl) hB.1 ⟨by decide, by decide⟩ (cBD_keepAtMost hB hI hp hq hec24 hk1) ?_
  rintro _ g1 _ _ ⟨rfl, rfl, rfl, hI1, hO1⟩
  refine G_st (st' := []) rfl ?_
  refine G_aload_n dBD_fix_7 rfl ?_
  refine G_iload_n dBD_fix_8 rfl ?_
  refine G_iload_n dBD_fix_9 rfl ?_
  refine G_iload_n dBD_fix_10 rfl ?_
  refine G_ineg dBD_fix_11 ?_
  refine G_callV (As := [.int (nI q), .int (nI p), .int (-(d))]) (rest := []) gBD_fix_BD_keepAtMost lBD_37.1 lBD_37.2.1 lBD_37.2.2.1 lBD_37.2.2.2 dBD_fix_12 rfl (Nat.le_of_ble_eq_true rfl) hB.1 ⟨by decide, by decide⟩ (cBD_keepAtMost hB hI1 hq hp hec24 hk2) ?_
  rintro _ g2 _ _ ⟨rfl, rfl, rfl, hI2, hO2⟩
  refine G_st (st' := []) rfl ?_
  exact G_return dBD_fix_15 rfl (by decide) (by decide) ⟨rfl, rfl, rfl, hI2, hO1.tr hO2⟩
theorem cBD_keepAtLeast {E : gE} {T : gT} {gi : gI} {gr : gR} {bd p q ec : Nat} {d cf : Int32} {R : Nat → Nat → Int32} (hB : BdOk T gr bd) (hI : BdIs gi bd R cf ec) (hp : p < 24) (hq : q < 24) (hec24 : ec ≤ 24) (hk1 : KOk R q p (-d)) : Ct E mBD_keepAtLeast [.ref bd, .int (nI p), .int (nI q), .int d] T gi gr (fun T' gi' gr' v => T' = T ∧ gr' = gr ∧ v = none ∧ BdIs gi' bd (kamM R q p (-d) ec) (kamC R q p (-d) cf) ec ∧ BdOff gi gi' bd) := by
  refine Ct_of (ls := [.ref bd, .int (nI p), .int (nI q), .int d]) (by decide) (gcat_cons rfl (gcat_cons rfl (gcat_cons rfl (gcat_cons rfl gcat_nil)))) (Nat.le_of_ble_eq_true rfl) rfl ?_
  refine G_aload_n dBD_keepAtLeast_0 rfl ?_
  refine G_iload_n dBD_keepAtLeast_1 rfl ?_
  refine G_iload_n dBD_keepAtLeast_2 rfl ?_
  refine G_iload_n dBD_keepAtLeast_3 rfl ?_
  refine G_ineg dBD_keepAtLeast_4 ?_
  refine G_callV (As := [.int (nI q), .int (nI p), .int (-(d))]) (rest := []) gBD_keepAtLeast_BD_keepAtMost lBD_37.1 lBD_37.2.1 lBD_37.2.2.1 lBD_37.2.2.2 dBD_keepAtLeast_5 rfl (Nat.le_of_ble_eq_true rfl) hB.1 ⟨by decide, by decide⟩ (cBD_keepAtMost hB hI hq hp hec24 hk1) ?_
  rintro _ g1 _ _ ⟨rfl, rfl, rfl, hI1, hO1⟩
  refine G_st (st' := []) rfl ?_
  exact G_return dBD_keepAtLeast_8 rfl (by decide) (by decide) ⟨rfl, rfl, rfl, hI1, hO1⟩
theorem cBD_fixNear {E : gE} {T : gT} {gi : gI} {gr : gR} {bd p q ec : Nat} {d cf : Int32} {R : Nat → Nat → Int32} (hB : BdOk T gr bd) (hI : BdIs gi bd R cf ec) (hp : p < 24) (hq : q < 24) (hec24 : ec ≤ 24) (hk1 : KOk R p q (nearI d (-(R p q)) (R q p))) (hk2 : KOk (kamM R p q (nearI d (-(R p q)) (R q p)) ec) q p (-(nearI d (-(R p q)) (R q p)))) : Ct E mBD_fixNear [.ref bd, .int (nI p), .int (nI q), .int d] T gi gr (fun T' gi' gr' v => T' = T ∧ gr' = gr ∧ v = some (.int (nearI d (-(R p q)) (R q p))) ∧ BdIs gi' bd (fixM R p q (nearI d (-(R p q)) (R q p)) ec) (fixC R p q (nearI d (-(R p q)) (R q p)) ec cf) ec ∧ BdOff gi gi' bd) := by
  refine Ct_of (ls := [.ref bd, .int (nI p), .int (nI q), .int d, .long 0]) (by decide) (gcat_cons rfl (gcat_cons rfl (gcat_cons rfl (gcat_cons rfl gcat_nil)))) (Nat.le_of_ble_eq_true rfl) rfl ?_
  refine G_iload_n dBD_fixNear_0 rfl ?_
  refine G_aload_n dBD_fixNear_1 rfl ?_
  refine G_iload_n dBD_fixNear_2 rfl ?_
  refine G_iload_n dBD_fixNear_3 rfl ?_
  refine G_callV (As := [.int (nI p), .int (nI q)]) (rest := [.int d]) gBD_fixNear_BD_lowest lBD_41.1 lBD_41.2.1 lBD_41.2.2.1 lBD_41.2.2.2 dBD_fixNear_4 rfl (Nat.le_of_ble_eq_true rfl) hB.1 ⟨by decide, by decide⟩ (cBD_lowest hB hp hq) ?_
  rintro _ _ _ _ ⟨rfl, rfl, rfl, rfl⟩
  rw [hI.2.2 p q hp hq]
  refine G_st (st' := [.int (-(R p q)), .int d]) rfl ?_
  refine G_aload_n dBD_fixNear_7 rfl ?_
  refine G_iload_n dBD_fixNear_8 rfl ?_
  refine G_iload_n dBD_fixNear_9 rfl ?_
  refine G_callV (As := [.int (nI p), .int (nI q)]) (rest := [.int (-(R p q)), .int d]) gBD_fixNear_BD_highest lBD_44.1 lBD_44.2.1 lBD_44.2.2.1 lBD_44.2.2.2 dBD_fixNear_10 rfl (Nat.le_of_ble_eq_true rfl) hB.1 ⟨by decide, by decide⟩ (cBD_highest hB hp hq) ?_
  rintro _ _ _ _ ⟨rfl, rfl, rfl, rfl⟩
  rw [hI.2.2 q p hq hp]
  refine G_st (st' := [.int (R q p), .int (-(R p q)), .int d]) rfl ?_
  refine G_callSN (As := [.int d, .int (-(R p q)), .int (R q p)]) (rest := []) gBD_fixNear_DV_nearest lBD_47.1 lBD_47.2 dBD_fixNear_13 rfl (Nat.le_of_ble_eq_true rfl) ⟨by decide, by decide⟩ cDV_nearest ?_
  rintro _ _ _ _ ⟨rfl, rfl, rfl, rfl⟩
  refine G_st (st' := [.int (nearI d (-(R p q)) (R q p))]) rfl ?_
  refine G_istore (ls' := [.ref bd, .int (nI p), .int (nI q), .int d, .int (nearI d (-(R p q)) (R q p))]) dBD_fixNear_16 (by decide) rfl ?_
  refine G_aload_n dBD_fixNear_18 rfl ?_
  refine G_iload_n dBD_fixNear_19 rfl ?_
  refine G_iload_n dBD_fixNear_20 rfl ?_
  refine G_iload dBD_fixNear_21 rfl ?_
  refine G_callV (As := [.int (nI p), .int (nI q), .int (nearI d (-(R p q)) (R q p))]) (rest := []) gBD_fixNear_BD_keepAtMost lBD_37.1 lBD_37.2.1 lBD_37.2.2.1 lBD_37.2.2.2 dBD_fixNear_23 rfl (Nat.le_of_ble_eq_true rfl) hB.1 ⟨by decide, by decide⟩ (cBD_keepAtMost hB hI hp hq hec24 hk1) ?_
  rintro _ g1 _ _ ⟨rfl, rfl, rfl, hI1, hO1⟩
  refine G_st (st' := []) rfl ?_
  refine G_aload_n dBD_fixNear_26 rfl ?_
  refine G_iload_n dBD_fixNear_27 rfl ?_
  refine G_iload_n dBD_fixNear_28 rfl ?_
  refine G_iload dBD_fixNear_29 rfl ?_
  refine G_ineg dBD_fixNear_31 ?_
  refine G_callV (As := [.int (nI q), .int (nI p), .int (-(nearI d (-(R p q)) (R q p)))]) (rest := []) gBD_fixNear_BD_keepAtMost lBD_37.1 lBD_37.2.1 lBD_37.2.2.1 lBD_37.2.2.2 dBD_fixNear_32 rfl (Nat.le_of_ble_eq_true rfl) hB.1 ⟨by decide, by decide⟩ (cBD_keepAtMost hB hI1 hq hp hec24 hk2) ?_
  rintro _ g2 _ _ ⟨rfl, rfl, rfl, hI2, hO2⟩
  refine G_st (st' := []) rfl ?_
  refine G_iload dBD_fixNear_35 rfl ?_
  exact G_ireturn dBD_fixNear_37 rfl rfl (by decide) (by decide) ⟨rfl, rfl, rfl, hI2, hO1.tr hO2⟩
def opR (R : Nat → Nat → Int32) (ec : Nat) : Nat → Nat → Int32 := fun i j => if i < ec then (if i = j then 0 else 268435456) else R i j
theorem mn24 {ec : Nat} (h : ec ≤ 24) : (if (24 : Int32) < nI ec then (24 : Int32) else nI ec) = nI ec := by
  rw [if_neg]
  exact nI_nlt (a := 24) (by omega) (by decide)
theorem op_loop {E : gE} {T : gT} {g0 : gI} {gr : gR} {bd ec : Nat} {R : Nat → Nat → Int32} {Q : gQ} (hB : BdOk T gr bd) (hec24 : ec ≤ 24) (v1 : Value) (kx : ∀ gi : gI, BdIs gi bd (opR R ec) 0 ec → BdOff g0 gi bd → Q T gi gr none) : ∀ (n i : Nat), i + n = ec → ∀ gi : gI, BdIs gi bd (opR R i) 0 ec → BdOff g0 gi bd → G E mBD_open 17 [.ref bd, v1, .int (nI i)] [] T gi gr 0 0 Q := by
  intro n
  induction n with
  | zero =>
    intro i hi gi hI hO
    refine G_iload_n dBD_open_17 rfl ?_
    refine G_aload_n dBD_open_18 rfl ?_
    refine G_getI fBD_22 dBD_open_19 hB.1 ?_
    rw [hI.1]
    refine G_icmp_ge dBD_open_22 (fun h1 => ?_) (fun h1 => ?_)
    · refine G_return dBD_open_51 rfl (by decide) (by decide) (kx gi ?_ hO)
      rw [show ec = i by omega]
      rw [show ec = i by omega] at hI
      exact hI
    · exact absurd (nI_le (by omega) (by omega)) h1
  | succ n ih =>
    intro i hi gi hI hO
    have hi24 : i < 24 := by omega
    refine G_iload_n dBD_open_17 rfl ?_
    refine G_aload_n dBD_open_18 rfl ?_
    refine G_getI fBD_22 dBD_open_19 hB.1 ?_
    rw [hI.1]
    refine G_icmp_ge dBD_open_22 (fun h1 => ?_) (fun h1 => ?_)
    · exact absurd h1 (nI_ge (by omega) (by omega))
    · refine G_aload_n dBD_open_25 rfl ?_
      refine G_getRs fBD_11 dBD_open_26 hB.1 hB.2.2.2.1 ?_
      refine G_iload_n dBD_open_29 rfl ?_
      refine G_aaldsN 4 dBD_open_30 (by decide) hB.2.1 hB.2.2.1 (by decide) hi24 (hB.2.2.2.2 i hi24).1 ?_
      refine G_ldc (v := 268435456) dBD_open_31 kBD_30 ?_
      refine G_callS (As := [.ref (bd + 2 + i), .int 268435456]) (rest := []) gBD_open_JF_fill lBD_31.1 lBD_31.2 dBD_open_33 rfl (Nat.le_of_ble_eq_true rfl) ⟨by decide, by decide⟩ (cJF_fill (hB.2.2.2.2 i hi24).2.1 (hB.2.2.2.2 i hi24).2.2 (by decide)) ?_
      rintro _ g1 _ _ ⟨rfl, rfl, rfl, hO1, hA1⟩
      refine G_st (st' := []) rfl ?_
      refine G_aload_n dBD_open_36 rfl ?_
      refine G_getRs fBD_11 dBD_open_37 hB.1 hB.2.2.2.1 ?_
      refine G_iload_n dBD_open_40 rfl ?_
      refine G_aaldsN 4 dBD_open_41 (by decide) hB.2.1 hB.2.2.1 (by decide) hi24 (hB.2.2.2.2 i hi24).1 ?_
      refine G_iload_n dBD_open_42 rfl ?_
      refine G_iconst (v := 0) dBD_open_43 (by decide) ?_
      refine G_iastN dBD_open_44 (hB.2.2.2.2 i hi24).2.1 (hB.2.2.2.2 i hi24).2.2 (by decide) hi24 ?_
      refine G_iinc (ls' := [.ref bd, v1, .int (nI (i + 1))]) dBD_open_45 rfl (nI_inc i) (by decide) rfl ?_
      refine G_goto dBD_open_48 ?_
      have hr : ∀ a, a ≠ bd + 2 + i → gu g1 (bd + 2 + i) i 0 a = gi a := fun a ha => by rw [gu_off ha]; exact hO1 a ha
      refine ih (i + 1) (by omega) _ ⟨by rw [hr bd (by omega)]; exact hI.1, by rw [hr bd (by omega)]; exact hI.2.1, fun a j ha hj => ?_⟩ (fun a ha => by rw [hr a (by omega)]; exact hO a ha)
      by_cases e : a = i
      · subst e
        rw [gu_row]
        unfold opR
        rw [if_pos (Nat.lt_succ_self _)]
        by_cases ej : j = a
        · rw [if_pos ej, if_pos ej.symm]
        · rw [if_neg ej, if_neg (fun z => ej z.symm)]
          exact hA1 j hj
      · rw [hr (bd + 2 + a) (by omega), hI.2.2 a j ha hj]
        unfold opR
        by_cases c : a < i
        · simp only [if_pos c, if_pos (show a < i + 1 by omega)]
        · simp only [if_neg c, if_neg (show ¬ a < i + 1 by omega)]
theorem cBD_open {E : gE} {T : gT} {gi : gI} {gr : gR} {bd ec ec0 : Nat} {cf : Int32} {R : Nat → Nat → Int32} (hB : BdOk T gr bd) (hI : BdIs gi bd R cf ec0) (hec24 : ec ≤ 24) : Ct E mBD_open [.ref bd, .int (nI ec)] T gi gr (fun T' gi' gr' v => T' = T ∧ gr' = gr ∧ v = none ∧ BdIs gi' bd (opR R ec) 0 ec ∧ BdOff gi gi' bd) := by
  refine Ct_of (ls := [.ref bd, .int (nI ec), .long 0]) (by decide) (gcat_cons rfl (gcat_cons rfl gcat_nil)) (Nat.le_of_ble_eq_true rfl) rfl ?_
  refine G_aload_n dBD_open_0 rfl ?_
  refine G_iload_n dBD_open_1 rfl ?_
  refine G_bipush (v := 24) dBD_open_2 (by decide) ?_
  refine G_mmin jBD_16.1 jBD_16.2.1 jBD_16.2.2.1 jBD_16.2.2.2 dBD_open_4 (by decide) (Nat.le_of_ble_eq_true rfl) (by decide) (by decide) ?_
  rw [mn24 hec24]
  refine G_putI wBD_22 (Or.inl rfl) dBD_open_7 hB.1 rfl rfl ?_
  refine G_aload_n dBD_open_10 rfl ?_
  refine G_iconst (v := 0) dBD_open_11 (by decide) ?_
  refine G_putI wBD_26 (Or.inl rfl) dBD_open_12 hB.1 (nr_z (Or.inl rfl)) (ft_z (Or.inl rfl)) ?_
  refine G_iconst (v := nI 0) dBD_open_15 (by decide +kernel) ?_
  refine G_istore_n (ls' := [.ref bd, .int (nI ec), .int (nI 0)]) dBD_open_16 (by decide) rfl ?_
  refine op_loop (g0 := gi) (R := R) hB hec24 _ (fun g2 hI2 hO2 => ⟨rfl, rfl, rfl, hI2, hO2⟩) ec 0 (Nat.zero_add _) _ ⟨?_, gu_same, fun i j hi hj => ?_⟩ (fun a ha => by rw [gu_off (by omega), gu_off (by omega)])
  · rw [gu_ne (Or.inr (by decide)), gu_same]
  · rw [gu_off (by omega), gu_off (by omega), hI.2.2 i j hi hj]
    unfold opR
    rw [if_neg (Nat.not_lt_zero _)]
end
section
abbrev K5 : Type := Nat × Nat × Int32 × Nat × Nat
def CnIs (gi : gI) (ck : Nat) (κ : K5) : Prop := gi ck 0 = nI κ.2.2.2.2 ∧ gi ck 1 = nI κ.1 ∧ gi ck 2 = nI κ.2.1 ∧ gi ck 3 = κ.2.2.1 ∧ gi ck 4 = nI κ.2.2.2.1
def CnOk (κ : K5) : Prop := κ.1 < 24 ∧ κ.2.1 < 24 ∧ κ.2.2.2.1 < 2 ∧ κ.2.2.2.2 < 4
def erI (c a b : Int32) (fm : Nat) : Int32 := if fm = 0 then (if 0 ≤ c - (a - b) then c - (a - b) else 0 - (c - (a - b))) else (if 0 < c - (a - b) then c - (a - b) else 0)
theorem nI_z {a : Nat} (ha : a < 2 ^ 31) : nI a = 0 ↔ a = 0 := nI_eq (b := 0) ha (by decide)
def demM (R : Nat → Nat → Int32) (κ : K5) (ec : Nat) : Nat → Nat → Int32 := if κ.2.2.2.1 = 0 then fixM R κ.1 κ.2.1 κ.2.2.1 ec else kamM R κ.2.1 κ.1 (-κ.2.2.1) ec
def demC (R : Nat → Nat → Int32) (κ : K5) (ec : Nat) (cf : Int32) : Int32 := if κ.2.2.2.1 = 0 then fixC R κ.1 κ.2.1 κ.2.2.1 ec cf else kamC R κ.2.1 κ.1 (-κ.2.2.1) cf
def demK (R : Nat → Nat → Int32) (κ : K5) (ec : Nat) : Prop := (κ.2.2.2.1 = 0 → KOk R κ.1 κ.2.1 κ.2.2.1 ∧ KOk (kamM R κ.1 κ.2.1 κ.2.2.1 ec) κ.2.1 κ.1 (-κ.2.2.1)) ∧ (¬ κ.2.2.2.1 = 0 → KOk R κ.2.1 κ.1 (-κ.2.2.1))
def lowD (R : Nat → Nat → Int32) (κ : K5) : Int32 := nearI κ.2.2.1 (-(R κ.1 κ.2.1)) (R κ.2.1 κ.1)
def lowE (R : Nat → Nat → Int32) (κ : K5) : Int32 := if R κ.2.1 κ.1 < κ.2.2.1 then R κ.2.1 κ.1 else κ.2.2.1
def lerM (R : Nat → Nat → Int32) (κ : K5) (ec : Nat) : Nat → Nat → Int32 := if κ.2.2.2.1 = 0 then fixM R κ.1 κ.2.1 (lowD R κ) ec else kamM R κ.2.1 κ.1 (-(lowE R κ)) ec
def lerC (R : Nat → Nat → Int32) (κ : K5) (ec : Nat) (cf : Int32) : Int32 := if κ.2.2.2.1 = 0 then fixC R κ.1 κ.2.1 (lowD R κ) ec cf else kamC R κ.2.1 κ.1 (-(lowE R κ)) cf
def lerK (R : Nat → Nat → Int32) (κ : K5) (ec : Nat) : Prop := (κ.2.2.2.1 = 0 → KOk R κ.1 κ.2.1 (lowD R κ) ∧ KOk (kamM R κ.1 κ.2.1 (lowD R κ) ec) κ.2.1 κ.1 (-(lowD R κ))) ∧ (¬ κ.2.2.2.1 = 0 → KOk R κ.2.1 κ.1 (-(lowE R κ)))
theorem cCN_errorIn {E : gE} {T : gT} {gi : gI} {gr : gR} {ck pl : Nat} {κ : K5} (ht : T.1 ck = 7) (hC : CnIs gi ck κ) (hk : CnOk κ) (hp : T.1 pl = 100 ∧ T.2.1 pl = 24) : Ct E mCN_errorIn [.ref ck, .ref pl] T gi gr (fun T' gi' gr' v => T' = T ∧ gi' = gi ∧ gr' = gr ∧ v = some (.int (erI κ.2.2.1 (gi pl κ.1) (gi pl κ.2.1) κ.2.2.2.1))) := by
  refine Ct_of (ls := [.ref ck, .ref pl, .long 0]) (by decide) (gcat_cons rfl (gcat_cons rfl gcat_nil)) (Nat.le_of_ble_eq_true rfl) rfl ?_
  refine G_aload_n dCN_errorIn_0 rfl ?_
  refine G_getI fCN_18 dCN_errorIn_1 ht ?_
  rw [hC.2.2.2.1]
  refine G_aload_n dCN_errorIn_4 rfl ?_
  refine G_aload_n dCN_errorIn_5 rfl ?_
  refine G_getI fCN_9 dCN_errorIn_6 ht ?_
  rw [hC.2.1]
  refine G_ialdN dCN_errorIn_9 hp.1 hp.2 (by decide) hk.1 ?_
  refine G_aload_n dCN_errorIn_10 rfl ?_
  refine G_aload_n dCN_errorIn_11 rfl ?_
  refine G_getI fCN_15 dCN_errorIn_12 ht ?_
  rw [hC.2.2.1]
  refine G_ialdN dCN_errorIn_15 hp.1 hp.2 (by decide) hk.2.1 ?_
  refine G_isub dCN_errorIn_16 ?_
  refine G_isub dCN_errorIn_17 ?_
  refine G_istore_n (ls' := [.ref ck, .ref pl, .int ((κ.2.2.1) - ((gi (pl) κ.1) - (gi (pl) κ.2.1)))]) dCN_errorIn_18 (by decide) rfl ?_
  refine G_aload_n dCN_errorIn_19 rfl ?_
  refine G_getI fCN_21 dCN_errorIn_20 ht ?_
  rw [hC.2.2.2.2]
  refine G_if_ne dCN_errorIn_23 (fun h1 => ?_) (fun h1 => ?_)
  · refine G_iconst (v := 0) dCN_errorIn_33 (by decide) ?_
    refine G_iload_n dCN_errorIn_34 rfl ?_
    refine G_mmax jCN_33.1 jCN_33.2.1 jCN_33.2.2.1 jCN_33.2.2.2 dCN_errorIn_35 (by decide) (Nat.le_of_ble_eq_true rfl) (by decide) (by decide) ?_
    exact G_ireturn dCN_errorIn_38 rfl rfl (by decide) (by decide) ⟨rfl, rfl, rfl, by unfold erI; rw [if_neg (fun z => h1 ((nI_z (by have := hk.2.2.1; omega)).mpr z))]⟩
  · refine G_iload_n dCN_errorIn_26 rfl ?_
    refine G_mabs jCN_27.1 jCN_27.2.1 jCN_27.2.2.1 jCN_27.2.2.2 dCN_errorIn_27 (by decide) (Nat.le_of_ble_eq_true rfl) (by decide) (by decide) ?_
    refine G_goto dCN_errorIn_30 ?_
    exact G_ireturn dCN_errorIn_38 rfl rfl (by decide) (by decide) ⟨rfl, rfl, rfl, by unfold erI; rw [if_pos ((nI_z (by have := hk.2.2.1; omega)).mp h1)]⟩
theorem cCN_demandIn {E : gE} {T : gT} {gi : gI} {gr : gR} {ck bd ec : Nat} {κ : K5} {cf : Int32} {R : Nat → Nat → Int32} (ht : T.1 ck = 7) (hC : CnIs gi ck κ) (hk : CnOk κ) (hB : BdOk T gr bd) (hI : BdIs gi bd R cf ec) (hec24 : ec ≤ 24) (hD : demK R κ ec) : Ct E mCN_demandIn [.ref ck, .ref bd] T gi gr (fun T' gi' gr' v => T' = T ∧ gr' = gr ∧ v = none ∧ BdIs gi' bd (demM R κ ec) (demC R κ ec cf) ec ∧ BdOff gi gi' bd) := by
  refine Ct_of (ls := [.ref ck, .ref bd]) (by decide) (gcat_cons rfl (gcat_cons rfl gcat_nil)) (Nat.le_of_ble_eq_true rfl) rfl ?_
  refine G_aload_n dCN_demandIn_0 rfl ?_
  refine G_getI fCN_21 dCN_demandIn_1 ht ?_
  rw [hC.2.2.2.2]
  refine G_if_ne dCN_demandIn_4 (fun h1 => ?_) (fun h1 => ?_)
  · refine G_aload_n dCN_demandIn_26 rfl ?_
    refine G_aload_n dCN_demandIn_27 rfl ?_
    refine G_getI fCN_9 dCN_demandIn_28 ht ?_
    rw [hC.2.1]
    refine G_aload_n dCN_demandIn_31 rfl ?_
    refine G_getI fCN_15 dCN_demandIn_32 ht ?_
    rw [hC.2.2.1]
    refine G_aload_n dCN_demandIn_35 rfl ?_
    refine G_getI fCN_18 dCN_demandIn_36 ht ?_
    rw [hC.2.2.2.1]
    refine G_callV (As := [.int (nI κ.1), .int (nI κ.2.1), .int κ.2.2.1]) (rest := []) gCN_demandIn_BD_keepAtLeast lCN_43.1 lCN_43.2.1 lCN_43.2.2.1 lCN_43.2.2.2 dCN_demandIn_39 rfl (Nat.le_of_ble_eq_true rfl) hB.1 ⟨by decide, by decide⟩ (cBD_keepAtLeast hB hI hk.1 hk.2.1 hec24 (hD.2 (fun z => h1 ((nI_z (by have := hk.2.2.1; omega)).mpr z)))) ?_
    rintro _ g1 _ _ ⟨rfl, rfl, rfl, hI1, hO1⟩
    refine G_st (st' := []) rfl ?_
    exact G_return dCN_demandIn_42 rfl (by decide) (by decide) ⟨rfl, rfl, rfl, by unfold demM demC; rw [if_neg (fun z => h1 ((nI_z (by have := hk.2.2.1; omega)).mpr z)), if_neg (fun z => h1 ((nI_z (by have := hk.2.2.1; omega)).mpr z))]; exact hI1, hO1⟩
  · refine G_aload_n dCN_demandIn_7 rfl ?_
    refine G_aload_n dCN_demandIn_8 rfl ?_
    refine G_getI fCN_9 dCN_demandIn_9 ht ?_
    rw [hC.2.1]
    refine G_aload_n dCN_demandIn_12 rfl ?_
    refine G_getI fCN_15 dCN_demandIn_13 ht ?_
    rw [hC.2.2.1]
    refine G_aload_n dCN_demandIn_16 rfl ?_
    refine G_getI fCN_18 dCN_demandIn_17 ht ?_
    rw [hC.2.2.2.1]
    refine G_callV (As := [.int (nI κ.1), .int (nI κ.2.1), .int κ.2.2.1]) (rest := []) gCN_demandIn_BD_fix lCN_37.1 lCN_37.2.1 lCN_37.2.2.1 lCN_37.2.2.2 dCN_demandIn_20 rfl (Nat.le_of_ble_eq_true rfl) hB.1 ⟨by decide, by decide⟩ (cBD_fix hB hI hk.1 hk.2.1 hec24 (hD.1 ((nI_z (by have := hk.2.2.1; omega)).mp h1)).1 (hD.1 ((nI_z (by have := hk.2.2.1; omega)).mp h1)).2) ?_
    rintro _ g1 _ _ ⟨rfl, rfl, rfl, hI1, hO1⟩
    refine G_st (st' := []) rfl ?_
    refine G_goto dCN_demandIn_23 ?_
    exact G_return dCN_demandIn_42 rfl (by decide) (by decide) ⟨rfl, rfl, rfl, by unfold demM demC; rw [if_pos ((nI_z (by have := hk.2.2.1; omega)).mp h1), if_pos ((nI_z (by have := hk.2.2.1; omega)).mp h1)]; exact hI1, hO1⟩
theorem cCN_leastErrorIn {E : gE} {T : gT} {gi : gI} {gr : gR} {ck bd ec : Nat} {κ : K5} {cf : Int32} {R : Nat → Nat → Int32} (ht : T.1 ck = 7) (hC : CnIs gi ck κ) (hk : CnOk κ) (hB : BdOk T gr bd) (hI : BdIs gi bd R cf ec) (hec24 : ec ≤ 24) (hD : lerK R κ ec) : Ct E mCN_leastErrorIn [.ref ck, .ref bd] T gi gr (fun T' gi' gr' v => T' = T ∧ gr' = gr ∧ v = none ∧ BdIs gi' bd (lerM R κ ec) (lerC R κ ec cf) ec ∧ BdOff gi gi' bd) := by
  refine Ct_of (ls := [.ref ck, .ref bd]) (by decide) (gcat_cons rfl (gcat_cons rfl gcat_nil)) (Nat.le_of_ble_eq_true rfl) rfl ?_
  refine G_aload_n dCN_leastErrorIn_0 rfl ?_
  refine G_getI fCN_21 dCN_leastErrorIn_1 ht ?_
  rw [hC.2.2.2.2]
  refine G_if_ne dCN_leastErrorIn_4 (fun h1 => ?_) (fun h1 => ?_)
  · refine G_aload_n dCN_leastErrorIn_27 rfl ?_
    refine G_aload_n dCN_leastErrorIn_28 rfl ?_
    refine G_getI fCN_9 dCN_leastErrorIn_29 ht ?_
    rw [hC.2.1]
    refine G_aload_n dCN_leastErrorIn_32 rfl ?_
    refine G_getI fCN_15 dCN_leastErrorIn_33 ht ?_
    rw [hC.2.2.1]
    refine G_aload_n dCN_leastErrorIn_36 rfl ?_
    refine G_getI fCN_18 dCN_leastErrorIn_37 ht ?_
    rw [hC.2.2.2.1]
    refine G_aload_n dCN_leastErrorIn_40 rfl ?_
    refine G_aload_n dCN_leastErrorIn_41 rfl ?_
    refine G_getI fCN_9 dCN_leastErrorIn_42 ht ?_
    rw [hC.2.1]
    refine G_aload_n dCN_leastErrorIn_45 rfl ?_
    refine G_getI fCN_15 dCN_leastErrorIn_46 ht ?_
    rw [hC.2.2.1]
    refine G_callV (As := [.int (nI κ.1), .int (nI κ.2.1)]) (rest := [.int κ.2.2.1, .int (nI κ.2.1), .int (nI κ.1), .ref bd]) gCN_leastErrorIn_BD_highest lCN_50.1 lCN_50.2.1 lCN_50.2.2.1 lCN_50.2.2.2 dCN_leastErrorIn_49 rfl (Nat.le_of_ble_eq_true rfl) hB.1 ⟨by decide, by decide⟩ (cBD_highest hB hk.1 hk.2.1) ?_
    rintro _ _ _ _ ⟨rfl, rfl, rfl, rfl⟩
    rw [hI.2.2 _ _ hk.2.1 hk.1]
    refine G_st (st' := [.int (R κ.2.1 κ.1), .int κ.2.2.1, .int (nI κ.2.1), .int (nI κ.1), .ref bd]) rfl ?_
    refine G_mmin jCN_53.1 jCN_53.2.1 jCN_53.2.2.1 jCN_53.2.2.2 dCN_leastErrorIn_52 (by decide) (Nat.le_of_ble_eq_true rfl) (by decide) (by decide) ?_
    refine G_callV (As := [.int (nI κ.1), .int (nI κ.2.1), .int (if R κ.2.1 κ.1 < κ.2.2.1 then R κ.2.1 κ.1 else κ.2.2.1)]) (rest := []) gCN_leastErrorIn_BD_keepAtLeast lCN_43.1 lCN_43.2.1 lCN_43.2.2.1 lCN_43.2.2.2 dCN_leastErrorIn_55 rfl (Nat.le_of_ble_eq_true rfl) hB.1 ⟨by decide, by decide⟩ (cBD_keepAtLeast hB hI hk.1 hk.2.1 hec24 (hD.2 (fun z => h1 ((nI_z (by have := hk.2.2.1; omega)).mpr z)))) ?_
    rintro _ g1 _ _ ⟨rfl, rfl, rfl, hI1, hO1⟩
    refine G_st (st' := []) rfl ?_
    exact G_return dCN_leastErrorIn_58 rfl (by decide) (by decide) ⟨rfl, rfl, rfl, by unfold lerM lerC; rw [if_neg (fun z => h1 ((nI_z (by have := hk.2.2.1; omega)).mpr z)), if_neg (fun z => h1 ((nI_z (by have := hk.2.2.1; omega)).mpr z))]; exact hI1, hO1⟩
  · refine G_aload_n dCN_leastErrorIn_7 rfl ?_
    refine G_aload_n dCN_leastErrorIn_8 rfl ?_
    refine G_getI fCN_9 dCN_leastErrorIn_9 ht ?_
    rw [hC.2.1]
    refine G_aload_n dCN_leastErrorIn_12 rfl ?_
    refine G_getI fCN_15 dCN_leastErrorIn_13 ht ?_
    rw [hC.2.2.1]
    refine G_aload_n dCN_leastErrorIn_16 rfl ?_
    refine G_getI fCN_18 dCN_leastErrorIn_17 ht ?_
    rw [hC.2.2.2.1]
    refine G_callV (As := [.int (nI κ.1), .int (nI κ.2.1), .int κ.2.2.1]) (rest := []) gCN_leastErrorIn_BD_fixNear lCN_46.1 lCN_46.2.1 lCN_46.2.2.1 lCN_46.2.2.2 dCN_leastErrorIn_20 rfl (Nat.le_of_ble_eq_true rfl) hB.1 ⟨by decide, by decide⟩ (cBD_fixNear hB hI hk.1 hk.2.1 hec24 (hD.1 ((nI_z (by have := hk.2.2.1; omega)).mp h1)).1 (hD.1 ((nI_z (by have := hk.2.2.1; omega)).mp h1)).2) ?_
    rintro _ g1 _ _ ⟨rfl, rfl, rfl, hI1, hO1⟩
    refine G_st (st' := [.int (nearI κ.2.2.1 (-(R κ.1 κ.2.1)) (R κ.2.1 κ.1))]) rfl ?_
    refine G_pop dCN_leastErrorIn_23 rfl ?_
    refine G_goto dCN_leastErrorIn_24 ?_
    exact G_return dCN_leastErrorIn_58 rfl (by decide) (by decide) ⟨rfl, rfl, rfl, by unfold lerM lerC; rw [if_pos ((nI_z (by have := hk.2.2.1; omega)).mp h1), if_pos ((nI_z (by have := hk.2.2.1; omega)).mp h1)]; exact hI1, hO1⟩
end
section
def ScOk (T : gT) (gr : gR) (sc : Nat) : Prop := T.1 sc = 2 ∧ gr sc 0 = some (sc + 1) ∧ gr sc 1 = some (sc + 2) ∧ T.1 (sc + 1) = 100 ∧ T.2.1 (sc + 1) = 384 ∧ T.1 (sc + 2) = 101 ∧ T.2.1 (sc + 2) = 384
def bI (b : Bool) : Int32 := if b = true then 1 else 0
theorem bI_01 (b : Bool) : bI b = 0 ∨ bI b = 1 := by cases b <;> simp [bI]
theorem bI_0 {b : Bool} : bI b = 0 ↔ b = false := by cases b <;> simp [bI]
def DmIs (gi : gI) (sc : Nat) (D : Nat → Bool) : Prop := ∀ j, j < 384 → gi (sc + 2) j = bI (D j)
def FrIs (gi : gI) (sc : Nat) (F : Nat → Int32) : Prop := ∀ j, j < 384 → gi (sc + 1) j = F j
def dmA (D : Nat → Bool) (q : A4) (n : Nat) : Nat → Bool := fun j => D j || (decide (j < n) && decide (arH q (nI (j % 24)) (nI (j / 24))))
def cntB (D : Nat → Bool) : Nat → Nat
  | 0 => 0
  | n + 1 => cntB D n + (if D n = true then 1 else 0)
theorem cntB_le (D : Nat → Bool) : ∀ n, cntB D n ≤ n
  | 0 => Nat.le_refl _
  | n + 1 => by
    have := cntB_le D n
    unfold cntB
    split <;> omega
theorem nI_pt (i j : Nat) : nI j * 24 + nI i = nI (j * 24 + i) := by
  rw [show (24 : Int32) = nI 24 from rfl, pk_mul, nI_add]
theorem cSC_pointOf {E : gE} {T : gT} {gi : gI} {gr : gR} {i j : Nat}  : Ct E mSC_pointOf [.int (nI i), .int (nI j)] T gi gr (fun T' gi' gr' v => T' = T ∧ gi' = gi ∧ gr' = gr ∧ v = some (.int (nI (j * 24 + i)))) := by
  refine Ct_of (ls := [.int (nI i), .int (nI j)]) (by decide) (gcat_cons rfl (gcat_cons rfl gcat_nil)) (Nat.le_of_ble_eq_true rfl) rfl ?_
  refine G_iload_n dSC_pointOf_0 rfl ?_
  refine G_bipush (v := 24) dSC_pointOf_1 (by decide) ?_
  refine G_imul dSC_pointOf_3 ?_
  refine G_iload_n dSC_pointOf_4 rfl ?_
  refine G_iadd dSC_pointOf_5 ?_
  exact G_ireturn dSC_pointOf_6 rfl rfl (by decide) (by decide) ⟨rfl, rfl, rfl, by rw [← nI_pt]⟩
theorem cSC_isDamaged {E : gE} {T : gT} {gi : gI} {gr : gR} {sc i j : Nat} {D : Nat → Bool} (hS : ScOk T gr sc) (hD : DmIs gi sc D) (hi : i < 24) (hj : j < 16) : Ct E mSC_isDamaged [.ref sc, .int (nI i), .int (nI j)] T gi gr (fun T' gi' gr' v => T' = T ∧ gi' = gi ∧ gr' = gr ∧ v = some (.int (bI (D (j * 24 + i))))) := by
  refine Ct_of (ls := [.ref sc, .int (nI i), .int (nI j)]) (by decide) (gcat_cons rfl (gcat_cons rfl (gcat_cons rfl gcat_nil))) (Nat.le_of_ble_eq_true rfl) rfl ?_
  refine G_aload_n dSC_isDamaged_0 rfl ?_
  refine G_getRs fSC_15 dSC_isDamaged_1 hS.1 hS.2.2.1 ?_
  refine G_iload_n dSC_isDamaged_4 rfl ?_
  refine G_iload_n dSC_isDamaged_5 rfl ?_
  refine G_callS (As := [.int (nI i), .int (nI j)]) (rest := [.ref (sc + 2)]) gSC_isDamaged_SC_pointOf lSC_25.1 lSC_25.2 dSC_isDamaged_6 rfl (Nat.le_of_ble_eq_true rfl) ⟨by decide, by decide⟩ cSC_pointOf ?_
  rintro _ _ _ _ ⟨rfl, rfl, rfl, rfl⟩
  refine G_st (st' := [.int (nI (j * 24 + i)), .ref (sc + 2)]) rfl ?_
  refine G_zaldN dSC_isDamaged_9 hS.2.2.2.2.2.1 hS.2.2.2.2.2.2 (by decide) (by omega) ?_
  rw [hD (j * 24 + i) (by omega)]
  exact G_ireturn dSC_isDamaged_10 rfl (nr_z (bI_01 _)) (by decide) (by decide) ⟨rfl, rfl, rfl, rfl⟩
theorem cSC_frameAt {E : gE} {T : gT} {gi : gI} {gr : gR} {sc i j : Nat} {F : Nat → Int32} (hS : ScOk T gr sc) (hF : FrIs gi sc F) (hi : i < 24) (hj : j < 16) : Ct E mSC_frameAt [.ref sc, .int (nI i), .int (nI j)] T gi gr (fun T' gi' gr' v => T' = T ∧ gi' = gi ∧ gr' = gr ∧ v = some (.int (F (j * 24 + i)))) := by
  refine Ct_of (ls := [.ref sc, .int (nI i), .int (nI j)]) (by decide) (gcat_cons rfl (gcat_cons rfl (gcat_cons rfl gcat_nil))) (Nat.le_of_ble_eq_true rfl) rfl ?_
  refine G_aload_n dSC_frameAt_0 rfl ?_
  refine G_getRs fSC_9 dSC_frameAt_1 hS.1 hS.2.1 ?_
  refine G_iload_n dSC_frameAt_4 rfl ?_
  refine G_iload_n dSC_frameAt_5 rfl ?_
  refine G_callS (As := [.int (nI i), .int (nI j)]) (rest := [.ref (sc + 1)]) gSC_frameAt_SC_pointOf lSC_25.1 lSC_25.2 dSC_frameAt_6 rfl (Nat.le_of_ble_eq_true rfl) ⟨by decide, by decide⟩ cSC_pointOf ?_
  rintro _ _ _ _ ⟨rfl, rfl, rfl, rfl⟩
  refine G_st (st' := [.int (nI (j * 24 + i)), .ref (sc + 1)]) rfl ?_
  refine G_ialdN dSC_frameAt_9 hS.2.2.2.1 hS.2.2.2.2.1 (by decide) (by omega) ?_
  rw [hF (j * 24 + i) (by omega)]
  exact G_ireturn dSC_frameAt_10 rfl rfl (by decide) (by decide) ⟨rfl, rfl, rfl, rfl⟩
theorem cSC_repair {E : gE} {T : gT} {gi : gI} {gr : gR} {sc i j : Nat} {F : Nat → Int32} {D : Nat → Bool} {c : Int32} (hS : ScOk T gr sc) (hF : FrIs gi sc F) (hD : DmIs gi sc D) (hi : i < 24) (hj : j < 16) : Ct E mSC_repair [.ref sc, .int (nI i), .int (nI j), .int c] T gi gr (fun T' gi' gr' v => T' = T ∧ gr' = gr ∧ v = some (.int (if F (j * 24 + i) = c then 0 else 1)) ∧ FrIs gi' sc (gup F (j * 24 + i) c) ∧ DmIs gi' sc (gup D (j * 24 + i) false) ∧ ∀ a, a ≠ sc + 1 → a ≠ sc + 2 → gi' a = gi a) := by
  refine Ct_of (ls := [.ref sc, .int (nI i), .int (nI j), .int c, .long 0, .long 0]) (by decide) (gcat_cons rfl (gcat_cons rfl (gcat_cons rfl (gcat_cons rfl gcat_nil)))) (Nat.le_of_ble_eq_true rfl) rfl ?_
  refine G_iload_n dSC_repair_0 rfl ?_
  refine G_iload_n dSC_repair_1 rfl ?_
  refine G_callS (As := [.int (nI i), .int (nI j)]) (rest := []) gSC_repair_SC_pointOf lSC_25.1 lSC_25.2 dSC_repair_2 rfl (Nat.le_of_ble_eq_true rfl) ⟨by decide, by decide⟩ cSC_pointOf ?_
  rintro _ _ _ _ ⟨rfl, rfl, rfl, rfl⟩
  refine G_st (st' := [.int (nI (j * 24 + i))]) rfl ?_
  refine G_istore (ls' := [.ref sc, .int (nI i), .int (nI j), .int c, .int (nI (j * 24 + i)), .long 0]) dSC_repair_5 (by decide) rfl ?_
  refine G_aload_n dSC_repair_7 rfl ?_
  refine G_getRs fSC_9 dSC_repair_8 hS.1 hS.2.1 ?_
  refine G_iload dSC_repair_11 rfl ?_
  refine G_ialdN dSC_repair_13 hS.2.2.2.1 hS.2.2.2.2.1 (by decide) (by omega) ?_
  rw [hF (j * 24 + i) (by omega)]
  refine G_iload_n dSC_repair_14 rfl ?_
  refine G_icmp_eq dSC_repair_15 (fun h1 => ?_) (fun h1 => ?_)
  · refine G_iconst (v := 0) dSC_repair_22 (by decide) ?_
    refine G_istore (ls' := [.ref sc, .int (nI i), .int (nI j), .int c, .int (nI (j * 24 + i)), .int 0]) dSC_repair_23 (by decide) rfl ?_
    refine G_aload_n dSC_repair_25 rfl ?_
    refine G_getRs fSC_9 dSC_repair_26 hS.1 hS.2.1 ?_
    refine G_iload dSC_repair_29 rfl ?_
    refine G_iload_n dSC_repair_31 rfl ?_
    refine G_iastN dSC_repair_32 hS.2.2.2.1 hS.2.2.2.2.1 (by decide) (by omega) ?_
    refine G_aload_n dSC_repair_33 rfl ?_
    refine G_getRs fSC_15 dSC_repair_34 hS.1 hS.2.2.1 ?_
    refine G_iload dSC_repair_37 rfl ?_
    refine G_iconst (v := 0) dSC_repair_39 (by decide) ?_
    refine G_zastN dSC_repair_40 hS.2.2.2.2.2.1 hS.2.2.2.2.2.2 (by decide) (by omega) (Or.inl rfl) ?_
    refine G_iload dSC_repair_41 rfl ?_
    refine G_ireturn dSC_repair_43 rfl (nr_z (by decide)) (by decide) (by decide) ⟨rfl, rfl, by rw [if_pos h1], ?_, ?_, ?_⟩
    · intro a ha
      rw [gu_off (by omega)]
      by_cases e : a = j * 24 + i
      · subst e; rw [gu_same, gup_same]
      · rw [gu_ne (Or.inr e), gup_ne e]; exact hF a ha
    · intro a ha
      by_cases e : a = j * 24 + i
      · subst e; rw [gu_same, gup_same]; rfl
      · rw [gu_ne (Or.inr e), gu_off (by omega), gup_ne e]; exact hD a ha
    · intro a h1 h2
      rw [gu_off h2, gu_off h1]
  · refine G_iconst (v := 1) dSC_repair_18 (by decide) ?_
    refine G_goto dSC_repair_19 ?_
    refine G_istore (ls' := [.ref sc, .int (nI i), .int (nI j), .int c, .int (nI (j * 24 + i)), .int 1]) dSC_repair_23 (by decide) rfl ?_
    refine G_aload_n dSC_repair_25 rfl ?_
    refine G_getRs fSC_9 dSC_repair_26 hS.1 hS.2.1 ?_
    refine G_iload dSC_repair_29 rfl ?_
    refine G_iload_n dSC_repair_31 rfl ?_
    refine G_iastN dSC_repair_32 hS.2.2.2.1 hS.2.2.2.2.1 (by decide) (by omega) ?_
    refine G_aload_n dSC_repair_33 rfl ?_
    refine G_getRs fSC_15 dSC_repair_34 hS.1 hS.2.2.1 ?_
    refine G_iload dSC_repair_37 rfl ?_
    refine G_iconst (v := 0) dSC_repair_39 (by decide) ?_
    refine G_zastN dSC_repair_40 hS.2.2.2.2.2.1 hS.2.2.2.2.2.2 (by decide) (by omega) (Or.inl rfl) ?_
    refine G_iload dSC_repair_41 rfl ?_
    refine G_ireturn dSC_repair_43 rfl (nr_z (by decide)) (by decide) (by decide) ⟨rfl, rfl, by rw [if_neg h1], ?_, ?_, ?_⟩
    · intro a ha
      rw [gu_off (by omega)]
      by_cases e : a = j * 24 + i
      · subst e; rw [gu_same, gup_same]
      · rw [gu_ne (Or.inr e), gup_ne e]; exact hF a ha
    · intro a ha
      by_cases e : a = j * 24 + i
      · subst e; rw [gu_same, gup_same]; rfl
      · rw [gu_ne (Or.inr e), gu_off (by omega), gup_ne e]; exact hD a ha
    · intro a h1 h2
      rw [gu_off h2, gu_off h1]
theorem dp_loop {E : gE} {T : gT} {gi : gI} {gr : gR} {sc : Nat} {D : Nat → Bool} {Q : gQ} (hS : ScOk T gr sc) (hD : DmIs gi sc D) (kx : Q T gi gr (some (.int (nI (cntB D 384))))) : ∀ (n i : Nat), i + n = 384 → G E mSC_damagedPoints 4 [.ref sc, .int (nI (cntB D i)), .int (nI i)] [] T gi gr 0 0 Q := by
  intro n
  induction n with
  | zero =>
    intro i hi
    have hi : i = 384 := by omega
    subst hi
    refine G_iload_n dSC_damagedPoints_4 rfl ?_
    refine G_aload_n dSC_damagedPoints_5 rfl ?_
    refine G_getRs fSC_15 dSC_damagedPoints_6 hS.1 hS.2.2.1 ?_
    refine G_alen 1 (v := nI 384) dSC_damagedPoints_9 (by decide) hS.2.2.2.2.2.1 (by rw [hS.2.2.2.2.2.2]; rfl) ?_
    refine G_icmp_ge dSC_damagedPoints_10 (fun h1 => ?_) (fun h1 => ?_)
    · refine G_iload_n dSC_damagedPoints_31 rfl ?_
      exact G_ireturn dSC_damagedPoints_32 rfl rfl (by decide) (by decide) kx
    · exact absurd (nI_le (by omega) (by omega)) h1
  | succ n ih =>
    intro i hi
    have hc := cntB_le D i
    refine G_iload_n dSC_damagedPoints_4 rfl ?_
    refine G_aload_n dSC_damagedPoints_5 rfl ?_
    refine G_getRs fSC_15 dSC_damagedPoints_6 hS.1 hS.2.2.1 ?_
    refine G_alen 1 (v := nI 384) dSC_damagedPoints_9 (by decide) hS.2.2.2.2.2.1 (by rw [hS.2.2.2.2.2.2]; rfl) ?_
    refine G_icmp_ge dSC_damagedPoints_10 (fun h1 => ?_) (fun h1 => ?_)
    · exact absurd h1 (nI_ge (by omega) (by omega))
    · refine G_aload_n dSC_damagedPoints_13 rfl ?_
      refine G_getRs fSC_15 dSC_damagedPoints_14 hS.1 hS.2.2.1 ?_
      refine G_iload_n dSC_damagedPoints_17 rfl ?_
      refine G_zaldN dSC_damagedPoints_18 hS.2.2.2.2.2.1 hS.2.2.2.2.2.2 (by decide) (by omega) ?_
      rw [hD i (by omega)]
      refine G_if_eq dSC_damagedPoints_19 (fun h2 => ?_) (fun h2 => ?_)
      · refine G_iinc (ls' := [.ref sc, .int (nI (cntB D i)), .int (nI (i + 1))]) dSC_damagedPoints_25 rfl (nI_inc i) (by decide) rfl ?_
        refine G_goto dSC_damagedPoints_28 ?_
        have e : cntB D (i + 1) = cntB D i := by
          show cntB D i + _ = _
          rw [if_neg (by rw [bI_0.mp h2]; decide), Nat.add_zero]
        have := ih (i + 1) (by omega)
        rw [e] at this
        exact this
      · refine G_iinc (ls' := [.ref sc, .int (nI (cntB D i + 1)), .int (nI i)]) dSC_damagedPoints_22 rfl (nI_inc _) (by decide) rfl ?_
        refine G_iinc (ls' := [.ref sc, .int (nI (cntB D i + 1)), .int (nI (i + 1))]) dSC_damagedPoints_25 rfl (nI_inc i) (by decide) rfl ?_
        refine G_goto dSC_damagedPoints_28 ?_
        have e : cntB D (i + 1) = cntB D i + 1 := by
          show cntB D i + _ = _
          rw [if_pos (by cases hb : D i with | true => rfl | false => exact absurd (bI_0.mpr hb) h2)]
        have := ih (i + 1) (by omega)
        rw [e] at this
        exact this
theorem cSC_damagedPoints {E : gE} {T : gT} {gi : gI} {gr : gR} {sc : Nat} {D : Nat → Bool} (hS : ScOk T gr sc) (hD : DmIs gi sc D) : Ct E mSC_damagedPoints [.ref sc] T gi gr (fun T' gi' gr' v => T' = T ∧ gi' = gi ∧ gr' = gr ∧ v = some (.int (nI (cntB D 384)))) := by
  refine Ct_of (ls := [.ref sc, .long 0, .long 0]) (by decide) (gcat_cons rfl gcat_nil) (Nat.le_of_ble_eq_true rfl) rfl ?_
  refine G_iconst (v := nI 0) dSC_damagedPoints_0 (by decide +kernel) ?_
  refine G_istore_n (ls' := [.ref sc, .int (nI 0), .long 0]) dSC_damagedPoints_1 (by decide) rfl ?_
  refine G_iconst (v := nI 0) dSC_damagedPoints_2 (by decide +kernel) ?_
  refine G_istore_n (ls' := [.ref sc, .int (nI 0), .int (nI 0)]) dSC_damagedPoints_3 (by decide) rfl ?_
  exact dp_loop hS hD ⟨rfl, rfl, rfl, rfl⟩ 384 0 rfl
theorem dmA_step0 {D : Nat → Bool} {q : A4} {gi : gI} {sc x y : Nat} (hx : x < 24) (hD : DmIs gi sc (dmA D q (y * 24 + x))) (h : ¬ arH q (nI x) (nI y)) : DmIs gi sc (dmA D q (y * 24 + (x + 1))) := by
  intro j hj
  rw [hD j hj]
  congr 1
  unfold dmA
  by_cases e : j = y * 24 + x
  · subst e
    rw [show (y * 24 + x) % 24 = x by omega, show (y * 24 + x) / 24 = y by omega, decide_eq_false h, Bool.and_false, Bool.and_false]
  · rw [show decide (j < y * 24 + x) = decide (j < y * 24 + (x + 1)) by
      apply decide_eq_decide.mpr
      omega]
theorem dmA_step1 {D : Nat → Bool} {q : A4} {gi : gI} {sc x y : Nat} (hx : x < 24) (hD : DmIs gi sc (dmA D q (y * 24 + x))) (h : arH q (nI x) (nI y)) : DmIs (gu gi (sc + 2) (y * 24 + x) 1) sc (dmA D q (y * 24 + (x + 1))) := by
  intro j hj
  by_cases e : j = y * 24 + x
  · subst e
    rw [gu_same]
    unfold dmA
    rw [show (y * 24 + x) % 24 = x by omega, show (y * 24 + x) / 24 = y by omega, decide_eq_true h, decide_eq_true (show y * 24 + x < y * 24 + (x + 1) by omega), Bool.and_true, Bool.or_true]
    rfl
  · rw [gu_ne (Or.inr e), hD j hj]
    congr 1
    unfold dmA
    rw [show decide (j < y * 24 + x) = decide (j < y * 24 + (x + 1)) by
      apply decide_eq_decide.mpr
      omega]
theorem da_in {E : gE} {T : gT} {g0 : gI} {gr : gR} {sc a y : Nat} {D : Nat → Bool} {q : A4} {Q : gQ} (hS : ScOk T gr sc) (hta : T.1 a = 6) (hne : a ≠ sc + 2) (hA0 : ArIs g0 a q) (hy : y < 16) (kx : ∀ gi : gI, DmIs gi sc (dmA D q (y * 24 + 24)) → Off1 g0 gi (sc + 2) → G E mSC_damageArea 42 [.ref sc, .ref a, .int (nI y), .int (nI 24)] [] T gi gr 0 0 Q) : ∀ (n x : Nat), x + n = 24 → ∀ gi : gI, DmIs gi sc (dmA D q (y * 24 + x)) → Off1 g0 gi (sc + 2) → G E mSC_damageArea 10 [.ref sc, .ref a, .int (nI y), .int (nI x)] [] T gi gr 0 0 Q := by
  intro n
  induction n with
  | zero =>
    intro x hx gi hD hO
    have hx : x = 24 := by omega
    subst hx
    refine G_iload_n dSC_damageArea_10 rfl ?_
    refine G_bipush (v := 24) dSC_damageArea_11 (by decide) ?_
    refine G_icmp_ge dSC_damageArea_13 (fun h1 => ?_) (fun h1 => ?_)
    · exact kx gi hD hO
    · exact absurd (nI_le (a := 24) (b := 24) (by omega) (by decide)) h1
  | succ n ih =>
    intro x hxn gi hD hO
    have hx : x < 24 := by omega
    have hA : ArIs gi a q := hA0.off hO hne
    refine G_iload_n dSC_damageArea_10 rfl ?_
    refine G_bipush (v := 24) dSC_damageArea_11 (by decide) ?_
    refine G_icmp_ge dSC_damageArea_13 (fun h1 => ?_) (fun h1 => ?_)
    · exact absurd h1 (nI_ge (a := x) (b := 24) (by omega) (by decide))
    · refine G_aload_n dSC_damageArea_16 rfl ?_
      refine G_iload_n dSC_damageArea_17 rfl ?_
      refine G_iload_n dSC_damageArea_18 rfl ?_
      refine G_callV (As := [.int (nI x), .int (nI y)]) (rest := []) gSC_damageArea_AR_has lSC_19.1 lSC_19.2.1 lSC_19.2.2.1 lSC_19.2.2.2 dSC_damageArea_19 rfl (Nat.le_of_ble_eq_true rfl) hta ⟨by decide, by decide⟩ (cAR_has hta hA) ?_
      rintro _ _ _ _ ⟨rfl, rfl, rfl, rfl⟩
      refine G_st (st' := [.int (if arH q (nI x) (nI y) then 1 else 0)]) rfl ?_
      refine G_if_eq dSC_damageArea_22 (fun h2 => ?_) (fun h2 => ?_)
      · refine G_iinc (ls' := [.ref sc, .ref a, .int (nI y), .int (nI (x + 1))]) dSC_damageArea_36 rfl (nI_inc x) (by decide) rfl ?_
        refine G_goto dSC_damageArea_39 ?_
        exact ih (x + 1) (by omega) _ (dmA_step0 hx hD (fun c => by rw [if_pos c] at h2; exact absurd h2 (by decide))) hO
      · refine G_aload_n dSC_damageArea_25 rfl ?_
        refine G_getRs fSC_15 dSC_damageArea_26 hS.1 hS.2.2.1 ?_
        refine G_iload_n dSC_damageArea_29 rfl ?_
        refine G_iload_n dSC_damageArea_30 rfl ?_
        refine G_callS (As := [.int (nI x), .int (nI y)]) (rest := [.ref (sc + 2)]) gSC_damageArea_SC_pointOf lSC_25.1 lSC_25.2 dSC_damageArea_31 rfl (Nat.le_of_ble_eq_true rfl) ⟨by decide, by decide⟩ cSC_pointOf ?_
        rintro _ _ _ _ ⟨rfl, rfl, rfl, rfl⟩
        refine G_st (st' := [.int (nI (y * 24 + x)), .ref (sc + 2)]) rfl ?_
        refine G_iconst (v := 1) dSC_damageArea_34 (by decide) ?_
        refine G_zastN dSC_damageArea_35 hS.2.2.2.2.2.1 hS.2.2.2.2.2.2 (by decide) (by omega) (Or.inr rfl) ?_
        refine G_iinc (ls' := [.ref sc, .ref a, .int (nI y), .int (nI (x + 1))]) dSC_damageArea_36 rfl (nI_inc x) (by decide) rfl ?_
        refine G_goto dSC_damageArea_39 ?_
        exact ih (x + 1) (by omega) _ (dmA_step1 hx hD (by by_cases c : arH q (nI x) (nI y); exact c; exact absurd (if_neg c) h2)) (fun b hb => by rw [gu_off hb]; exact hO b hb)
theorem da_out {E : gE} {T : gT} {g0 : gI} {gr : gR} {sc a : Nat} {D : Nat → Bool} {q : A4} {Q : gQ} (hS : ScOk T gr sc) (hta : T.1 a = 6) (hne : a ≠ sc + 2) (hA0 : ArIs g0 a q) (kx : ∀ gi : gI, DmIs gi sc (dmA D q 384) → Off1 g0 gi (sc + 2) → Q T gi gr none) : ∀ (n y : Nat), y + n = 16 → ∀ (gi : gI) (v3 : Value), DmIs gi sc (dmA D q (y * 24)) → Off1 g0 gi (sc + 2) → G E mSC_damageArea 2 [.ref sc, .ref a, .int (nI y), v3] [] T gi gr 0 0 Q := by
  intro n
  induction n with
  | zero =>
    intro y hy gi v3 hD hO
    have hy : y = 16 := by omega
    subst hy
    refine G_iload_n dSC_damageArea_2 rfl ?_
    refine G_bipush (v := 16) dSC_damageArea_3 (by decide) ?_
    refine G_icmp_ge dSC_damageArea_5 (fun h1 => ?_) (fun h1 => ?_)
    · exact G_return dSC_damageArea_48 rfl (by decide) (by decide) (kx gi hD hO)
    · exact absurd (nI_le (a := 16) (b := 16) (by omega) (by decide)) h1
  | succ n ih =>
    intro y hyn gi v3 hD hO
    refine G_iload_n dSC_damageArea_2 rfl ?_
    refine G_bipush (v := 16) dSC_damageArea_3 (by decide) ?_
    refine G_icmp_ge dSC_damageArea_5 (fun h1 => ?_) (fun h1 => ?_)
    · exact absurd h1 (nI_ge (a := y) (b := 16) (by omega) (by decide))
    · refine G_iconst (v := nI 0) dSC_damageArea_8 (by decide +kernel) ?_
      refine G_istore_n (ls' := [.ref sc, .ref a, .int (nI y), .int (nI 0)]) dSC_damageArea_9 (by decide) rfl ?_
      refine da_in hS hta hne hA0 (by omega) (fun g1 hD1 hO1 => ?_) 24 0 rfl gi hD hO
      refine G_iinc (ls' := [.ref sc, .ref a, .int (nI (y + 1)), .int (nI 24)]) dSC_damageArea_42 rfl (nI_inc y) (by decide) rfl ?_
      refine G_goto dSC_damageArea_45 ?_
      exact ih (y + 1) (by omega) g1 _ (by rw [show (y + 1) * 24 = y * 24 + 24 by omega]; exact hD1) hO1
theorem cSC_damageArea {E : gE} {T : gT} {gi : gI} {gr : gR} {sc a : Nat} {D : Nat → Bool} {q : A4} (hS : ScOk T gr sc) (hta : T.1 a = 6) (hne : a ≠ sc + 2) (hA : ArIs gi a q) (hD : DmIs gi sc D) : Ct E mSC_damageArea [.ref sc, .ref a] T gi gr (fun T' gi' gr' v => T' = T ∧ gr' = gr ∧ v = none ∧ DmIs gi' sc (dmA D q 384) ∧ Off1 gi gi' (sc + 2)) := by
  refine Ct_of (ls := [.ref sc, .ref a, .long 0, .long 0]) (by decide) (gcat_cons rfl (gcat_cons rfl gcat_nil)) (Nat.le_of_ble_eq_true rfl) rfl ?_
  refine G_iconst (v := nI 0) dSC_damageArea_0 (by decide +kernel) ?_
  refine G_istore_n (ls' := [.ref sc, .ref a, .int (nI 0), .long 0]) dSC_damageArea_1 (by decide) rfl ?_
  refine da_out hS hta hne hA (fun g1 hD1 hO1 => ⟨rfl, rfl, rfl, hD1, hO1⟩) 16 0 rfl gi _ (fun j hj => ?_) (fun _ _ => rfl)
  rw [hD j hj]
  unfold dmA
  rw [decide_eq_false (show ¬ j < 0 * 24 by omega), Bool.false_and, Bool.or_false]
end
section
abbrev S2 : Type := (Nat → Nat → Int32) × Int32
def kamP (S : S2) (p q : Nat) (d : Int32) (ec : Nat) : S2 := (kamM S.1 p q d ec, kamC S.1 p q d S.2)
def fixP (S : S2) (p q : Nat) (d : Int32) (ec : Nat) : S2 := kamP (kamP S p q d ec) q p (-d) ec
def fixK (S : S2) (p q : Nat) (d : Int32) (ec : Nat) : Prop := KOk S.1 p q d ∧ KOk (kamP S p q d ec).1 q p (-d)
def demP (S : S2) (κ : K5) (ec : Nat) : S2 := (demM S.1 κ ec, demC S.1 κ ec S.2)
def lerP (S : S2) (κ : K5) (ec : Nat) : S2 := (lerM S.1 κ ec, lerC S.1 κ ec S.2)
def dbP (S : S2) (ec : Nat) : Nat → S2
  | 0 => S
  | b + 1 => kamP (kamP (dbP S ec b) (4 * b) (4 * b + 1) (-0) ec) (4 * b + 2) (4 * b + 3) (-0) ec
def dbK (S : S2) (ec b : Nat) : Prop := KOk (dbP S ec b).1 (4 * b) (4 * b + 1) (-0) ∧ KOk (kamP (dbP S ec b) (4 * b) (4 * b + 1) (-0) ec).1 (4 * b + 2) (4 * b + 3) (-0)
def dcP (S : S2) (cs : Nat → Option K5) (ec : Nat) : Nat → S2
  | 0 => S
  | i + 1 => match cs i with
    | some κ => if κ.2.2.2.2 = 0 then demP (dcP S cs ec i) κ ec else dcP S cs ec i
    | none => dcP S cs ec i
def csP (S : S2) (cs : Nat → Option K5) (ec s : Nat) : Nat → S2
  | 0 => S
  | i + 1 => match cs i with
    | some κ => if κ.2.2.2.2 = s then lerP (csP S cs ec s i) κ ec else csP S cs ec s i
    | none => csP S cs ec s i
def sfP (S : S2) (cs : Nat → Option K5) (ec : Nat) : Nat → S2
  | 0 => S
  | k + 1 => csP (sfP S cs ec k) cs ec (k + 1) 16
def edD (S : S2) (pl : Nat → Int32) (e : Nat) : Int32 := nearI (pl e) (-(S.1 e 0)) (S.1 0 e)
def edP (S : S2) (pl : Nat → Int32) (ec : Nat) : Nat → S2
  | 0 => S
  | e + 1 => fixP (edP S pl ec e) e 0 (edD (edP S pl ec e) pl e) ec
def edL (S : S2) (pl : Nat → Int32) (ec : Nat) (e : Nat) : Nat → Int32 := fun j => if j < e then edD (edP S pl ec j) pl j else pl j
def d0P (R : Nat → Nat → Int32) (w h : Int32) (ec : Nat) : S2 := fixP (fixP (fixP (opR R ec, 0) 1 0 w ec) 2 0 0 ec) 3 0 h ec
def d0K (R : Nat → Nat → Int32) (w h : Int32) (ec : Nat) : Prop := fixK (opR R ec, 0) 1 0 w ec ∧ fixK (fixP (opR R ec, 0) 1 0 w ec) 2 0 0 ec ∧ fixK (fixP (fixP (opR R ec, 0) 1 0 w ec) 2 0 0 ec) 3 0 h ec
def daP (R : Nat → Nat → Int32) (w h : Int32) (nb : Nat) (cs : Nat → Option K5) : S2 := dcP (dbP (d0P R w h (4 * nb)) (4 * nb) nb) cs (4 * nb) 16
def daK (R : Nat → Nat → Int32) (w h : Int32) (nb : Nat) (cs : Nat → Option K5) : Prop := d0K R w h (4 * nb) ∧ (∀ b, b < nb → dbK (d0P R w h (4 * nb)) (4 * nb) b) ∧ ∀ i κ, i < 16 → cs i = some κ → κ.2.2.2.2 = 0 → demK (dcP (dbP (d0P R w h (4 * nb)) (4 * nb) nb) cs (4 * nb) i).1 κ (4 * nb)
def cbK (S : S2) (pl : Nat → Int32) (nb : Nat) (cs : Nat → Option K5) : Prop := (∀ k i κ, k < 3 → i < 16 → cs i = some κ → κ.2.2.2.2 = k + 1 → lerK (csP (sfP S cs (4 * nb) k) cs (4 * nb) (k + 1) i).1 κ (4 * nb)) ∧ ∀ e, e < 4 * nb → fixK (edP (sfP S cs (4 * nb) 3) pl (4 * nb) e) e 0 (edD (edP (sfP S cs (4 * nb) 3) pl (4 * nb) e) pl e) (4 * nb)
def LaOk (T : gT) (gr : gR) (la : Nat) : Prop := T.1 la = 3 ∧ gr la 0 = some (la + 1) ∧ gr la 2 = some (la + 2) ∧ gr la 3 = some (la + 3) ∧ T.1 (la + 1) = 100 ∧ T.2.1 (la + 1) = 24 ∧ T.1 (la + 2) = 103 ∧ T.2.1 (la + 2) = 16 ∧ BdOk T gr (la + 3)
def LaIs (gi : gI) (la nb : Nat) (w h : Int32) : Prop := gi la 1 = nI (4 * nb) ∧ gi la 4 = w ∧ gi la 5 = h
def PlIs (gi : gI) (la : Nat) (pl : Nat → Int32) : Prop := ∀ j, j < 24 → gi (la + 1) j = pl j
def CsIs (T : gT) (gi : gI) (gr : gR) (la : Nat) (cs : Nat → Option K5) (cx : Nat → Nat) : Prop := ∀ i, i < 16 → (cs i = none → gr (la + 2) i = none) ∧ ∀ κ, cs i = some κ → gr (la + 2) i = some (cx i) ∧ T.1 (cx i) = 7 ∧ CnIs gi (cx i) κ ∧ CnOk κ ∧ ¬ (la ≤ cx i ∧ cx i < la + 29)
theorem LaIs.off {gi gi' : gI} {la nb : Nat} {w h : Int32} (hL : LaIs gi la nb w h) (hO : BdOff gi gi' (la + 3)) : LaIs gi' la nb w h := by
  unfold LaIs
  rw [hO la (by omega)]
  exact hL
theorem CnIs.row {gi gi' : gI} {c : Nat} {κ : K5} (h : CnIs gi c κ) (e : gi' c = gi c) : CnIs gi' c κ := by
  unfold CnIs
  rw [e]
  exact h
theorem CsIs.off {T : gT} {gi gi' : gI} {gr : gR} {la : Nat} {cs : Nat → Option K5} {cx : Nat → Nat} (hC : CsIs T gi gr la cs cx) (hO : ∀ a, ¬ (la ≤ a ∧ a < la + 29) → gi' a = gi a) : CsIs T gi' gr la cs cx := by
  intro i hi
  refine ⟨(hC i hi).1, fun κ hκ => ?_⟩
  obtain ⟨h1, h2, h3, h4, h5⟩ := (hC i hi).2 κ hκ
  exact ⟨h1, h2, h3.row (hO _ h5), h4, h5⟩
theorem BdOff.la {gi gi' : gI} {la : Nat} (hO : BdOff gi gi' (la + 3)) : ∀ a, ¬ (la ≤ a ∧ a < la + 29) → gi' a = gi a := fun a ha => hO a (by omega)
theorem pBD_fix {E : gE} {T : gT} {gi : gI} {gr : gR} {bd p q ec : Nat} {d : Int32} {S : S2} (hB : BdOk T gr bd) (hS : BdIs gi bd S.1 S.2 ec) (hp : p < 24) (hq : q < 24) (hec : ec ≤ 24) (hk : fixK S p q d ec) : Ct E mBD_fix [.ref bd, .int (nI p), .int (nI q), .int d] T gi gr (fun T' gi' gr' v => T' = T ∧ gr' = gr ∧ v = none ∧ BdIs gi' bd (fixP S p q d ec).1 (fixP S p q d ec).2 ec ∧ BdOff gi gi' bd) := cBD_fix hB hS hp hq hec hk.1 hk.2
theorem pBD_fixNear {E : gE} {T : gT} {gi : gI} {gr : gR} {bd p q ec : Nat} {d : Int32} {S : S2} (hB : BdOk T gr bd) (hS : BdIs gi bd S.1 S.2 ec) (hp : p < 24) (hq : q < 24) (hec : ec ≤ 24) (hk : fixK S p q (nearI d (-(S.1 p q)) (S.1 q p)) ec) : Ct E mBD_fixNear [.ref bd, .int (nI p), .int (nI q), .int d] T gi gr (fun T' gi' gr' v => T' = T ∧ gr' = gr ∧ v = some (.int (nearI d (-(S.1 p q)) (S.1 q p))) ∧ BdIs gi' bd (fixP S p q (nearI d (-(S.1 p q)) (S.1 q p)) ec).1 (fixP S p q (nearI d (-(S.1 p q)) (S.1 q p)) ec).2 ec ∧ BdOff gi gi' bd) := cBD_fixNear hB hS hp hq hec hk.1 hk.2
theorem pBD_kal {E : gE} {T : gT} {gi : gI} {gr : gR} {bd p q ec : Nat} {d : Int32} {S : S2} (hB : BdOk T gr bd) (hS : BdIs gi bd S.1 S.2 ec) (hp : p < 24) (hq : q < 24) (hec : ec ≤ 24) (hk : KOk S.1 q p (-d)) : Ct E mBD_keepAtLeast [.ref bd, .int (nI p), .int (nI q), .int d] T gi gr (fun T' gi' gr' v => T' = T ∧ gr' = gr ∧ v = none ∧ BdIs gi' bd (kamP S q p (-d) ec).1 (kamP S q p (-d) ec).2 ec ∧ BdOff gi gi' bd) := cBD_keepAtLeast hB hS hp hq hec hk
theorem pCN_demandIn {E : gE} {T : gT} {gi : gI} {gr : gR} {ck bd ec : Nat} {κ : K5} {S : S2} (ht : T.1 ck = 7) (hC : CnIs gi ck κ) (hk : CnOk κ) (hB : BdOk T gr bd) (hS : BdIs gi bd S.1 S.2 ec) (hec : ec ≤ 24) (hD : demK S.1 κ ec) : Ct E mCN_demandIn [.ref ck, .ref bd] T gi gr (fun T' gi' gr' v => T' = T ∧ gr' = gr ∧ v = none ∧ BdIs gi' bd (demP S κ ec).1 (demP S κ ec).2 ec ∧ BdOff gi gi' bd) := cCN_demandIn ht hC hk hB hS hec hD
theorem pCN_leastErrorIn {E : gE} {T : gT} {gi : gI} {gr : gR} {ck bd ec : Nat} {κ : K5} {S : S2} (ht : T.1 ck = 7) (hC : CnIs gi ck κ) (hk : CnOk κ) (hB : BdOk T gr bd) (hS : BdIs gi bd S.1 S.2 ec) (hec : ec ≤ 24) (hD : lerK S.1 κ ec) : Ct E mCN_leastErrorIn [.ref ck, .ref bd] T gi gr (fun T' gi' gr' v => T' = T ∧ gr' = gr ∧ v = none ∧ BdIs gi' bd (lerP S κ ec).1 (lerP S κ ec).2 ec ∧ BdOff gi gi' bd) := cCN_leastErrorIn ht hC hk hB hS hec hD
theorem pBD_open {E : gE} {T : gT} {gi : gI} {gr : gR} {bd ec ec0 : Nat} {cf : Int32} {R : Nat → Nat → Int32} (hB : BdOk T gr bd) (hI : BdIs gi bd R cf ec0) (hec24 : ec ≤ 24) : Ct E mBD_open [.ref bd, .int (nI ec)] T gi gr (fun T' gi' gr' v => T' = T ∧ gr' = gr ∧ v = none ∧ BdIs gi' bd (opR R ec, (0 : Int32)).1 (opR R ec, (0 : Int32)).2 ec ∧ BdOff gi gi' bd) := cBD_open hB hI hec24
theorem nI_inc4 (b : Nat) : nI (4 * b) + Int32.ofInt 4 = nI (4 * (b + 1)) := nI_add (4 * b) 4
abbrev isEd (nb : Nat) (x : Int32) : Prop := ¬ x < 0 ∧ ¬ nI (4 * nb) ≤ x
theorem cLA_isEdge {E : gE} {T : gT} {gi : gI} {gr : gR} {la nb : Nat} {x w h : Int32} (hL : LaOk T gr la) (hI : LaIs gi la nb w h) : Ct E mLA_isEdge [.ref la, .int x] T gi gr (fun T' gi' gr' v => T' = T ∧ gi' = gi ∧ gr' = gr ∧ v = some (.int (if isEd nb x then 1 else 0))) := by
  refine Ct_of (ls := [.ref la, .int x]) (by decide) (gcat_cons rfl (gcat_cons rfl gcat_nil)) (Nat.le_of_ble_eq_true rfl) rfl ?_
  refine G_iload_n dLA_isEdge_0 rfl ?_
  refine G_if_lt dLA_isEdge_1 (fun h1 => ?_) (fun h1 => ?_)
  · refine G_iconst (v := 0) dLA_isEdge_16 (by decide) ?_
    exact G_ireturn dLA_isEdge_17 rfl (nr_z (by decide)) (by decide) (by decide) ⟨rfl, rfl, rfl, by simp [isEd, h1]⟩
  · refine G_iload_n dLA_isEdge_4 rfl ?_
    refine G_aload_n dLA_isEdge_5 rfl ?_
    refine G_getI fLA_35 dLA_isEdge_6 hL.1 ?_
    rw [hI.1]
    refine G_icmp_ge dLA_isEdge_9 (fun h2 => ?_) (fun h2 => ?_)
    · refine G_iconst (v := 0) dLA_isEdge_16 (by decide) ?_
      exact G_ireturn dLA_isEdge_17 rfl (nr_z (by decide)) (by decide) (by decide) ⟨rfl, rfl, rfl, by simp [isEd, h1, h2]⟩
    · refine G_iconst (v := 1) dLA_isEdge_12 (by decide) ?_
      refine G_goto dLA_isEdge_13 ?_
      exact G_ireturn dLA_isEdge_17 rfl (nr_z (by decide)) (by decide) (by decide) ⟨rfl, rfl, rfl, by simp [isEd, h1, h2]⟩
abbrev tbE (x : Int32) : Prop := ¬ x - x / 4 * 4 < 2
abbrev cjE (nb : Nat) (p q : Int32) : Prop := isEd nb p ∧ isEd nb q ∧ ¬ p = q ∧ (tbE p ↔ tbE q)
theorem if01 {c : Prop} [Decidable c] : (if c then (1 : Int32) else 0) = 0 ↔ ¬ c := by by_cases h : c <;> simp [h]
theorem if01e {c d : Prop} [Decidable c] [Decidable d] : (if c then (1 : Int32) else 0) = (if d then (1 : Int32) else 0) ↔ (c ↔ d) := by by_cases h : c <;> by_cases h' : d <;> simp [h, h']
theorem cLA_isTopOrBottom {E : gE} {T : gT} {gi : gI} {gr : gR} {x : Int32}  : Ct E mLA_isTopOrBottom [.int x] T gi gr (fun T' gi' gr' v => T' = T ∧ gi' = gi ∧ gr' = gr ∧ v = some (.int (if tbE x then 1 else 0))) := by
  refine Ct_of (ls := [.int x]) (by decide) (gcat_cons rfl gcat_nil) (Nat.le_of_ble_eq_true rfl) rfl ?_
  refine G_iload_n dLA_isTopOrBottom_0 rfl ?_
  refine G_iconst (v := 4) dLA_isTopOrBottom_1 (by decide) ?_
  refine G_irem dLA_isTopOrBottom_2 (by decide) ?_
  refine G_iconst (v := 2) dLA_isTopOrBottom_3 (by decide) ?_
  refine G_icmp_lt dLA_isTopOrBottom_4 (fun h1 => ?_) (fun h1 => ?_)
  · refine G_iconst (v := 0) dLA_isTopOrBottom_11 (by decide) ?_
    exact G_ireturn dLA_isTopOrBottom_12 rfl (nr_z (by decide)) (by decide) (by decide) ⟨rfl, rfl, rfl, by simp [tbE, h1]⟩
  · refine G_iconst (v := 1) dLA_isTopOrBottom_7 (by decide) ?_
    refine G_goto dLA_isTopOrBottom_8 ?_
    exact G_ireturn dLA_isTopOrBottom_12 rfl (nr_z (by decide)) (by decide) (by decide) ⟨rfl, rfl, rfl, by simp [tbE, h1]⟩
theorem cLA_canJoin {E : gE} {T : gT} {gi : gI} {gr : gR} {la nb : Nat} {p q w h : Int32} (hL : LaOk T gr la) (hI : LaIs gi la nb w h) : Ct E mLA_canJoin [.ref la, .int p, .int q] T gi gr (fun T' gi' gr' v => T' = T ∧ gi' = gi ∧ gr' = gr ∧ v = some (.int (if cjE nb p q then 1 else 0))) := by
  refine Ct_of (ls := [.ref la, .int p, .int q]) (by decide) (gcat_cons rfl (gcat_cons rfl (gcat_cons rfl gcat_nil))) (Nat.le_of_ble_eq_true rfl) rfl ?_
  refine G_aload_n dLA_canJoin_0 rfl ?_
  refine G_iload_n dLA_canJoin_1 rfl ?_
  refine G_callV (As := [.int p]) (rest := []) gLA_canJoin_LA_isEdge lLA_38.1 lLA_38.2.1 lLA_38.2.2.1 lLA_38.2.2.2 dLA_canJoin_2 rfl (Nat.le_of_ble_eq_true rfl) hL.1 ⟨by decide, by decide⟩ (cLA_isEdge hL hI) ?_
  rintro _ _ _ _ ⟨rfl, rfl, rfl, rfl⟩
  refine G_st (st' := [.int (if isEd nb p then 1 else 0)]) rfl ?_
  refine G_if_eq dLA_canJoin_5 (fun h1 => ?_) (fun h1 => ?_)
  · refine G_iconst (v := 0) dLA_canJoin_36 (by decide) ?_
    exact G_ireturn dLA_canJoin_37 rfl (nr_z (by decide)) (by decide) (by decide) ⟨rfl, rfl, rfl, by simp only [if01, if01e, Decidable.not_not] at h1; rw [if_neg (fun z => h1 z.1)]⟩
  · refine G_aload_n dLA_canJoin_8 rfl ?_
    refine G_iload_n dLA_canJoin_9 rfl ?_
    refine G_callV (As := [.int q]) (rest := []) gLA_canJoin_LA_isEdge lLA_38.1 lLA_38.2.1 lLA_38.2.2.1 lLA_38.2.2.2 dLA_canJoin_10 rfl (Nat.le_of_ble_eq_true rfl) hL.1 ⟨by decide, by decide⟩ (cLA_isEdge hL hI) ?_
    rintro _ _ _ _ ⟨rfl, rfl, rfl, rfl⟩
    refine G_st (st' := [.int (if isEd nb q then 1 else 0)]) rfl ?_
    refine G_if_eq dLA_canJoin_13 (fun h2 => ?_) (fun h2 => ?_)
    · refine G_iconst (v := 0) dLA_canJoin_36 (by decide) ?_
      exact G_ireturn dLA_canJoin_37 rfl (nr_z (by decide)) (by decide) (by decide) ⟨rfl, rfl, rfl, by simp only [if01, if01e, Decidable.not_not] at h1 h2; rw [if_neg (fun z => h2 z.2.1)]⟩
    · refine G_iload_n dLA_canJoin_16 rfl ?_
      refine G_iload_n dLA_canJoin_17 rfl ?_
      refine G_icmp_eq dLA_canJoin_18 (fun h3 => ?_) (fun h3 => ?_)
      · refine G_iconst (v := 0) dLA_canJoin_36 (by decide) ?_
        exact G_ireturn dLA_canJoin_37 rfl (nr_z (by decide)) (by decide) (by decide) ⟨rfl, rfl, rfl, by simp only [if01, if01e, Decidable.not_not] at h1 h2 h3; rw [if_neg (fun z => z.2.2.1 h3)]⟩
      · refine G_iload_n dLA_canJoin_21 rfl ?_
        refine G_callS (As := [.int p]) (rest := []) gLA_canJoin_LA_isTopOrBottom lLA_42.1 lLA_42.2 dLA_canJoin_22 rfl (Nat.le_of_ble_eq_true rfl) ⟨by decide, by decide⟩ cLA_isTopOrBottom ?_
        rintro _ _ _ _ ⟨rfl, rfl, rfl, rfl⟩
        refine G_st (st' := [.int (if tbE p then 1 else 0)]) rfl ?_
        refine G_iload_n dLA_canJoin_25 rfl ?_
        refine G_callS (As := [.int q]) (rest := [.int (if tbE p then 1 else 0)]) gLA_canJoin_LA_isTopOrBottom lLA_42.1 lLA_42.2 dLA_canJoin_26 rfl (Nat.le_of_ble_eq_true rfl) ⟨by decide, by decide⟩ cLA_isTopOrBottom ?_
        rintro _ _ _ _ ⟨rfl, rfl, rfl, rfl⟩
        refine G_st (st' := [.int (if tbE q then 1 else 0), .int (if tbE p then 1 else 0)]) rfl ?_
        refine G_icmp_ne dLA_canJoin_29 (fun h4 => ?_) (fun h4 => ?_)
        · refine G_iconst (v := 0) dLA_canJoin_36 (by decide) ?_
          exact G_ireturn dLA_canJoin_37 rfl (nr_z (by decide)) (by decide) (by decide) ⟨rfl, rfl, rfl, by simp only [if01, if01e, Decidable.not_not] at h1 h2 h3 h4; rw [if_neg (fun z => h4 z.2.2.2)]⟩
        · refine G_iconst (v := 1) dLA_canJoin_32 (by decide) ?_
          refine G_goto dLA_canJoin_33 ?_
          exact G_ireturn dLA_canJoin_37 rfl (nr_z (by decide)) (by decide) (by decide) ⟨rfl, rfl, rfl, by simp only [if01, if01e, Decidable.not_not] at h1 h2 h3 h4; rw [if_pos ⟨h1, h2, h3, h4⟩]⟩
end
section
theorem da_box {E : gE} {T : gT} {g0 : gI} {gr : gR} {la nb : Nat} {w h : Int32} {S : S2} {Q : gQ} (hL : LaOk T gr la) (hI : LaIs g0 la nb w h) (hnb : nb ≤ 6) (hK : ∀ b, b < nb → dbK S (4 * nb) b) (kx : ∀ gi : gI, BdIs gi (la + 3) (dbP S (4 * nb) nb).1 (dbP S (4 * nb) nb).2 (4 * nb) → BdOff g0 gi (la + 3) → G E mLA_demandAll 91 [.ref la, .int (nI (4 * nb))] [] T gi gr 0 0 Q) : ∀ (n b : Nat), b + n = nb → ∀ gi : gI, BdIs gi (la + 3) (dbP S (4 * nb) b).1 (dbP S (4 * nb) b).2 (4 * nb) → BdOff g0 gi (la + 3) → G E mLA_demandAll 49 [.ref la, .int (nI (4 * b))] [] T gi gr 0 0 Q := by
  have hB : BdOk T gr (la + 3) := hL.2.2.2.2.2.2.2.2
  intro n
  induction n with
  | zero =>
    intro b hb gi hS hO
    have hb : b = nb := by omega
    subst hb
    refine G_iload_n dLA_demandAll_49 rfl ?_
    refine G_aload_n dLA_demandAll_50 rfl ?_
    refine G_getI fLA_35 dLA_demandAll_51 hL.1 ?_
    rw [(hI.off hO).1]
    refine G_icmp_ge dLA_demandAll_54 (fun h1 => kx gi hS hO) (fun h1 => ?_)
    exact absurd (nI_le (by omega) (by omega)) h1
  | succ n ih =>
    intro b hbn gi hS hO
    have hk := hK b (by omega)
    refine G_iload_n dLA_demandAll_49 rfl ?_
    refine G_aload_n dLA_demandAll_50 rfl ?_
    refine G_getI fLA_35 dLA_demandAll_51 hL.1 ?_
    rw [(hI.off hO).1]
    refine G_icmp_ge dLA_demandAll_54 (fun h1 => ?_) (fun h1 => ?_)
    · exact absurd h1 (nI_ge (by omega) (by omega))
    · refine G_aload_n dLA_demandAll_57 rfl ?_
      refine G_getRs fLA_24 dLA_demandAll_58 hL.1 hL.2.2.2.1 ?_
      refine G_iload_n dLA_demandAll_61 rfl ?_
      refine G_iconst (v := 1) dLA_demandAll_62 (by decide) ?_
      refine G_iadd dLA_demandAll_63 ?_
      rw [nI_p1]
      refine G_iload_n dLA_demandAll_64 rfl ?_
      refine G_iconst (v := 0) dLA_demandAll_65 (by decide) ?_
      refine G_iadd dLA_demandAll_66 ?_
      rw [nI_p0]
      refine G_iconst (v := 0) dLA_demandAll_67 (by decide) ?_
      refine G_callV (As := [.int (nI (4 * b + 1)), .int (nI (4 * b)), .int 0]) (rest := []) gLA_demandAll_BD_keepAtLeast lLA_71.1 lLA_71.2.1 lLA_71.2.2.1 lLA_71.2.2.2 dLA_demandAll_68 rfl (Nat.le_of_ble_eq_true rfl) hB.1 ⟨by decide, by decide⟩ (pBD_kal (S := dbP S (4 * nb) b) (p := 4 * b + 1) (q := 4 * b) hB hS (by omega) (by omega) (by omega) hk.1) ?_
      rintro _ g1 _ _ ⟨rfl, rfl, rfl, hS1, hO1⟩
      refine G_st (st' := []) rfl ?_
      refine G_aload_n dLA_demandAll_71 rfl ?_
      refine G_getRs fLA_24 dLA_demandAll_72 hL.1 hL.2.2.2.1 ?_
      refine G_iload_n dLA_demandAll_75 rfl ?_
      refine G_iconst (v := 3) dLA_demandAll_76 (by decide) ?_
      refine G_iadd dLA_demandAll_77 ?_
      rw [nI_p3]
      refine G_iload_n dLA_demandAll_78 rfl ?_
      refine G_iconst (v := 2) dLA_demandAll_79 (by decide) ?_
      refine G_iadd dLA_demandAll_80 ?_
      rw [nI_p2]
      refine G_iconst (v := 0) dLA_demandAll_81 (by decide) ?_
      refine G_callV (As := [.int (nI (4 * b + 3)), .int (nI (4 * b + 2)), .int 0]) (rest := []) gLA_demandAll_BD_keepAtLeast lLA_71.1 lLA_71.2.1 lLA_71.2.2.1 lLA_71.2.2.2 dLA_demandAll_82 rfl (Nat.le_of_ble_eq_true rfl) hB.1 ⟨by decide, by decide⟩ (pBD_kal (S := kamP (dbP S (4 * nb) b) (4 * b) (4 * b + 1) (-0) (4 * nb)) (p := 4 * b + 3) (q := 4 * b + 2) hB hS1 (by omega) (by omega) (by omega) hk.2) ?_
      rintro _ g2 _ _ ⟨rfl, rfl, rfl, hS2, hO2⟩
      refine G_st (st' := []) rfl ?_
      refine G_iinc (ls' := [.ref la, .int (nI (4 * (b + 1)))]) dLA_demandAll_85 rfl (nI_inc4 b) (by decide) rfl ?_
      refine G_goto dLA_demandAll_88 ?_
      exact ih (b + 1) (by omega) g2 hS2 (hO.tr (hO1.tr hO2))
theorem da_con {E : gE} {T : gT} {g0 : gI} {gr : gR} {la nb : Nat} {cs : Nat → Option K5} {cx : Nat → Nat} {S : S2} {Q : gQ} (hL : LaOk T gr la) (hC0 : CsIs T g0 gr la cs cx) (hnb : nb ≤ 6) (hK : ∀ i κ, i < 16 → cs i = some κ → κ.2.2.2.2 = 0 → demK (dcP S cs (4 * nb) i).1 κ (4 * nb)) (kx : ∀ gi : gI, BdIs gi (la + 3) (dcP S cs (4 * nb) 16).1 (dcP S cs (4 * nb) 16).2 (4 * nb) → BdOff g0 gi (la + 3) → Q T gi gr none) : ∀ (n i : Nat), i + n = 16 → ∀ gi : gI, BdIs gi (la + 3) (dcP S cs (4 * nb) i).1 (dcP S cs (4 * nb) i).2 (4 * nb) → BdOff g0 gi (la + 3) → G E mLA_demandAll 93 [.ref la, .int (nI i)] [] T gi gr 0 0 Q := by
  have hB : BdOk T gr (la + 3) := hL.2.2.2.2.2.2.2.2
  intro n
  induction n with
  | zero =>
    intro i hi gi hS hO
    have hi : i = 16 := by omega
    subst hi
    refine G_iload_n dLA_demandAll_93 rfl ?_
    refine G_bipush (v := 16) dLA_demandAll_94 (by decide) ?_
    refine G_icmp_ge dLA_demandAll_96 (fun h1 => ?_) (fun h1 => ?_)
    · exact G_return dLA_demandAll_139 rfl (by decide) (by decide) (kx gi hS hO)
    · exact absurd (nI_le (a := 16) (b := 16) (by omega) (by decide)) h1
  | succ n ih =>
    intro i hin gi hS hO
    have hC : CsIs T gi gr la cs cx := hC0.off hO.la
    cases hcs : cs i with
    | none =>
      refine G_iload_n dLA_demandAll_93 rfl ?_
      refine G_bipush (v := 16) dLA_demandAll_94 (by decide) ?_
      refine G_icmp_ge dLA_demandAll_96 (fun h1 => ?_) (fun h1 => ?_)
      · exact absurd h1 (nI_ge (a := i) (b := 16) (by omega) (by decide))
      · refine G_aload_n dLA_demandAll_99 rfl ?_
        refine G_getRs fLA_17 dLA_demandAll_100 hL.1 hL.2.2.1 ?_
        refine G_iload_n dLA_demandAll_103 rfl ?_
        refine G_aaldN 3 dLA_demandAll_104 (by decide) hL.2.2.2.2.2.2.1 hL.2.2.2.2.2.2.2.1 (by decide) (by omega) ?_
        rw [((hC i (by omega)).1 hcs)]
        refine G_st (st' := [.null]) rfl ?_
        refine G_ifnullN dLA_demandAll_105 ?_
        refine G_iinc (ls' := [.ref la, .int (nI (i + 1))]) dLA_demandAll_133 rfl (nI_inc i) (by decide) rfl ?_
        refine G_goto dLA_demandAll_136 ?_
        exact ih (i + 1) (by omega) gi (by unfold dcP; rw [hcs]; exact hS) hO
    | some κ =>
      have hci := (hC i (by omega)).2 κ hcs
      refine G_iload_n dLA_demandAll_93 rfl ?_
      refine G_bipush (v := 16) dLA_demandAll_94 (by decide) ?_
      refine G_icmp_ge dLA_demandAll_96 (fun h1 => ?_) (fun h1 => ?_)
      · exact absurd h1 (nI_ge (a := i) (b := 16) (by omega) (by decide))
      · refine G_aload_n dLA_demandAll_99 rfl ?_
        refine G_getRs fLA_17 dLA_demandAll_100 hL.1 hL.2.2.1 ?_
        refine G_iload_n dLA_demandAll_103 rfl ?_
        refine G_aaldsN 3 dLA_demandAll_104 (by decide) hL.2.2.2.2.2.2.1 hL.2.2.2.2.2.2.2.1 (by decide) (by omega) hci.1 ?_
        refine G_ifnull dLA_demandAll_105 ?_
        refine G_aload_n dLA_demandAll_108 rfl ?_
        refine G_getRs fLA_17 dLA_demandAll_109 hL.1 hL.2.2.1 ?_
        refine G_iload_n dLA_demandAll_112 rfl ?_
        refine G_aaldsN 3 dLA_demandAll_113 (by decide) hL.2.2.2.2.2.2.1 hL.2.2.2.2.2.2.2.1 (by decide) (by omega) hci.1 ?_
        refine G_getI fLA_74 dLA_demandAll_114 hci.2.1 ?_
        rw [hci.2.2.1.1]
        refine G_if_ne dLA_demandAll_117 (fun h2 => ?_) (fun h2 => ?_)
        · refine G_iinc (ls' := [.ref la, .int (nI (i + 1))]) dLA_demandAll_133 rfl (nI_inc i) (by decide) rfl ?_
          refine G_goto dLA_demandAll_136 ?_
          exact ih (i + 1) (by omega) gi (by unfold dcP; rw [hcs]; simp only [if_neg (fun q => h2 ((nI_z (by have := hci.2.2.2.1.2.2.2; omega)).mpr q))]; exact hS) hO
        · refine G_aload_n dLA_demandAll_120 rfl ?_
          refine G_getRs fLA_17 dLA_demandAll_121 hL.1 hL.2.2.1 ?_
          refine G_iload_n dLA_demandAll_124 rfl ?_
          refine G_aaldsN 3 dLA_demandAll_125 (by decide) hL.2.2.2.2.2.2.1 hL.2.2.2.2.2.2.2.1 (by decide) (by omega) hci.1 ?_
          refine G_aload_n dLA_demandAll_126 rfl ?_
          refine G_getRs fLA_24 dLA_demandAll_127 hL.1 hL.2.2.2.1 ?_
          refine G_callV (As := [.ref (la + 3)]) (rest := []) gLA_demandAll_CN_demandIn lLA_77.1 lLA_77.2.1 lLA_77.2.2.1 lLA_77.2.2.2 dLA_demandAll_130 rfl (Nat.le_of_ble_eq_true rfl) hci.2.1 ⟨by decide, by decide⟩ (pCN_demandIn (S := dcP S cs (4 * nb) i) hci.2.1 hci.2.2.1 hci.2.2.2.1 hB hS (by omega) (hK i κ (by omega) hcs ((nI_z (by have := hci.2.2.2.1.2.2.2; omega)).mp h2))) ?_
          rintro _ g1 _ _ ⟨rfl, rfl, rfl, hS1, hO1⟩
          refine G_st (st' := []) rfl ?_
          refine G_iinc (ls' := [.ref la, .int (nI (i + 1))]) dLA_demandAll_133 rfl (nI_inc i) (by decide) rfl ?_
          refine G_goto dLA_demandAll_136 ?_
          exact ih (i + 1) (by omega) g1 (by unfold dcP; rw [hcs]; simp only [if_pos ((nI_z (by have := hci.2.2.2.1.2.2.2; omega)).mp h2)]; exact hS1) (hO.tr hO1)
theorem cLA_demandAll {E : gE} {T : gT} {gi : gI} {gr : gR} {la nb ec0 : Nat} {w h cf : Int32} {R : Nat → Nat → Int32} {cs : Nat → Option K5} {cx : Nat → Nat} (hL : LaOk T gr la) (hI : LaIs gi la nb w h) (hC : CsIs T gi gr la cs cx) (hS : BdIs gi (la + 3) R cf ec0) (hnb : nb ≤ 6) (hK : daK R w h nb cs) : Ct E mLA_demandAll [.ref la] T gi gr (fun T' gi' gr' v => T' = T ∧ gr' = gr ∧ v = none ∧ BdIs gi' (la + 3) (daP R w h nb cs).1 (daP R w h nb cs).2 (4 * nb) ∧ BdOff gi gi' (la + 3)) := by
  have hB : BdOk T gr (la + 3) := hL.2.2.2.2.2.2.2.2
  refine Ct_of (ls := [.ref la, .long 0]) (by decide) (gcat_cons rfl gcat_nil) (Nat.le_of_ble_eq_true rfl) rfl ?_
  refine G_aload_n dLA_demandAll_0 rfl ?_
  refine G_getRs fLA_24 dLA_demandAll_1 hL.1 hL.2.2.2.1 ?_
  refine G_aload_n dLA_demandAll_4 rfl ?_
  refine G_getI fLA_35 dLA_demandAll_5 hL.1 ?_
  rw [hI.1]
  refine G_callV (As := [.int (nI (4 * nb))]) (rest := []) gLA_demandAll_BD_open lLA_63.1 lLA_63.2.1 lLA_63.2.2.1 lLA_63.2.2.2 dLA_demandAll_8 rfl (Nat.le_of_ble_eq_true rfl) hB.1 ⟨by decide, by decide⟩ (pBD_open hB hS (by omega)) ?_
  rintro _ g1 _ _ ⟨rfl, rfl, rfl, hS1, hO1⟩
  refine G_st (st' := []) rfl ?_
  refine G_aload_n dLA_demandAll_11 rfl ?_
  refine G_getRs fLA_24 dLA_demandAll_12 hL.1 hL.2.2.2.1 ?_
  refine G_iconst (v := nI 1) dLA_demandAll_15 (by decide +kernel) ?_
  refine G_iconst (v := nI 0) dLA_demandAll_16 (by decide +kernel) ?_
  refine G_aload_n dLA_demandAll_17 rfl ?_
  refine G_getI fLA_28 dLA_demandAll_18 hL.1 ?_
  rw [(hI.off hO1).2.1]
  refine G_callV (As := [.int (nI 1), .int (nI 0), .int w]) (rest := []) gLA_demandAll_BD_fix lLA_67.1 lLA_67.2.1 lLA_67.2.2.1 lLA_67.2.2.2 dLA_demandAll_21 rfl (Nat.le_of_ble_eq_true rfl) hB.1 ⟨by decide, by decide⟩ (pBD_fix (p := 1) (q := 0) (S := (opR R (4 * nb), 0)) hB hS1 (by decide) (by decide) (by omega) hK.1.1) ?_
  rintro _ g2 _ _ ⟨rfl, rfl, rfl, hS2, hO2⟩
  refine G_st (st' := []) rfl ?_
  refine G_aload_n dLA_demandAll_24 rfl ?_
  refine G_getRs fLA_24 dLA_demandAll_25 hL.1 hL.2.2.2.1 ?_
  refine G_iconst (v := nI 2) dLA_demandAll_28 (by decide +kernel) ?_
  refine G_iconst (v := nI 0) dLA_demandAll_29 (by decide +kernel) ?_
  refine G_iconst (v := 0) dLA_demandAll_30 (by decide) ?_
  refine G_callV (As := [.int (nI 2), .int (nI 0), .int 0]) (rest := []) gLA_demandAll_BD_fix lLA_67.1 lLA_67.2.1 lLA_67.2.2.1 lLA_67.2.2.2 dLA_demandAll_31 rfl (Nat.le_of_ble_eq_true rfl) hB.1 ⟨by decide, by decide⟩ (pBD_fix (p := 2) (q := 0) (S := fixP (opR R (4 * nb), 0) 1 0 w (4 * nb)) hB hS2 (by decide) (by decide) (by omega) hK.1.2.1) ?_
  rintro _ g3 _ _ ⟨rfl, rfl, rfl, hS3, hO3⟩
  refine G_st (st' := []) rfl ?_
  refine G_aload_n dLA_demandAll_34 rfl ?_
  refine G_getRs fLA_24 dLA_demandAll_35 hL.1 hL.2.2.2.1 ?_
  refine G_iconst (v := nI 3) dLA_demandAll_38 (by decide +kernel) ?_
  refine G_iconst (v := nI 0) dLA_demandAll_39 (by decide +kernel) ?_
  refine G_aload_n dLA_demandAll_40 rfl ?_
  refine G_getI fLA_32 dLA_demandAll_41 hL.1 ?_
  rw [(hI.off (hO1.tr (hO2.tr hO3))).2.2]
  refine G_callV (As := [.int (nI 3), .int (nI 0), .int h]) (rest := []) gLA_demandAll_BD_fix lLA_67.1 lLA_67.2.1 lLA_67.2.2.1 lLA_67.2.2.2 dLA_demandAll_44 rfl (Nat.le_of_ble_eq_true rfl) hB.1 ⟨by decide, by decide⟩ (pBD_fix (p := 3) (q := 0) (S := fixP (fixP (opR R (4 * nb), 0) 1 0 w (4 * nb)) 2 0 0 (4 * nb)) hB hS3 (by decide) (by decide) (by omega) hK.1.2.2) ?_
  rintro _ g4 _ _ ⟨rfl, rfl, rfl, hS4, hO4⟩
  refine G_st (st' := []) rfl ?_
  refine G_iconst (v := nI 0) dLA_demandAll_47 (by decide +kernel) ?_
  refine G_istore_n (ls' := [.ref la, .int (nI 0)]) dLA_demandAll_48 (by decide) rfl ?_
  refine da_box (S := d0P R w h (4 * nb)) hL hI hnb hK.2.1 (fun gb hSb hOb => ?_) nb 0 (Nat.zero_add _) g4 hS4 (hO1.tr (hO2.tr (hO3.tr hO4)))
  refine G_iconst (v := nI 0) dLA_demandAll_91 (by decide +kernel) ?_
  refine G_istore_n (ls' := [.ref la, .int (nI 0)]) dLA_demandAll_92 (by decide) rfl ?_
  exact da_con hL hC hnb hK.2.2 (fun gc hSc hOc => ⟨rfl, rfl, rfl, hSc, hOc⟩) 16 0 rfl gb hSb hOb
end
section
theorem cb_con {E : gE} {T : gT} {g0 : gI} {gr : gR} {la nb k : Nat} {cs : Nat → Option K5} {cx : Nat → Nat} {S : S2} {Q : gQ} (hL : LaOk T gr la) (hC0 : CsIs T g0 gr la cs cx) (hnb : nb ≤ 6) (hk3 : k < 3) (hK : ∀ i κ, i < 16 → cs i = some κ → κ.2.2.2.2 = k + 1 → lerK (csP S cs (4 * nb) (k + 1) i).1 κ (4 * nb)) (kx : ∀ gi : gI, BdIs gi (la + 3) (csP S cs (4 * nb) (k + 1) 16).1 (csP S cs (4 * nb) (k + 1) 16).2 (4 * nb) → BdOff g0 gi (la + 3) → G E mLA_chooseBest 56 [.ref la, .int (nI (k + 1)), .int (nI 16)] [] T gi gr 0 0 Q) : ∀ (n i : Nat), i + n = 16 → ∀ gi : gI, BdIs gi (la + 3) (csP S cs (4 * nb) (k + 1) i).1 (csP S cs (4 * nb) (k + 1) i).2 (4 * nb) → BdOff g0 gi (la + 3) → G E mLA_chooseBest 9 [.ref la, .int (nI (k + 1)), .int (nI i)] [] T gi gr 0 0 Q := by
  have hB : BdOk T gr (la + 3) := hL.2.2.2.2.2.2.2.2
  intro n
  induction n with
  | zero =>
    intro i hi gi hS hO
    have hi : i = 16 := by omega
    subst hi
    refine G_iload_n dLA_chooseBest_9 rfl ?_
    refine G_bipush (v := 16) dLA_chooseBest_10 (by decide) ?_
    refine G_icmp_ge dLA_chooseBest_12 (fun h1 => kx gi hS hO) (fun h1 => ?_)
    exact absurd (nI_le (a := 16) (b := 16) (by omega) (by decide)) h1
  | succ n ih =>
    intro i hin gi hS hO
    have hC : CsIs T gi gr la cs cx := hC0.off hO.la
    cases hcs : cs i with
    | none =>
      refine G_iload_n dLA_chooseBest_9 rfl ?_
      refine G_bipush (v := 16) dLA_chooseBest_10 (by decide) ?_
      refine G_icmp_ge dLA_chooseBest_12 (fun h1 => ?_) (fun h1 => ?_)
      · exact absurd h1 (nI_ge (a := i) (b := 16) (by omega) (by decide))
      · refine G_aload_n dLA_chooseBest_15 rfl ?_
        refine G_getRs fLA_17 dLA_chooseBest_16 hL.1 hL.2.2.1 ?_
        refine G_iload_n dLA_chooseBest_19 rfl ?_
        refine G_aaldN 3 dLA_chooseBest_20 (by decide) hL.2.2.2.2.2.2.1 hL.2.2.2.2.2.2.2.1 (by decide) (by omega) ?_
        rw [((hC i (by omega)).1 hcs)]
        refine G_st (st' := [.null]) rfl ?_
        refine G_ifnullN dLA_chooseBest_21 ?_
        refine G_iinc (ls' := [.ref la, .int (nI (k + 1)), .int (nI (i + 1))]) dLA_chooseBest_50 rfl (nI_inc i) (by decide) rfl ?_
        refine G_goto dLA_chooseBest_53 ?_
        exact ih (i + 1) (by omega) gi (by unfold csP; rw [hcs]; exact hS) hO
    | some κ =>
      have hci := (hC i (by omega)).2 κ hcs
      refine G_iload_n dLA_chooseBest_9 rfl ?_
      refine G_bipush (v := 16) dLA_chooseBest_10 (by decide) ?_
      refine G_icmp_ge dLA_chooseBest_12 (fun h1 => ?_) (fun h1 => ?_)
      · exact absurd h1 (nI_ge (a := i) (b := 16) (by omega) (by decide))
      · refine G_aload_n dLA_chooseBest_15 rfl ?_
        refine G_getRs fLA_17 dLA_chooseBest_16 hL.1 hL.2.2.1 ?_
        refine G_iload_n dLA_chooseBest_19 rfl ?_
        refine G_aaldsN 3 dLA_chooseBest_20 (by decide) hL.2.2.2.2.2.2.1 hL.2.2.2.2.2.2.2.1 (by decide) (by omega) hci.1 ?_
        refine G_ifnull dLA_chooseBest_21 ?_
        refine G_aload_n dLA_chooseBest_24 rfl ?_
        refine G_getRs fLA_17 dLA_chooseBest_25 hL.1 hL.2.2.1 ?_
        refine G_iload_n dLA_chooseBest_28 rfl ?_
        refine G_aaldsN 3 dLA_chooseBest_29 (by decide) hL.2.2.2.2.2.2.1 hL.2.2.2.2.2.2.2.1 (by decide) (by omega) hci.1 ?_
        refine G_getI fLA_74 dLA_chooseBest_30 hci.2.1 ?_
        rw [hci.2.2.1.1]
        refine G_iload_n dLA_chooseBest_33 rfl ?_
        refine G_icmp_ne dLA_chooseBest_34 (fun h2 => ?_) (fun h2 => ?_)
        · refine G_iinc (ls' := [.ref la, .int (nI (k + 1)), .int (nI (i + 1))]) dLA_chooseBest_50 rfl (nI_inc i) (by decide) rfl ?_
          refine G_goto dLA_chooseBest_53 ?_
          exact ih (i + 1) (by omega) gi (by unfold csP; rw [hcs]; simp only [if_neg (fun q => h2 ((nI_eq (by have := hci.2.2.2.1.2.2.2; omega) (by omega)).mpr q))]; exact hS) hO
        · refine G_aload_n dLA_chooseBest_37 rfl ?_
          refine G_getRs fLA_17 dLA_chooseBest_38 hL.1 hL.2.2.1 ?_
          refine G_iload_n dLA_chooseBest_41 rfl ?_
          refine G_aaldsN 3 dLA_chooseBest_42 (by decide) hL.2.2.2.2.2.2.1 hL.2.2.2.2.2.2.2.1 (by decide) (by omega) hci.1 ?_
          refine G_aload_n dLA_chooseBest_43 rfl ?_
          refine G_getRs fLA_24 dLA_chooseBest_44 hL.1 hL.2.2.2.1 ?_
          refine G_callV (As := [.ref (la + 3)]) (rest := []) gLA_chooseBest_CN_leastErrorIn lLA_81.1 lLA_81.2.1 lLA_81.2.2.1 lLA_81.2.2.2 dLA_chooseBest_47 rfl (Nat.le_of_ble_eq_true rfl) hci.2.1 ⟨by decide, by decide⟩ (pCN_leastErrorIn (S := csP S cs (4 * nb) (k + 1) i) hci.2.1 hci.2.2.1 hci.2.2.2.1 hB hS (by omega) (hK i κ (by omega) hcs ((nI_eq (by have := hci.2.2.2.1.2.2.2; omega) (by omega)).mp h2))) ?_
          rintro _ g1 _ _ ⟨rfl, rfl, rfl, hS1, hO1⟩
          refine G_st (st' := []) rfl ?_
          refine G_iinc (ls' := [.ref la, .int (nI (k + 1)), .int (nI (i + 1))]) dLA_chooseBest_50 rfl (nI_inc i) (by decide) rfl ?_
          refine G_goto dLA_chooseBest_53 ?_
          exact ih (i + 1) (by omega) g1 (by unfold csP; rw [hcs]; simp only [if_pos ((nI_eq (by have := hci.2.2.2.1.2.2.2; omega) (by omega)).mp h2)]; exact hS1) (hO.tr hO1)
theorem cb_str {E : gE} {T : gT} {g0 : gI} {gr : gR} {la nb : Nat} {cs : Nat → Option K5} {cx : Nat → Nat} {S : S2} {Q : gQ} (hL : LaOk T gr la) (hC0 : CsIs T g0 gr la cs cx) (hnb : nb ≤ 6) (hK : ∀ k i κ, k < 3 → i < 16 → cs i = some κ → κ.2.2.2.2 = k + 1 → lerK (csP (sfP S cs (4 * nb) k) cs (4 * nb) (k + 1) i).1 κ (4 * nb)) (kx : ∀ (gi : gI) (v2 : Value), BdIs gi (la + 3) (sfP S cs (4 * nb) 3).1 (sfP S cs (4 * nb) 3).2 (4 * nb) → BdOff g0 gi (la + 3) → G E mLA_chooseBest 62 [.ref la, .int (nI 4), v2] [] T gi gr 0 0 Q) : ∀ (n k : Nat), k + n = 3 → ∀ (gi : gI) (v2 : Value), BdIs gi (la + 3) (sfP S cs (4 * nb) k).1 (sfP S cs (4 * nb) k).2 (4 * nb) → BdOff g0 gi (la + 3) → G E mLA_chooseBest 2 [.ref la, .int (nI (k + 1)), v2] [] T gi gr 0 0 Q := by
  intro n
  induction n with
  | zero =>
    intro k hk gi v2 hS hO
    have hk : k = 3 := by omega
    subst hk
    refine G_iload_n dLA_chooseBest_2 rfl ?_
    refine G_iconst (v := 3) dLA_chooseBest_3 (by decide) ?_
    refine G_icmp_gt dLA_chooseBest_4 (fun h1 => kx gi v2 hS hO) (fun h1 => ?_)
    exact absurd (nI_lt (a := 3) (b := 4) (by omega) (by decide)) h1
  | succ n ih =>
    intro k hk gi v2 hS hO
    refine G_iload_n dLA_chooseBest_2 rfl ?_
    refine G_iconst (v := 3) dLA_chooseBest_3 (by decide) ?_
    refine G_icmp_gt dLA_chooseBest_4 (fun h1 => ?_) (fun h1 => ?_)
    · exact absurd h1 (nI_nlt (a := 3) (b := k + 1) (by omega) (by decide))
    · refine G_iconst (v := nI 0) dLA_chooseBest_7 (by decide +kernel) ?_
      refine G_istore_n (ls' := [.ref la, .int (nI (k + 1)), .int (nI 0)]) dLA_chooseBest_8 (by decide) rfl ?_
      refine cb_con (S := sfP S cs (4 * nb) k) hL hC0 hnb (by omega) (fun i κ hi h2 h3 => hK k i κ (by omega) hi h2 h3) (fun g1 hS1 hO1 => ?_) 16 0 rfl gi hS hO
      refine G_iinc (ls' := [.ref la, .int (nI (k + 1 + 1)), .int (nI 16)]) dLA_chooseBest_56 rfl (nI_inc _) (by decide) rfl ?_
      refine G_goto dLA_chooseBest_59 ?_
      exact ih (k + 1) (by omega) g1 _ hS1 hO1
def LaOff (gi gi' : gI) (la : Nat) : Prop := ∀ a, a ≠ la + 1 → ¬ (la + 3 ≤ a ∧ a < la + 29) → gi' a = gi a
theorem LaOff.tr {g1 g2 g3 : gI} {la : Nat} (h : LaOff g1 g2 la) (h' : LaOff g2 g3 la) : LaOff g1 g3 la := fun a h1 h2 => (h' a h1 h2).trans (h a h1 h2)
theorem BdOff.lo {g1 g2 : gI} {la : Nat} (h : BdOff g1 g2 (la + 3)) : LaOff g1 g2 la := fun a _ h2 => h a (by omega)
theorem edL_put {S : S2} {pl : Nat → Int32} {ec e : Nat} {gi : gI} {la : Nat} (h : PlIs gi la (edL S pl ec e)) : PlIs (gu gi (la + 1) e (edD (edP S pl ec e) pl e)) la (edL S pl ec (e + 1)) := by
  intro j hj
  by_cases c : j = e
  · subst c
    rw [gu_same]
    unfold edL
    rw [if_pos (Nat.lt_succ_self _)]
  · rw [gu_ne (Or.inr c), h j hj]
    unfold edL
    by_cases c2 : j < e
    · rw [if_pos c2, if_pos (by omega)]
    · rw [if_neg c2, if_neg (by omega)]
theorem cb_edge {E : gE} {T : gT} {g0 : gI} {gr : gR} {la nb : Nat} {w h : Int32} {pl : Nat → Int32} {S : S2} {Q : gQ} (hL : LaOk T gr la) (hI : LaIs g0 la nb w h) (hnb : nb ≤ 6) (hK : ∀ e, e < 4 * nb → fixK (edP S pl (4 * nb) e) e 0 (edD (edP S pl (4 * nb) e) pl e) (4 * nb)) (kx : ∀ gi : gI, BdIs gi (la + 3) (edP S pl (4 * nb) (4 * nb)).1 (edP S pl (4 * nb) (4 * nb)).2 (4 * nb) → PlIs gi la (edL S pl (4 * nb) (4 * nb)) → LaOff g0 gi la → Q T gi gr none) : ∀ (n e : Nat), e + n = 4 * nb → ∀ (gi : gI) (v2 : Value), BdIs gi (la + 3) (edP S pl (4 * nb) e).1 (edP S pl (4 * nb) e).2 (4 * nb) → PlIs gi la (edL S pl (4 * nb) e) → LaOff g0 gi la → G E mLA_chooseBest 64 [.ref la, .int (nI e), v2] [] T gi gr 0 0 Q := by
  have hB : BdOk T gr (la + 3) := hL.2.2.2.2.2.2.2.2
  intro n
  induction n with
  | zero =>
    intro e he gi v2 hS hP hO
    have hec : gi la 1 = nI (4 * nb) := by rw [hO la (by omega) (by omega)]; exact hI.1
    have he : e = 4 * nb := by omega
    subst he
    refine G_iload_n dLA_chooseBest_64 rfl ?_
    refine G_aload_n dLA_chooseBest_65 rfl ?_
    refine G_getI fLA_35 dLA_chooseBest_66 hL.1 ?_
    rw [hec]
    refine G_icmp_ge dLA_chooseBest_69 (fun h1 => ?_) (fun h1 => ?_)
    · exact G_return dLA_chooseBest_99 rfl (by decide) (by decide) (kx gi hS hP hO)
    · exact absurd (nI_le (by omega) (by omega)) h1
  | succ n ih =>
    intro e hen gi v2 hS hP hO
    have hec : gi la 1 = nI (4 * nb) := by rw [hO la (by omega) (by omega)]; exact hI.1
    have hpe : gi (la + 1) e = pl e := by rw [hP e (by omega)]; unfold edL; rw [if_neg (Nat.lt_irrefl _)]
    refine G_iload_n dLA_chooseBest_64 rfl ?_
    refine G_aload_n dLA_chooseBest_65 rfl ?_
    refine G_getI fLA_35 dLA_chooseBest_66 hL.1 ?_
    rw [hec]
    refine G_icmp_ge dLA_chooseBest_69 (fun h1 => ?_) (fun h1 => ?_)
    · exact absurd h1 (nI_ge (by omega) (by omega))
    · refine G_aload_n dLA_chooseBest_72 rfl ?_
      refine G_getRs fLA_9 dLA_chooseBest_73 hL.1 hL.2.1 ?_
      refine G_iload_n dLA_chooseBest_76 rfl ?_
      refine G_aload_n dLA_chooseBest_77 rfl ?_
      refine G_getRs fLA_24 dLA_chooseBest_78 hL.1 hL.2.2.2.1 ?_
      refine G_iload_n dLA_chooseBest_81 rfl ?_
      refine G_iconst (v := nI 0) dLA_chooseBest_82 (by decide +kernel) ?_
      refine G_aload_n dLA_chooseBest_83 rfl ?_
      refine G_getRs fLA_9 dLA_chooseBest_84 hL.1 hL.2.1 ?_
      refine G_iload_n dLA_chooseBest_87 rfl ?_
      refine G_ialdN dLA_chooseBest_88 hL.2.2.2.2.1 hL.2.2.2.2.2.1 (by decide) (by omega) ?_
      rw [hpe]
      refine G_callV (As := [.int (nI e), .int (nI 0), .int (pl e)]) (rest := [.int (nI e), .ref (la + 1)]) gLA_chooseBest_BD_fixNear lLA_59.1 lLA_59.2.1 lLA_59.2.2.1 lLA_59.2.2.2 dLA_chooseBest_89 rfl (Nat.le_of_ble_eq_true rfl) hB.1 ⟨by decide, by decide⟩ (pBD_fixNear (S := edP S pl (4 * nb) e) (p := e) (q := 0) hB hS (by omega) (by decide) (by omega) (hK e (by omega))) ?_
      rintro _ g1 _ _ ⟨rfl, rfl, rfl, hS1, hO1⟩
      refine G_st (st' := [.int (edD (edP S pl (4 * nb) e) pl e), .int (nI e), .ref (la + 1)]) rfl ?_
      refine G_iastN dLA_chooseBest_92 hL.2.2.2.2.1 hL.2.2.2.2.2.1 (by decide) (by omega) ?_
      refine G_iinc (ls' := [.ref la, .int (nI (e + 1)), v2]) dLA_chooseBest_93 rfl (nI_inc e) (by decide) rfl ?_
      refine G_goto dLA_chooseBest_96 ?_
      have hO2 : LaOff g0 (gu g1 (la + 1) e (edD (edP S pl (4 * nb) e) pl e)) la := hO.tr (hO1.lo.tr (fun a h1 h2 => gu_off h1))
      refine ih (e + 1) (by omega) _ _ ⟨by rw [gu_off (by omega)]; exact hS1.1, by rw [gu_off (by omega)]; exact hS1.2.1, fun i j hi hj => by rw [gu_off (by omega)]; exact hS1.2.2 i j hi hj⟩ (edL_put (fun j hj => by rw [hO1 (la + 1) (by omega)]; exact hP j hj)) hO2
theorem cLA_chooseBest {E : gE} {T : gT} {gi : gI} {gr : gR} {la nb : Nat} {w h : Int32} {pl : Nat → Int32} {S : S2} {cs : Nat → Option K5} {cx : Nat → Nat} (hL : LaOk T gr la) (hI : LaIs gi la nb w h) (hC : CsIs T gi gr la cs cx) (hS : BdIs gi (la + 3) S.1 S.2 (4 * nb)) (hP : PlIs gi la pl) (hnb : nb ≤ 6) (hK : cbK S pl nb cs) : Ct E mLA_chooseBest [.ref la] T gi gr (fun T' gi' gr' v => T' = T ∧ gr' = gr ∧ v = none ∧ (∃ S' : S2, BdIs gi' (la + 3) S'.1 S'.2 (4 * nb)) ∧ PlIs gi' la (edL (sfP S cs (4 * nb) 3) pl (4 * nb) (4 * nb)) ∧ LaOff gi gi' la) := by
  refine Ct_of (ls := [.ref la, .long 0, .long 0]) (by decide) (gcat_cons rfl gcat_nil) (Nat.le_of_ble_eq_true rfl) rfl ?_
  refine G_iconst (v := nI 1) dLA_chooseBest_0 (by decide +kernel) ?_
  refine G_istore_n (ls' := [.ref la, .int (nI 1), .long 0]) dLA_chooseBest_1 (by decide) rfl ?_
  refine cb_str hL hC hnb hK.1 (fun g1 v2 hS1 hO1 => ?_) 3 0 rfl gi _ hS BdOff.rf
  refine G_iconst (v := nI 0) dLA_chooseBest_62 (by decide +kernel) ?_
  refine G_istore_n (ls' := [.ref la, .int (nI 0), v2]) dLA_chooseBest_63 (by decide) rfl ?_
  exact cb_edge hL hI hnb hK.2 (fun g2 hS2 hP2 hO2 => ⟨rfl, rfl, rfl, ⟨_, hS2⟩, hP2, hO2⟩) (4 * nb) 0 (Nat.zero_add _) g1 v2 hS1 (fun j hj => by rw [hO1 (la + 1) (by omega), hP j hj]; unfold edL; rw [if_neg (Nat.not_lt_zero _)]) hO1.lo
end
section
def slL (R : Nat → Nat → Int32) (w h : Int32) (nb : Nat) (cs : Nat → Option K5) (pl : Nat → Int32) : Nat → Int32 := edL (sfP (daP R w h nb cs) cs (4 * nb) 3) pl (4 * nb) (4 * nb)
def slK (w h : Int32) (nb : Nat) (cs : Nat → Option K5) (pl : Nat → Int32) : Prop := ∀ R, daK R w h nb cs ∧ ((daP R w h nb cs).2 = 0 → cbK (daP R w h nb cs) pl nb cs)
def nrS (R : Nat → Nat → Int32) (w h : Int32) (nb : Nat) (cs : Nat → Option K5) (e : Nat) (x : Int32) : S2 := fixP (daP R w h nb cs) e 0 (nearI x (-((daP R w h nb cs).1 e 0)) ((daP R w h nb cs).1 0 e)) (4 * nb)
def nrL (R : Nat → Nat → Int32) (w h : Int32) (nb : Nat) (cs : Nat → Option K5) (pl : Nat → Int32) (e : Nat) (x : Int32) : Nat → Int32 := edL (sfP (nrS R w h nb cs e x) cs (4 * nb) 3) pl (4 * nb) (4 * nb)
def nrK (w h : Int32) (nb : Nat) (cs : Nat → Option K5) (pl : Nat → Int32) (e : Nat) (x : Int32) : Prop := ∀ R, daK R w h nb cs ∧ fixK (daP R w h nb cs) e 0 (nearI x (-((daP R w h nb cs).1 e 0)) ((daP R w h nb cs).1 0 e)) (4 * nb) ∧ cbK (nrS R w h nb cs e x) pl nb cs
def BdAny (gi : gI) (la : Nat) : Prop := ∃ (S : S2) (ec : Nat), BdIs gi (la + 3) S.1 S.2 ec
theorem PlIs.off {gi gi' : gI} {la : Nat} {pl : Nat → Int32} (h : PlIs gi la pl) (hO : BdOff gi gi' (la + 3)) : PlIs gi' la pl := fun j hj => by rw [hO (la + 1) (by omega)]; exact h j hj
theorem LaOff.rf {gi : gI} {la : Nat} : LaOff gi gi la := fun _ _ _ => rfl
theorem LaIs.lo {gi gi' : gI} {la nb : Nat} {w h : Int32} (hL : LaIs gi la nb w h) (hO : LaOff gi gi' la) : LaIs gi' la nb w h := by
  unfold LaIs
  rw [hO la (by omega) (by omega)]
  exact hL
theorem CsIs.lo {T : gT} {gi gi' : gI} {gr : gR} {la : Nat} {cs : Nat → Option K5} {cx : Nat → Nat} (hC : CsIs T gi gr la cs cx) (hO : LaOff gi gi' la) : CsIs T gi' gr la cs cx := hC.off (fun a ha => hO a (by omega) (by omega))
theorem LaOk.gr {T : gT} {gr gr' : gR} {la : Nat} (hL : LaOk T gr la) (h : ∀ a, a ≠ la + 2 → gr' a = gr a) : LaOk T gr' la := by
  obtain ⟨h1, h2, h3, h4, h5, h6, h7, h8, b1, b2, b3, b4, b5⟩ := hL
  refine ⟨h1, by rw [h la (by omega)]; exact h2, by rw [h la (by omega)]; exact h3, by rw [h la (by omega)]; exact h4, h5, h6, h7, h8, b1, b2, b3, by rw [h (la + 3) (by omega)]; exact b4, fun i hi => ?_⟩
  rw [h (la + 3 + 1) (by omega)]
  exact b5 i hi
theorem gu_nn {α : Type} {f : Nat → Nat → α} {a k : Nat} {x : α} (h : f a k = x) : gu f a k x = f := by
  funext q j
  unfold gu
  split
  · rename_i e
    rw [e.1, e.2, h]
  · rfl
theorem gu_uu {α : Type} {f : Nat → Nat → α} {a k : Nat} {x y : α} : gu (gu f a k x) a k y = gu f a k y := by
  funext q j
  unfold gu
  split <;> rfl
theorem cLA_solve {E : gE} {T : gT} {gi : gI} {gr : gR} {la nb : Nat} {w h : Int32} {pl : Nat → Int32} {cs : Nat → Option K5} {cx : Nat → Nat} (hL : LaOk T gr la) (hI : LaIs gi la nb w h) (hP : PlIs gi la pl) (hC : CsIs T gi gr la cs cx) (hS : BdAny gi la) (hnb : nb ≤ 6) (hK : slK w h nb cs pl) : Ct E mLA_solve [.ref la] T gi gr (fun T' gi' gr' v => T' = T ∧ gr' = gr ∧ BdAny gi' la ∧ LaOff gi gi' la ∧ ∃ R, ((daP R w h nb cs).2 = 0 ∧ v = some (.int 1) ∧ PlIs gi' la (slL R w h nb cs pl) ∨ ¬ (daP R w h nb cs).2 = 0 ∧ v = some (.int 0) ∧ PlIs gi' la pl)) := by
  have hB : BdOk T gr (la + 3) := hL.2.2.2.2.2.2.2.2
  obtain ⟨⟨R, cf⟩, ec0, hS⟩ := hS
  refine Ct_of (ls := [.ref la]) (by decide) (gcat_cons rfl gcat_nil) (Nat.le_of_ble_eq_true rfl) rfl ?_
  refine G_aload_n dLA_solve_0 rfl ?_
  refine G_callV (As := []) (rest := []) gLA_solve_LA_demandAll lLA_49.1 lLA_49.2.1 lLA_49.2.2.1 lLA_49.2.2.2 dLA_solve_1 rfl (Nat.le_of_ble_eq_true rfl) hL.1 ⟨by decide, by decide⟩ (cLA_demandAll hL hI hC hS hnb (hK R).1) ?_
  rintro _ g1 _ _ ⟨rfl, rfl, rfl, hS1, hO1⟩
  refine G_st (st' := []) rfl ?_
  refine G_aload_n dLA_solve_4 rfl ?_
  refine G_getRs fLA_24 dLA_solve_5 hL.1 hL.2.2.2.1 ?_
  refine G_getI fLA_52 dLA_solve_8 hB.1 ?_
  rw [hS1.2.1]
  refine G_if_eq dLA_solve_11 (fun h1 => ?_) (fun h1 => ?_)
  · refine G_aload_n dLA_solve_16 rfl ?_
    refine G_callV (As := []) (rest := []) gLA_solve_LA_chooseBest lLA_56.1 lLA_56.2.1 lLA_56.2.2.1 lLA_56.2.2.2 dLA_solve_17 rfl (Nat.le_of_ble_eq_true rfl) hL.1 ⟨by decide, by decide⟩ (cLA_chooseBest (S := daP R w h nb cs) hL (hI.off hO1) (hC.off hO1.la) hS1 (hP.off hO1) hnb ((hK R).2 h1)) ?_
    rintro _ g2 _ _ ⟨rfl, rfl, rfl, hS2, hP2, hO2⟩
    refine G_st (st' := []) rfl ?_
    refine G_iconst (v := 1) dLA_solve_20 (by decide) ?_
    obtain ⟨S2, hS2⟩ := hS2
    exact G_ireturn dLA_solve_21 rfl (nr_z (by decide)) (by decide) (by decide) ⟨rfl, rfl, ⟨S2, _, hS2⟩, hO1.lo.tr hO2, R, Or.inl ⟨h1, rfl, hP2⟩⟩
  · refine G_iconst (v := 0) dLA_solve_14 (by decide) ?_
    exact G_ireturn dLA_solve_15 rfl (nr_z (by decide)) (by decide) (by decide) ⟨rfl, rfl, ⟨_, _, hS1⟩, hO1.lo, R, Or.inr ⟨h1, rfl, hP.off hO1⟩⟩
theorem cLA_solveNear {E : gE} {T : gT} {gi : gI} {gr : gR} {la nb : Nat} {w h : Int32} {pl : Nat → Int32} {cs : Nat → Option K5} {cx : Nat → Nat} {e : Nat} {x : Int32} (hL : LaOk T gr la) (hI : LaIs gi la nb w h) (hP : PlIs gi la pl) (hC : CsIs T gi gr la cs cx) (hS : BdAny gi la) (hnb : nb ≤ 6) (he : e < 24) (hK : nrK w h nb cs pl e x) : Ct E mLA_solveNear [.ref la, .int (nI e), .int x] T gi gr (fun T' gi' gr' v => T' = T ∧ gr' = gr ∧ v = none ∧ BdAny gi' la ∧ LaOff gi gi' la ∧ ∃ R, PlIs gi' la (nrL R w h nb cs pl e x)) := by
  have hB : BdOk T gr (la + 3) := hL.2.2.2.2.2.2.2.2
  obtain ⟨⟨R, cf⟩, ec0, hS⟩ := hS
  refine Ct_of (ls := [.ref la, .int (nI e), .int x]) (by decide) (gcat_cons rfl (gcat_cons rfl (gcat_cons rfl gcat_nil))) (Nat.le_of_ble_eq_true rfl) rfl ?_
  refine G_aload_n dLA_solveNear_0 rfl ?_
  refine G_callV (As := []) (rest := []) gLA_solveNear_LA_demandAll lLA_49.1 lLA_49.2.1 lLA_49.2.2.1 lLA_49.2.2.2 dLA_solveNear_1 rfl (Nat.le_of_ble_eq_true rfl) hL.1 ⟨by decide, by decide⟩ (cLA_demandAll hL hI hC hS hnb (hK R).1) ?_
  rintro _ g1 _ _ ⟨rfl, rfl, rfl, hS1, hO1⟩
  refine G_st (st' := []) rfl ?_
  refine G_aload_n dLA_solveNear_4 rfl ?_
  refine G_getRs fLA_24 dLA_solveNear_5 hL.1 hL.2.2.2.1 ?_
  refine G_iload_n dLA_solveNear_8 rfl ?_
  refine G_iconst (v := nI 0) dLA_solveNear_9 (by decide +kernel) ?_
  refine G_iload_n dLA_solveNear_10 rfl ?_
  refine G_callV (As := [.int (nI e), .int (nI 0), .int x]) (rest := []) gLA_solveNear_BD_fixNear lLA_59.1 lLA_59.2.1 lLA_59.2.2.1 lLA_59.2.2.2 dLA_solveNear_11 rfl (Nat.le_of_ble_eq_true rfl) hB.1 ⟨by decide, by decide⟩ (pBD_fixNear (S := daP R w h nb cs) (p := e) (q := 0) hB hS1 (by omega) (by decide) (by omega) (hK R).2.1) ?_
  rintro _ g2 _ _ ⟨rfl, rfl, rfl, hS2, hO2⟩
  refine G_st (st' := [.int (nearI x (-((daP R w h nb cs).1 e 0)) ((daP R w h nb cs).1 0 e))]) rfl ?_
  refine G_pop dLA_solveNear_14 rfl ?_
  refine G_aload_n dLA_solveNear_15 rfl ?_
  refine G_callV (As := []) (rest := []) gLA_solveNear_LA_chooseBest lLA_56.1 lLA_56.2.1 lLA_56.2.2.1 lLA_56.2.2.2 dLA_solveNear_16 rfl (Nat.le_of_ble_eq_true rfl) hL.1 ⟨by decide, by decide⟩ (cLA_chooseBest (S := nrS R w h nb cs e x) hL (hI.off (hO1.tr hO2)) (hC.off (hO1.tr hO2).la) hS2 (hP.off (hO1.tr hO2)) hnb (hK R).2.2) ?_
  rintro _ g3 _ _ ⟨rfl, rfl, rfl, hS3, hP3, hO3⟩
  refine G_st (st' := []) rfl ?_
  obtain ⟨S3, hS3⟩ := hS3
  exact G_return dLA_solveNear_19 rfl (by decide) (by decide) ⟨rfl, rfl, rfl, ⟨S3, _, hS3⟩, (hO1.tr hO2).lo.tr hO3, R, hP3⟩
theorem cLA_constraintAt {E : gE} {T : gT} {gi : gI} {gr : gR} {la : Nat} {x : Int32} (hL : LaOk T gr la) : Ct E mLA_constraintAt [.ref la, .int x] T gi gr (fun T' gi' gr' v => T' = T ∧ gi' = gi ∧ gr' = gr ∧ ∃ r, v = some (va_rf r) ∧ ((∃ j, j < 16 ∧ x = nI j ∧ r = gr (la + 2) j) ∨ (x < 0 ∨ 16 ≤ x) ∧ r = none)) := by
  refine Ct_of (ls := [.ref la, .int x]) (by decide) (gcat_cons rfl (gcat_cons rfl gcat_nil)) (Nat.le_of_ble_eq_true rfl) rfl ?_
  refine G_iload_n dLA_constraintAt_0 rfl ?_
  refine G_if_lt dLA_constraintAt_1 (fun h1 => ?_) (fun h1 => ?_)
  · refine G_null dLA_constraintAt_19 ?_
    exact G_areturn (r := none) dLA_constraintAt_20 rfl rfl (by decide) (by decide) ⟨rfl, rfl, rfl, none, rfl, Or.inr ⟨Or.inl h1, rfl⟩⟩
  · refine G_iload_n dLA_constraintAt_4 rfl ?_
    refine G_bipush (v := 16) dLA_constraintAt_5 (by decide) ?_
    refine G_icmp_ge dLA_constraintAt_7 (fun h2 => ?_) (fun h2 => ?_)
    · refine G_null dLA_constraintAt_19 ?_
      exact G_areturn (r := none) dLA_constraintAt_20 rfl rfl (by decide) (by decide) ⟨rfl, rfl, rfl, none, rfl, Or.inr ⟨Or.inr h2, rfl⟩⟩
    · obtain ⟨j, hj, rfl, -⟩ := pk_mu (L := 16) h1 h2 (by decide)
      refine G_aload_n dLA_constraintAt_10 rfl ?_
      refine G_getRs fLA_17 dLA_constraintAt_11 hL.1 hL.2.2.1 ?_
      refine G_iload_n dLA_constraintAt_14 rfl ?_
      refine G_aaldN 3 dLA_constraintAt_15 (by decide) hL.2.2.2.2.2.2.1 hL.2.2.2.2.2.2.2.1 (by decide) hj ?_
      refine G_goto dLA_constraintAt_16 ?_
      exact G_areturn dLA_constraintAt_20 rfl rfl (by decide) (by decide) ⟨rfl, rfl, rfl, _, rfl, Or.inl ⟨j, hj, rfl, rfl⟩⟩
theorem fn_loop {E : gE} {T : gT} {gi : gI} {gr : gR} {la : Nat} {Q : gQ} (hL : LaOk T gr la) (kx : ∀ v, ((∃ i, i < 16 ∧ gr (la + 2) i = none ∧ (∀ j, j < i → gr (la + 2) j ≠ none) ∧ v = some (.int (nI i))) ∨ (∀ j, j < 16 → gr (la + 2) j ≠ none) ∧ v = some (.int (-1))) → Q T gi gr v) : ∀ (n i : Nat), i + n = 16 → (∀ j, j < i → gr (la + 2) j ≠ none) → G E mLA_freeNumber 2 [.ref la, .int (nI i)] [] T gi gr 0 0 Q := by
  intro n
  induction n with
  | zero =>
    intro i hi hn
    have hi : i = 16 := by omega
    subst hi
    refine G_iload_n dLA_freeNumber_2 rfl ?_
    refine G_bipush (v := 16) dLA_freeNumber_3 (by decide) ?_
    refine G_icmp_ge dLA_freeNumber_5 (fun h1 => ?_) (fun h1 => ?_)
    · refine G_iconst (v := -1) dLA_freeNumber_25 (by decide) ?_
      exact G_ireturn dLA_freeNumber_26 rfl rfl (by decide) (by decide) (kx _ (Or.inr ⟨hn, rfl⟩))
    · exact absurd (nI_le (a := 16) (b := 16) (by omega) (by decide)) h1
  | succ n ih =>
    intro i hin hn
    refine G_iload_n dLA_freeNumber_2 rfl ?_
    refine G_bipush (v := 16) dLA_freeNumber_3 (by decide) ?_
    refine G_icmp_ge dLA_freeNumber_5 (fun h1 => ?_) (fun h1 => ?_)
    · exact absurd h1 (nI_ge (a := i) (b := 16) (by omega) (by decide))
    · refine G_aload_n dLA_freeNumber_8 rfl ?_
      refine G_getRs fLA_17 dLA_freeNumber_9 hL.1 hL.2.2.1 ?_
      refine G_iload_n dLA_freeNumber_12 rfl ?_
      refine G_aaldN 3 dLA_freeNumber_13 (by decide) hL.2.2.2.2.2.2.1 hL.2.2.2.2.2.2.2.1 (by decide) (by omega) ?_
      refine G_ifnonnullq dLA_freeNumber_14 (fun h2 => ?_) (fun q h2 => ?_)
      · refine G_iload_n dLA_freeNumber_17 rfl ?_
        exact G_ireturn dLA_freeNumber_18 rfl rfl (by decide) (by decide) (kx _ (Or.inl ⟨i, by omega, h2, hn, rfl⟩))
      · refine G_iinc (ls' := [.ref la, .int (nI (i + 1))]) dLA_freeNumber_19 rfl (nI_inc i) (by decide) rfl ?_
        refine G_goto dLA_freeNumber_22 ?_
        refine ih (i + 1) (by omega) (fun j hj => ?_)
        by_cases e : j = i
        · rw [e, h2]; exact fun z => by cases z
        · exact hn j (by omega)
theorem cLA_freeNumber {E : gE} {T : gT} {gi : gI} {gr : gR} {la : Nat} (hL : LaOk T gr la) : Ct E mLA_freeNumber [.ref la] T gi gr (fun T' gi' gr' v => T' = T ∧ gi' = gi ∧ gr' = gr ∧ ((∃ i, i < 16 ∧ gr (la + 2) i = none ∧ (∀ j, j < i → gr (la + 2) j ≠ none) ∧ v = some (.int (nI i))) ∨ (∀ j, j < 16 → gr (la + 2) j ≠ none) ∧ v = some (.int (-1)))) := by
  refine Ct_of (ls := [.ref la, .long 0]) (by decide) (gcat_cons rfl gcat_nil) (Nat.le_of_ble_eq_true rfl) rfl ?_
  refine G_iconst (v := nI 0) dLA_freeNumber_0 (by decide +kernel) ?_
  refine G_istore_n (ls' := [.ref la, .int (nI 0)]) dLA_freeNumber_1 (by decide) rfl ?_
  exact fn_loop hL (fun v hv => ⟨rfl, rfl, rfl, hv⟩) 16 0 rfl (fun j hj => absurd hj (Nat.not_lt_zero _))
theorem CsIs.put {T : gT} {gi : gI} {gr : gR} {la i ck : Nat} {κ : K5} {cs : Nat → Option K5} {cx : Nat → Nat} (hC : CsIs T gi gr la cs cx) (ht : T.1 ck = 7) (hk : CnIs gi ck κ) (ho : CnOk κ) (hn : ¬ (la ≤ ck ∧ ck < la + 29)) : CsIs T gi (gu gr (la + 2) i (some ck)) la (gup cs i (some κ)) (gup cx i ck) := by
  intro j hj
  by_cases e : j = i
  · subst e
    refine ⟨fun z => (by rw [gup_same] at z; cases z), fun κ' z => ?_⟩
    rw [gup_same] at z
    cases z
    rw [gup_same, gu_same]
    exact ⟨rfl, ht, hk, ho, hn⟩
  · rw [gup_ne e, gup_ne e, gu_ne (Or.inr e)]
    exact hC j hj
theorem CsIs.clr {T : gT} {gi : gI} {gr : gR} {la i : Nat} {cs : Nat → Option K5} {cx : Nat → Nat} (hC : CsIs T gi gr la cs cx) : CsIs T gi (gu gr (la + 2) i none) la (gup cs i none) cx := by
  intro j hj
  by_cases e : j = i
  · subst e
    refine ⟨fun z => gu_same, fun κ' z => ?_⟩
    rw [gup_same] at z
    cases z
  · rw [gup_ne e, gu_ne (Or.inr e)]
    exact hC j hj
theorem cLA_add {E : gE} {T : gT} {gi : gI} {gr : gR} {la nb : Nat} {w h : Int32} {pl : Nat → Int32} {cs : Nat → Option K5} {cx : Nat → Nat} {i ck : Nat} {κ : K5} (hL : LaOk T gr la) (hI : LaIs gi la nb w h) (hP : PlIs gi la pl) (hC : CsIs T gi gr la cs cx) (hS : BdAny gi la) (hnb : nb ≤ 6) (hi : i < 16) (hn : cs i = none) (ht : T.1 ck = 7) (hk : CnIs gi ck κ) (ho : CnOk κ) (hout : ¬ (la ≤ ck ∧ ck < la + 29)) (hK : slK w h nb (gup cs i (some κ)) pl) : Ct E mLA_add [.ref la, .int (nI i), .ref ck] T gi gr (fun T' gi' gr' v => T' = T ∧ BdAny gi' la ∧ LaOff gi gi' la ∧ ∃ R, ((daP R w h nb (gup cs i (some κ))).2 = 0 ∧ v = some (.int 1) ∧ gr' = gu gr (la + 2) i (some ck) ∧ PlIs gi' la (slL R w h nb (gup cs i (some κ)) pl) ∨ ¬ (daP R w h nb (gup cs i (some κ))).2 = 0 ∧ v = some (.int 0) ∧ gr' = gr ∧ PlIs gi' la pl)) := by
  have hL' : LaOk T (gu gr (la + 2) i (some ck)) la := hL.gr (fun a ha => gu_off ha)
  have hgn : gr (la + 2) i = none := (hC i hi).1 hn
  refine Ct_of (ls := [.ref la, .int (nI i), .ref ck, .long 0]) (by decide) (gcat_cons rfl (gcat_cons rfl (gcat_cons rfl gcat_nil))) (Nat.le_of_ble_eq_true rfl) rfl ?_
  refine G_aload_n dLA_add_0 rfl ?_
  refine G_getRs fLA_17 dLA_add_1 hL.1 hL.2.2.1 ?_
  refine G_iload_n dLA_add_4 rfl ?_
  refine G_aload_n dLA_add_5 rfl ?_
  refine G_aastsN 3 (C := "DamageView$Constraint") (Tb := TbCN) (N := 5) (ci := 6) dLA_add_6 (by decide) hL.2.2.2.2.2.2.1 hL.2.2.2.2.2.2.2.1 (by decide) hi ht rfl rfl ?_
  refine G_aload_n dLA_add_7 rfl ?_
  refine G_callV (As := []) (rest := []) gLA_add_LA_solve lLA_45.1 lLA_45.2.1 lLA_45.2.2.1 lLA_45.2.2.2 dLA_add_8 rfl (Nat.le_of_ble_eq_true rfl) hL.1 ⟨by decide, by decide⟩ (cLA_solve hL' hI hP (hC.put ht hk ho hout) hS hnb hK) ?_
  rintro _ g1 _ v ⟨rfl, rfl, hS1, hO1, R, ⟨hc, rfl, hP1⟩ | ⟨hc, rfl, hP1⟩⟩
  · refine G_st (st' := [.int 1]) rfl ?_
    refine G_istore_n (ls' := [.ref la, .int (nI i), .ref ck, .int 1]) dLA_add_11 (by decide) rfl ?_
    refine G_iload_n dLA_add_12 rfl ?_
    refine G_if_ne dLA_add_13 (fun h1 => ?_) (fun h1 => absurd h1 (by decide))
    refine G_iload_n dLA_add_23 rfl ?_
    exact G_ireturn dLA_add_24 rfl (nr_z (by decide)) (by decide) (by decide) ⟨rfl, hS1, hO1, R, Or.inl ⟨hc, rfl, rfl, hP1⟩⟩
  · refine G_st (st' := [.int 0]) rfl ?_
    refine G_istore_n (ls' := [.ref la, .int (nI i), .ref ck, .int 0]) dLA_add_11 (by decide) rfl ?_
    refine G_iload_n dLA_add_12 rfl ?_
    refine G_if_ne dLA_add_13 (fun h1 => absurd rfl h1) (fun h1 => ?_)
    refine G_aload_n dLA_add_16 rfl ?_
    refine G_getRs fLA_17 dLA_add_17 hL'.1 hL'.2.2.1 ?_
    refine G_iload_n dLA_add_20 rfl ?_
    refine G_null dLA_add_21 ?_
    refine G_aastNN 3 (C := "DamageView$Constraint") dLA_add_22 (by decide) hL'.2.2.2.2.2.2.1 hL'.2.2.2.2.2.2.2.1 (by decide) hi rfl ?_
    rw [gu_uu, gu_nn hgn]
    refine G_iload_n dLA_add_23 rfl ?_
    exact G_ireturn dLA_add_24 rfl (nr_z (by decide)) (by decide) (by decide) ⟨rfl, hS1, hO1, R, Or.inr ⟨hc, rfl, rfl, hP1⟩⟩
theorem cLA_takeAway {E : gE} {T : gT} {gi : gI} {gr : gR} {la nb : Nat} {w h : Int32} {pl : Nat → Int32} {cs : Nat → Option K5} {cx : Nat → Nat} {i : Nat} (hL : LaOk T gr la) (hI : LaIs gi la nb w h) (hP : PlIs gi la pl) (hC : CsIs T gi gr la cs cx) (hS : BdAny gi la) (hnb : nb ≤ 6) (hi : i < 16) (hK : slK w h nb (gup cs i none) pl) : Ct E mLA_takeAway [.ref la, .int (nI i)] T gi gr (fun T' gi' gr' v => T' = T ∧ gr' = gu gr (la + 2) i none ∧ v = none ∧ BdAny gi' la ∧ LaOff gi gi' la ∧ ∃ R, ((daP R w h nb (gup cs i none)).2 = 0 ∧ PlIs gi' la (slL R w h nb (gup cs i none) pl) ∨ ¬ (daP R w h nb (gup cs i none)).2 = 0 ∧ PlIs gi' la pl)) := by
  have hL' : LaOk T (gu gr (la + 2) i none) la := hL.gr (fun a ha => gu_off ha)
  refine Ct_of (ls := [.ref la, .int (nI i)]) (by decide) (gcat_cons rfl (gcat_cons rfl gcat_nil)) (Nat.le_of_ble_eq_true rfl) rfl ?_
  refine G_aload_n dLA_takeAway_0 rfl ?_
  refine G_getRs fLA_17 dLA_takeAway_1 hL.1 hL.2.2.1 ?_
  refine G_iload_n dLA_takeAway_4 rfl ?_
  refine G_null dLA_takeAway_5 ?_
  refine G_aastNN 3 (C := "DamageView$Constraint") dLA_takeAway_6 (by decide) hL.2.2.2.2.2.2.1 hL.2.2.2.2.2.2.2.1 (by decide) hi rfl ?_
  refine G_aload_n dLA_takeAway_7 rfl ?_
  refine G_callV (As := []) (rest := []) gLA_takeAway_LA_solve lLA_45.1 lLA_45.2.1 lLA_45.2.2.1 lLA_45.2.2.2 dLA_takeAway_8 rfl (Nat.le_of_ble_eq_true rfl) hL.1 ⟨by decide, by decide⟩ (cLA_solve hL' hI hP hC.clr hS hnb hK) ?_
  rintro _ g1 _ v ⟨rfl, rfl, hS1, hO1, R, ⟨hc, rfl, hP1⟩ | ⟨hc, rfl, hP1⟩⟩
  · refine G_st (st' := [.int 1]) rfl ?_
    refine G_pop dLA_takeAway_11 rfl ?_
    exact G_return dLA_takeAway_12 rfl (by decide) (by decide) ⟨rfl, rfl, rfl, hS1, hO1, R, Or.inl ⟨hc, hP1⟩⟩
  · refine G_st (st' := [.int 0]) rfl ?_
    refine G_pop dLA_takeAway_11 rfl ?_
    exact G_return dLA_takeAway_12 rfl (by decide) (by decide) ⟨rfl, rfl, rfl, hS1, hO1, R, Or.inr ⟨hc, hP1⟩⟩
theorem cLA_setSize {E : gE} {T : gT} {gi : gI} {gr : gR} {la nb : Nat} {w h : Int32} {pl : Nat → Int32} {cs : Nat → Option K5} {cx : Nat → Nat} {w2 h2 : Int32} (hL : LaOk T gr la) (hI : LaIs gi la nb w h) (hP : PlIs gi la pl) (hC : CsIs T gi gr la cs cx) (hS : BdAny gi la) (hnb : nb ≤ 6) (hK : slK w2 h2 nb cs pl) : Ct E mLA_setSize [.ref la, .int w2, .int h2] T gi gr (fun T' gi' gr' v => T' = T ∧ gr' = gr ∧ BdAny gi' la ∧ (∀ a, a ≠ la → a ≠ la + 1 → ¬ (la + 3 ≤ a ∧ a < la + 29) → gi' a = gi a) ∧ ∃ R, ((daP R w2 h2 nb cs).2 = 0 ∧ v = some (.int 1) ∧ LaIs gi' la nb w2 h2 ∧ PlIs gi' la (slL R w2 h2 nb cs pl) ∨ ¬ (daP R w2 h2 nb cs).2 = 0 ∧ v = some (.int 0) ∧ LaIs gi' la nb w h ∧ PlIs gi' la pl)) := by
  refine Ct_of (ls := [.ref la, .int w2, .int h2, .long 0, .long 0, .long 0]) (by decide) (gcat_cons rfl (gcat_cons rfl (gcat_cons rfl gcat_nil))) (Nat.le_of_ble_eq_true rfl) rfl ?_
  refine G_aload_n dLA_setSize_0 rfl ?_
  refine G_getI fLA_28 dLA_setSize_1 hL.1 ?_
  rw [hI.2.1]
  refine G_istore_n (ls' := [.ref la, .int w2, .int h2, .int w, .long 0, .long 0]) dLA_setSize_4 (by decide) rfl ?_
  refine G_aload_n dLA_setSize_5 rfl ?_
  refine G_getI fLA_32 dLA_setSize_6 hL.1 ?_
  rw [hI.2.2]
  refine G_istore (ls' := [.ref la, .int w2, .int h2, .int w, .int h, .long 0]) dLA_setSize_9 (by decide) rfl ?_
  refine G_aload_n dLA_setSize_11 rfl ?_
  refine G_iload_n dLA_setSize_12 rfl ?_
  refine G_putI wLA_28 (Or.inl rfl) dLA_setSize_13 hL.1 rfl rfl ?_
  refine G_aload_n dLA_setSize_16 rfl ?_
  refine G_iload_n dLA_setSize_17 rfl ?_
  refine G_putI wLA_32 (Or.inl rfl) dLA_setSize_18 hL.1 rfl rfl ?_
  generalize hg : gu (gu gi la 4 w2) la 5 h2 = g0
  have hoff : ∀ a, a ≠ la → g0 a = gi a := fun a ha => by rw [← hg, gu_off ha, gu_off ha]
  have hI0 : LaIs g0 la nb w2 h2 := ⟨by rw [← hg, gu_ne (Or.inr (by decide)), gu_ne (Or.inr (by decide))]; exact hI.1, by rw [← hg, gu_ne (Or.inr (by decide)), gu_same], by rw [← hg, gu_same]⟩
  have hP0 : PlIs g0 la pl := fun j hj => by rw [hoff _ (by omega)]; exact hP j hj
  have hC0 : CsIs T g0 gr la cs cx := hC.off (fun a ha => hoff a (by omega))
  have hS0 : BdAny g0 la := by
    obtain ⟨S, ec, s1, s2, s3⟩ := hS
    exact ⟨S, ec, by rw [hoff _ (by omega)]; exact s1, by rw [hoff _ (by omega)]; exact s2, fun i j hi hj => by rw [hoff _ (by omega)]; exact s3 i j hi hj⟩
  refine G_aload_n dLA_setSize_21 rfl ?_
  refine G_callV (As := []) (rest := []) gLA_setSize_LA_solve lLA_45.1 lLA_45.2.1 lLA_45.2.2.1 lLA_45.2.2.2 dLA_setSize_22 rfl (Nat.le_of_ble_eq_true rfl) hL.1 ⟨by decide, by decide⟩ (cLA_solve hL hI0 hP0 hC0 hS0 hnb hK) ?_
  rintro _ g1 _ v ⟨rfl, rfl, hS1, hO1, R, ⟨hc, rfl, hP1⟩ | ⟨hc, rfl, hP1⟩⟩
  · refine G_st (st' := [.int 1]) rfl ?_
    refine G_istore (ls' := [.ref la, .int w2, .int h2, .int w, .int h, .int 1]) dLA_setSize_25 (by decide) rfl ?_
    refine G_iload dLA_setSize_27 rfl ?_
    refine G_if_ne dLA_setSize_29 (fun h1 => ?_) (fun h1 => absurd h1 (by decide))
    refine G_iload dLA_setSize_43 rfl ?_
    exact G_ireturn dLA_setSize_45 rfl (nr_z (by decide)) (by decide) (by decide) ⟨rfl, rfl, hS1, fun a h1 h2 h3 => (hO1 a h2 h3).trans (hoff a h1), R, Or.inl ⟨hc, rfl, hI0.lo hO1, hP1⟩⟩
  · refine G_st (st' := [.int 0]) rfl ?_
    refine G_istore (ls' := [.ref la, .int w2, .int h2, .int w, .int h, .int 0]) dLA_setSize_25 (by decide) rfl ?_
    refine G_iload dLA_setSize_27 rfl ?_
    refine G_if_ne dLA_setSize_29 (fun h1 => absurd rfl h1) (fun h1 => ?_)
    refine G_aload_n dLA_setSize_32 rfl ?_
    refine G_iload_n dLA_setSize_33 rfl ?_
    refine G_putI wLA_28 (Or.inl rfl) dLA_setSize_34 hL.1 rfl rfl ?_
    refine G_aload_n dLA_setSize_37 rfl ?_
    refine G_iload dLA_setSize_38 rfl ?_
    refine G_putI wLA_32 (Or.inl rfl) dLA_setSize_40 hL.1 rfl rfl ?_
    refine G_iload dLA_setSize_43 rfl ?_
    have hoff2 : ∀ a, a ≠ la → gu (gu g1 la 4 w) la 5 h a = g1 a := fun a ha => by rw [gu_off ha, gu_off ha]
    refine G_ireturn dLA_setSize_45 rfl (nr_z (by decide)) (by decide) (by decide) ⟨rfl, rfl, ?_, fun a h1 h2 h3 => by rw [hoff2 a h1]; exact (hO1 a h2 h3).trans (hoff a h1), R, Or.inr ⟨hc, rfl, ⟨?_, ?_, gu_same⟩, fun j hj => by rw [hoff2 _ (by omega)]; exact hP1 j hj⟩⟩
    · obtain ⟨S, ec, s1, s2, s3⟩ := hS1
      exact ⟨S, ec, by rw [hoff2 _ (by omega)]; exact s1, by rw [hoff2 _ (by omega)]; exact s2, fun i j hi hj => by rw [hoff2 _ (by omega)]; exact s3 i j hi hj⟩
    · rw [gu_ne (Or.inr (by decide)), gu_ne (Or.inr (by decide))]; exact (hI0.lo hO1).1
    · rw [gu_ne (Or.inr (by decide)), gu_same]
end
section
def BxOk (T : gT) (gr : gR) (b : Nat) : Prop := T.1 b = 5 ∧ gr b 3 = some (b + 1) ∧ gr b 4 = some (b + 2) ∧ T.1 (b + 1) = 6 ∧ T.1 (b + 2) = 6
abbrev chA (kd : Int32) (q : A4) : Prop := ¬ kd = 0 ∧ ¬ arE q
def fa4 (pl : Nat → Int32) (f : Nat) : A4 := (pl f, pl (f + 1), pl (f + 2), pl (f + 3))
def Off2 (gi gi' : gI) (b : Nat) : Prop := ∀ a, a ≠ b + 1 → a ≠ b + 2 → gi' a = gi a
theorem nI_x4 (n : Nat) : nI n * 4 = nI (n * 4) := pk_mul n 4
theorem gNa_tag {T : gT} {a tag len q v : Nat} (h : T.1 q = v) (hne : q ≠ a) : (gNa T a tag len).1 q = v := (gup_ne hne).trans h
theorem gNa_new {T : gT} {a tag len : Nat} : (gNa T a tag len).1 a = tag := gup_same
theorem gNMa_tag {T : gT} {a N K q v : Nat} (h : T.1 q = v) (hne : q < a) : (gNMa T a N K).1 q = v := by
  show (if q = a then 104 else if a < q ∧ q ≤ a + N then 100 else T.1 q) = v
  rw [if_neg (by omega), if_neg (by omega)]
  exact h
theorem cBX_canHaveAttention {E : gE} {T : gT} {gi : gI} {gr : gR} {b : Nat} {kd : Int32} {q : A4} (hb : BxOk T gr b) (hk : gi b 1 = kd) (hA : ArIs gi (b + 1) q) : Ct E mBX_canHaveAttention [.ref b] T gi gr (fun T' gi' gr' v => T' = T ∧ gi' = gi ∧ gr' = gr ∧ v = some (.int (if chA kd q then 1 else 0))) := by
  refine Ct_of (ls := [.ref b]) (by decide) (gcat_cons rfl gcat_nil) (Nat.le_of_ble_eq_true rfl) rfl ?_
  refine G_aload_n dBX_canHaveAttention_0 rfl ?_
  refine G_getI fBX_25 dBX_canHaveAttention_1 hb.1 ?_
  rw [hk]
  refine G_if_eq dBX_canHaveAttention_4 (fun h1 => ?_) (fun h1 => ?_)
  · refine G_iconst (v := 0) dBX_canHaveAttention_21 (by decide) ?_
    exact G_ireturn dBX_canHaveAttention_22 rfl (nr_z (by decide)) (by decide) (by decide) ⟨rfl, rfl, rfl, by rw [if_neg (fun z => z.1 h1)]⟩
  · refine G_aload_n dBX_canHaveAttention_7 rfl ?_
    refine G_getRs fBX_12 dBX_canHaveAttention_8 hb.1 hb.2.1 ?_
    refine G_callV (As := []) (rest := []) gBX_canHaveAttention_AR_isEmpty lBX_35.1 lBX_35.2.1 lBX_35.2.2.1 lBX_35.2.2.2 dBX_canHaveAttention_11 rfl (Nat.le_of_ble_eq_true rfl) hb.2.2.2.1 ⟨by decide, by decide⟩ (cAR_isEmpty hb.2.2.2.1 hA) ?_
    rintro _ _ _ _ ⟨rfl, rfl, rfl, rfl⟩
    refine G_st (st' := [.int (if arE q then 1 else 0)]) rfl ?_
    refine G_if_ne dBX_canHaveAttention_14 (fun h2 => ?_) (fun h2 => ?_)
    · refine G_iconst (v := 0) dBX_canHaveAttention_21 (by decide) ?_
      exact G_ireturn dBX_canHaveAttention_22 rfl (nr_z (by decide)) (by decide) (by decide) ⟨rfl, rfl, rfl, by rw [if_neg (fun z => h2 (if01.mpr z.2))]⟩
    · refine G_iconst (v := 1) dBX_canHaveAttention_17 (by decide) ?_
      refine G_goto dBX_canHaveAttention_18 ?_
      exact G_ireturn dBX_canHaveAttention_22 rfl (nr_z (by decide)) (by decide) (by decide) ⟨rfl, rfl, rfl, by rw [if_pos ⟨h1, if01.mp h2⟩]⟩
theorem cBX_findArea0 {E : gE} {T : gT} {gi : gI} {gr : gR} {b n pl : Nat} {hid : Bool} {q : A4} (hb : BxOk T gr b) (hA : ArIs gi (b + 1) q) (hn : gi b 0 = nI n) (hn6 : n < 6) (hh : gi b 7 = bI hid) (hp : T.1 pl = 100 ∧ T.2.1 pl = 24) (hpl : pl ≠ b + 1 ∧ pl ≠ b + 2) (hpr : gr b 2 = none) : Ct E mBX_findArea [.ref b, .ref pl] T gi gr (fun T' gi' gr' v => T' = T ∧ gr' = gr ∧ v = none ∧ ArIs gi' (b + 2) q ∧ ArIs gi' (b + 1) (if hid = true then A0 else fa4 (gi pl) (n * 4)) ∧ Off2 gi gi' b) := by
  refine Ct_of (ls := [.ref b, .ref pl]) (by decide) (gcat_cons rfl (gcat_cons rfl gcat_nil)) (Nat.le_of_ble_eq_true rfl) rfl ?_
  refine G_aload_n dBX_findArea_0 rfl ?_
  refine G_getRs fBX_18 dBX_findArea_1 hb.1 hb.2.2.1 ?_
  refine G_aload_n dBX_findArea_4 rfl ?_
  refine G_getRs fBX_12 dBX_findArea_5 hb.1 hb.2.1 ?_
  refine G_callV (As := [.ref (b + 1)]) (rest := []) gBX_findArea_AR_copyFrom lBX_39.1 lBX_39.2.1 lBX_39.2.2.1 lBX_39.2.2.2 dBX_findArea_8 rfl (Nat.le_of_ble_eq_true rfl) hb.2.2.2.2 ⟨by decide, by decide⟩ (cAR_copyFrom hb.2.2.2.2 hb.2.2.2.1 (by omega) hA) ?_
  rintro _ g1 _ _ ⟨rfl, rfl, rfl, hA1, hO1⟩
  refine G_st (st' := []) rfl ?_
  refine G_aload_n dBX_findArea_11 rfl ?_
  refine G_getI fBX_43 dBX_findArea_12 hb.1 ?_
  rw [show g1 b 7 = bI hid by rw [hO1 b (by omega)]; exact hh]
  refine G_if_eq dBX_findArea_15 (fun h1 => ?_) (fun h1 => ?_)
  · refine G_aload_n dBX_findArea_26 rfl ?_
    refine G_getRs fBX_12 dBX_findArea_27 hb.1 hb.2.1 ?_
    refine G_aload_n dBX_findArea_30 rfl ?_
    refine G_aload_n dBX_findArea_31 rfl ?_
    refine G_getI fBX_21 dBX_findArea_32 hb.1 ?_
    rw [show g1 b 0 = nI n by rw [hO1 b (by omega)]; exact hn]
    refine G_iconst (v := 4) dBX_findArea_35 (by decide) ?_
    refine G_imul dBX_findArea_36 ?_
    rw [nI_x4]
    refine G_callV (As := [.ref pl, .int (nI (n * 4))]) (rest := []) gBX_findArea_AR_takeEdges lBX_50.1 lBX_50.2.1 lBX_50.2.2.1 lBX_50.2.2.2 dBX_findArea_37 rfl (Nat.le_of_ble_eq_true rfl) hb.2.2.2.1 ⟨by decide, by decide⟩ (cAR_takeEdges (f := n * 4) hb.2.2.2.1 (by omega) ⟨hp.1, hp.2, by omega⟩) ?_
    rintro _ g2 _ _ ⟨rfl, rfl, rfl, hA2, hO2⟩
    refine G_st (st' := []) rfl ?_
    refine G_aload_n dBX_findArea_40 rfl ?_
    refine G_getR fBX_28 dBX_findArea_41 hb.1 ?_
    rw [hpr]
    refine G_st (st' := [.null]) rfl ?_
    refine G_ifnullN dBX_findArea_44 ?_
    refine G_return dBX_findArea_61 rfl (by decide) (by decide) ⟨rfl, rfl, rfl, hA1.off hO2 (by omega), ?_, fun a h1 h2 => (hO2 a h1).trans (hO1 a h2)⟩
    rw [if_neg (by rw [bI_0.mp h1]; decide)]
    have e : gi pl = g1 pl := (hO1 pl (by omega)).symm
    unfold fa4
    rw [e]
    exact hA2
  · refine G_aload_n dBX_findArea_18 rfl ?_
    refine G_getRs fBX_12 dBX_findArea_19 hb.1 hb.2.1 ?_
    refine G_callV (As := []) (rest := []) gBX_findArea_AR_makeEmpty lBX_47.1 lBX_47.2.1 lBX_47.2.2.1 lBX_47.2.2.2 dBX_findArea_22 rfl (Nat.le_of_ble_eq_true rfl) hb.2.2.2.1 ⟨by decide, by decide⟩ (cAR_makeEmpty hb.2.2.2.1) ?_
    rintro _ g2 _ _ ⟨rfl, rfl, rfl, hA2, hO2⟩
    refine G_st (st' := []) rfl ?_
    exact G_return dBX_findArea_25 rfl (by decide) (by decide) ⟨rfl, rfl, rfl, hA1.off hO2 (by omega), by rw [if_pos (by cases hid with | true => rfl | false => exact absurd rfl h1)]; exact hA2, fun a h1 h2 => (hO2 a h1).trans (hO1 a h2)⟩
theorem cBX_findArea1 {E : gE} {T : gT} {gi : gI} {gr : gR} {b n pl pb : Nat} {hid : Bool} {q r : A4} (hb : BxOk T gr b) (hA : ArIs gi (b + 1) q) (hn : gi b 0 = nI n) (hn6 : n < 6) (hh : gi b 7 = bI hid) (hp : T.1 pl = 100 ∧ T.2.1 pl = 24) (hpl : pl ≠ b + 1 ∧ pl ≠ b + 2) (hpr : gr b 2 = some pb) (hpb : BxOk T gr pb) (hR : ArIs gi (pb + 1) r) (hne : pb ≠ b ∧ pb ≠ b + 1) : Ct E mBX_findArea [.ref b, .ref pl] T gi gr (fun T' gi' gr' v => T' = T ∧ gr' = gr ∧ v = none ∧ ArIs gi' (b + 2) q ∧ ArIs gi' (b + 1) (if hid = true then A0 else arC (fa4 (gi pl) (n * 4)) r) ∧ Off2 gi gi' b) := by
  refine Ct_of (ls := [.ref b, .ref pl]) (by decide) (gcat_cons rfl (gcat_cons rfl gcat_nil)) (Nat.le_of_ble_eq_true rfl) rfl ?_
  refine G_aload_n dBX_findArea_0 rfl ?_
  refine G_getRs fBX_18 dBX_findArea_1 hb.1 hb.2.2.1 ?_
  refine G_aload_n dBX_findArea_4 rfl ?_
  refine G_getRs fBX_12 dBX_findArea_5 hb.1 hb.2.1 ?_
  refine G_callV (As := [.ref (b + 1)]) (rest := []) gBX_findArea_AR_copyFrom lBX_39.1 lBX_39.2.1 lBX_39.2.2.1 lBX_39.2.2.2 dBX_findArea_8 rfl (Nat.le_of_ble_eq_true rfl) hb.2.2.2.2 ⟨by decide, by decide⟩ (cAR_copyFrom hb.2.2.2.2 hb.2.2.2.1 (by omega) hA) ?_
  rintro _ g1 _ _ ⟨rfl, rfl, rfl, hA1, hO1⟩
  refine G_st (st' := []) rfl ?_
  refine G_aload_n dBX_findArea_11 rfl ?_
  refine G_getI fBX_43 dBX_findArea_12 hb.1 ?_
  rw [show g1 b 7 = bI hid by rw [hO1 b (by omega)]; exact hh]
  refine G_if_eq dBX_findArea_15 (fun h1 => ?_) (fun h1 => ?_)
  · refine G_aload_n dBX_findArea_26 rfl ?_
    refine G_getRs fBX_12 dBX_findArea_27 hb.1 hb.2.1 ?_
    refine G_aload_n dBX_findArea_30 rfl ?_
    refine G_aload_n dBX_findArea_31 rfl ?_
    refine G_getI fBX_21 dBX_findArea_32 hb.1 ?_
    rw [show g1 b 0 = nI n by rw [hO1 b (by omega)]; exact hn]
    refine G_iconst (v := 4) dBX_findArea_35 (by decide) ?_
    refine G_imul dBX_findArea_36 ?_
    rw [nI_x4]
    refine G_callV (As := [.ref pl, .int (nI (n * 4))]) (rest := []) gBX_findArea_AR_takeEdges lBX_50.1 lBX_50.2.1 lBX_50.2.2.1 lBX_50.2.2.2 dBX_findArea_37 rfl (Nat.le_of_ble_eq_true rfl) hb.2.2.2.1 ⟨by decide, by decide⟩ (cAR_takeEdges (f := n * 4) hb.2.2.2.1 (by omega) ⟨hp.1, hp.2, by omega⟩) ?_
    rintro _ g2 _ _ ⟨rfl, rfl, rfl, hA2, hO2⟩
    refine G_st (st' := []) rfl ?_
    refine G_aload_n dBX_findArea_40 rfl ?_
    refine G_getRs fBX_28 dBX_findArea_41 hb.1 hpr ?_
    refine G_ifnull dBX_findArea_44 ?_
    refine G_aload_n dBX_findArea_47 rfl ?_
    refine G_getRs fBX_12 dBX_findArea_48 hb.1 hb.2.1 ?_
    refine G_aload_n dBX_findArea_51 rfl ?_
    refine G_getRs fBX_28 dBX_findArea_52 hb.1 hpr ?_
    refine G_getRs fBX_12 dBX_findArea_55 hpb.1 hpb.2.1 ?_
    refine G_callV (As := [.ref (pb + 1)]) (rest := []) gBX_findArea_AR_cutTo lBX_54.1 lBX_54.2.1 lBX_54.2.2.1 lBX_54.2.2.2 dBX_findArea_58 rfl (Nat.le_of_ble_eq_true rfl) hb.2.2.2.1 ⟨by decide, by decide⟩ (cAR_cutTo hb.2.2.2.1 hpb.2.2.2.1 (by omega) hA2 ((hR.off hO1 (by omega)).off hO2 (by omega))) ?_
    rintro _ g3 _ _ ⟨rfl, rfl, rfl, hA3, hO3⟩
    refine G_st (st' := []) rfl ?_
    refine G_return dBX_findArea_61 rfl (by decide) (by decide) ⟨rfl, rfl, rfl, (hA1.off hO2 (by omega)).off hO3 (by omega), ?_, fun a h1 h2 => (hO3 a h1).trans ((hO2 a h1).trans (hO1 a h2))⟩
    rw [if_neg (by rw [bI_0.mp h1]; decide)]
    have e : gi pl = g1 pl := (hO1 pl (by omega)).symm
    unfold fa4
    rw [e]
    exact hA3
  · refine G_aload_n dBX_findArea_18 rfl ?_
    refine G_getRs fBX_12 dBX_findArea_19 hb.1 hb.2.1 ?_
    refine G_callV (As := []) (rest := []) gBX_findArea_AR_makeEmpty lBX_47.1 lBX_47.2.1 lBX_47.2.2.1 lBX_47.2.2.2 dBX_findArea_22 rfl (Nat.le_of_ble_eq_true rfl) hb.2.2.2.1 ⟨by decide, by decide⟩ (cAR_makeEmpty hb.2.2.2.1) ?_
    rintro _ g2 _ _ ⟨rfl, rfl, rfl, hA2, hO2⟩
    refine G_st (st' := []) rfl ?_
    exact G_return dBX_findArea_25 rfl (by decide) (by decide) ⟨rfl, rfl, rfl, hA1.off hO2 (by omega), by rw [if_pos (by cases hid with | true => rfl | false => exact absurd rfl h1)]; exact hA2, fun a h1 h2 => (hO2 a h1).trans (hO1 a h2)⟩
theorem cCN_init {E : gE} {T : gT} {gi : gI} {gr : gR} {ck : Nat} {p q c f t : Int32} (ht : T.1 ck = 7) : Ct E mCN_init [.ref ck, .int p, .int q, .int c, .int f, .int t] T gi gr (fun T' gi' gr' v => T' = T ∧ gr' = gr ∧ v = none ∧ gi' ck 0 = t ∧ gi' ck 1 = p ∧ gi' ck 2 = q ∧ gi' ck 3 = c ∧ gi' ck 4 = f ∧ Off1 gi gi' ck) := by
  refine Ct_of (ls := [.ref ck, .int p, .int q, .int c, .int f, .int t]) (by decide) (gcat_cons rfl (gcat_cons rfl (gcat_cons rfl (gcat_cons rfl (gcat_cons rfl (gcat_cons rfl gcat_nil)))))) (Nat.le_of_ble_eq_true rfl) rfl ?_
  refine G_aload_n dCN_init_0 rfl ?_
  refine G_objInit oCN_3.1 oCN_3.2.1 oCN_3.2.2 dCN_init_1 (by decide) (Nat.le_of_ble_eq_true rfl) ?_
  refine G_aload_n dCN_init_4 rfl ?_
  refine G_iload_n dCN_init_5 rfl ?_
  refine G_putI wCN_9 (Or.inr rfl) dCN_init_6 ht rfl rfl ?_
  refine G_aload_n dCN_init_9 rfl ?_
  refine G_iload_n dCN_init_10 rfl ?_
  refine G_putI wCN_15 (Or.inr rfl) dCN_init_11 ht rfl rfl ?_
  refine G_aload_n dCN_init_14 rfl ?_
  refine G_iload_n dCN_init_15 rfl ?_
  refine G_putI wCN_18 (Or.inr rfl) dCN_init_16 ht rfl rfl ?_
  refine G_aload_n dCN_init_19 rfl ?_
  refine G_iload dCN_init_20 rfl ?_
  refine G_putI wCN_21 (Or.inr rfl) dCN_init_22 ht rfl rfl ?_
  refine G_aload_n dCN_init_25 rfl ?_
  refine G_iload dCN_init_26 rfl ?_
  refine G_putI wCN_24 (Or.inr rfl) dCN_init_28 ht rfl rfl ?_
  exact G_return dCN_init_31 rfl (by decide) (by decide) ⟨rfl, rfl, rfl, by simp [gu], by simp [gu], by simp [gu], by simp [gu], by simp [gu], fun q hq => by rw [gu_off hq, gu_off hq, gu_off hq, gu_off hq, gu_off hq]⟩
theorem cSC_init {E : gE} {T : gT} {gi : gI} {gr : gR} {sc : Nat} (ht : T.1 sc = 2) (hsz : T.2.2 = sc + 1) : Ct E mSC_init [.ref sc] T gi gr (fun T' gi' gr' v => v = none ∧ ScOk T' gr' sc ∧ T'.2.2 = sc + 3 ∧ DmIs gi' sc (fun _ => false) ∧ FrIs gi' sc (fun _ => 0) ∧ FrB T T' gi gi' gr gr' sc) := by
  refine Ct_of (ls := [.ref sc]) (by decide) (gcat_cons rfl gcat_nil) (Nat.le_of_ble_eq_true rfl) rfl ?_
  refine G_aload_n dSC_init_0 rfl ?_
  refine G_objInit oSC_3.1 oSC_3.2.1 oSC_3.2.2 dSC_init_1 (by decide) (Nat.le_of_ble_eq_true rfl) ?_
  refine G_aload_n dSC_init_4 rfl ?_
  refine G_sipush (v := 384) dSC_init_5 (by decide) ?_
  refine G_newaA 0 (a := sc + 1) (len := 384) dSC_init_8 hsz (by decide) rfl aI (by decide) (by decide) (by decide) (by decide) (by decide) ?_
  refine G_putR (r := some (sc + 1)) rfl wSC_9 (Or.inr rfl) dSC_init_10 (gNa_tag ht (by omega)) (nr_a _) (ft_a _) ?_
  refine G_aload_n dSC_init_13 rfl ?_
  refine G_sipush (v := 384) dSC_init_14 (by decide) ?_
  refine G_newaA 1 (a := sc + 2) (len := 384) dSC_init_17 rfl (by decide) rfl aZ (by decide) (by decide) (by decide) (by decide) (by decide) ?_
  refine G_putR (r := some (sc + 2)) rfl wSC_15 (Or.inr rfl) dSC_init_19 (gNa_tag (gNa_tag ht (by omega)) (by omega)) (nr_a _) (ft_a _) ?_
  refine G_return dSC_init_22 rfl (by decide) (by decide) ⟨rfl, ⟨(gNa_tag (gNa_tag ht (by omega)) (by omega)), by simp [gu, gup], by simp [gu, gup], by simp [gNa, gup], by simp [gNa, gup], by simp [gNa, gup], by simp [gNa, gup]⟩, rfl, fun j hj => by simp [gup, bI], fun j hj => by simp [gup], fun a ha => ?_⟩
  have h1 : a ≠ sc := by omega
  have h2 : a ≠ sc + 1 := by omega
  have h3 : a ≠ sc + 2 := by omega
  exact ⟨by simp [gNa, gup, h2, h3], by simp [gNa, gup, h2, h3], by simp [gup, h2, h3], by rw [gu_off h1, gup_ne h3, gu_off h1, gup_ne h2]⟩
theorem cBD_init {E : gE} {T : gT} {gi : gI} {gr : gR} {bd : Nat} (ht : T.1 bd = 4) (hsz : T.2.2 = bd + 1) (hz : gi bd = fun _ => 0) : Ct E mBD_init [.ref bd] T gi gr (fun T' gi' gr' v => v = none ∧ BdOk T' gr' bd ∧ T'.2.2 = bd + 26 ∧ BdIs gi' bd (fun _ _ => 0) (gi' bd 2) 0 ∧ FrB T T' gi gi' gr gr' bd) := by
  refine Ct_of (ls := [.ref bd]) (by decide) (gcat_cons rfl gcat_nil) (Nat.le_of_ble_eq_true rfl) rfl ?_
  refine G_aload_n dBD_init_0 rfl ?_
  refine G_objInit oBD_3.1 oBD_3.2.1 oBD_3.2.2 dBD_init_1 (by decide) (Nat.le_of_ble_eq_true rfl) ?_
  refine G_aload_n dBD_init_4 rfl ?_
  refine G_bipush (v := 24) dBD_init_5 (by decide) ?_
  refine G_bipush (v := 24) dBD_init_7 (by decide) ?_
  refine G_mnaA (a := bd + 1) (N := 24) (K := 24) dBD_init_9 hsz mnBD_9 aI (by decide) (by decide) (by decide) (by decide) (by decide) (by decide) (by decide) (by decide) ?_
  refine G_putR (r := some (bd + 1)) rfl wBD_11 (Or.inr rfl) dBD_init_13 (gNMa_tag ht (by omega)) (nr_a _) (ft_a _) ?_
  refine G_return dBD_init_16 rfl (by decide) (by decide) ⟨rfl, ⟨(gNMa_tag ht (by omega)), by simp [gNMa], by simp [gNMa], by simp [gu], fun i hi => ?_⟩, rfl, ⟨?_, rfl, fun i j hi hj => ?_⟩, fun a ha => ?_⟩
  · have h1 : bd + 2 + i ≠ bd + 1 := by omega
    have h2 : bd + 1 < bd + 2 + i ∧ bd + 2 + i ≤ bd + 1 + 24 := by omega
    refine ⟨?_, ?_, ?_⟩
    · rw [gu_off (by omega)]
      show gNMra gr (bd + 1) 24 (bd + 1) i = _
      unfold gNMra
      rw [if_pos rfl, if_pos hi]
    · show (if bd + 2 + i = bd + 1 then 104 else if bd + 1 < bd + 2 + i ∧ bd + 2 + i ≤ bd + 1 + 24 then 100 else T.1 (bd + 2 + i)) = 100
      rw [if_neg h1, if_pos h2]
    · show (if bd + 2 + i = bd + 1 then 24 else if bd + 1 < bd + 2 + i ∧ bd + 2 + i ≤ bd + 1 + 24 then 24 else T.2.1 (bd + 2 + i)) = 24
      rw [if_neg h1, if_pos h2]
  · show gNMia gi (bd + 1) 24 bd 1 = _
    unfold gNMia
    rw [if_neg (by omega), hz]
    decide +kernel
  · show gNMia gi (bd + 1) 24 (bd + 2 + i) j = (fun _ _ => (0 : Int32)) i j
    unfold gNMia
    rw [if_pos (by omega)]
  · have h1 : a ≠ bd + 1 := by omega
    have h2 : ¬ (bd + 1 < a ∧ a ≤ bd + 1 + 24) := by omega
    refine ⟨?_, ?_, ?_, ?_⟩
    · show (if a = bd + 1 then 104 else if bd + 1 < a ∧ a ≤ bd + 1 + 24 then 100 else T.1 a) = _
      rw [if_neg h1, if_neg h2]
    · show (if a = bd + 1 then 24 else if bd + 1 < a ∧ a ≤ bd + 1 + 24 then 24 else T.2.1 a) = _
      rw [if_neg h1, if_neg h2]
    · show gNMia gi (bd + 1) 24 a = _
      unfold gNMia
      rw [if_neg (by omega)]
    · rw [gu_off (by omega)]
      show gNMra gr (bd + 1) 24 a = _
      unfold gNMra
      rw [if_neg h1, if_neg h2]
end
section
abbrev BS : Type := Int32 × Int32 × Int32 × Bool × Bool × A4 × A4
def BxIs (gi : gI) (b : Nat) (β : BS) : Prop := gi b 1 = β.1 ∧ gi b 5 = β.2.1 ∧ gi b 6 = β.2.2.1 ∧ gi b 7 = bI β.2.2.2.1 ∧ gi b 8 = bI β.2.2.2.2.1 ∧ ArIs gi (b + 1) β.2.2.2.2.2.1 ∧ ArIs gi (b + 2) β.2.2.2.2.2.2
theorem cBX_init {E : gE} {T : gT} {gi : gI} {gr : gR} {b : Nat} {x kd : Int32} {pr : Option Nat} (ht : T.1 b = 5) (hsz : T.2.2 = b + 1) (hz : gi b = fun _ => 0) : Ct E mBX_init [.ref b, .int x, .int kd, va_rf (pr)] T gi gr (fun T' gi' gr' v => v = none ∧ BxOk T' gr' b ∧ T'.2.2 = b + 3 ∧ gr' b 2 = pr ∧ gi' b 0 = x ∧ BxIs gi' b (kd, 1 + x, 0, false, false, A0, A0) ∧ FrB T T' gi gi' gr gr' b) := by
  refine Ct_of (ls := [.ref b, .int x, .int kd, va_rf (pr)]) (by decide) (gcat_cons rfl (gcat_cons rfl (gcat_cons rfl (gcat_cons (va_rf_cat _) gcat_nil)))) (Nat.le_of_ble_eq_true rfl) rfl ?_
  refine G_aload_n dBX_init_0 rfl ?_
  refine G_objInit oBX_3.1 oBX_3.2.1 oBX_3.2.2 dBX_init_1 (by decide) (Nat.le_of_ble_eq_true rfl) ?_
  refine G_aload_n dBX_init_4 rfl ?_
  refine G_newA (a := b + 1) nwBX_9 dBX_init_5 hsz (by decide) (by decide) ?_
  refine G_dup dBX_init_8 rfl ?_
  refine G_callIN (As := []) (rest := [.ref (b + 1), .ref b]) gBX_init_AR_init lBX_11.1 lBX_11.2 rfl rfl dBX_init_9 rfl (Nat.le_of_ble_eq_true rfl) ⟨by decide, by decide⟩ cAR_init ?_
  rintro _ _ _ _ ⟨rfl, rfl, rfl, rfl⟩
  refine G_st (st' := [.ref (b + 1), .ref b]) rfl ?_
  refine G_putR (r := some (b + 1)) rfl wBX_12 (Or.inr rfl) dBX_init_12 (gNa_tag ht (by omega)) (nr_o _) (ft_o _) ?_
  refine G_aload_n dBX_init_15 rfl ?_
  refine G_newA (a := b + 2) nwBX_9 dBX_init_16 rfl (by decide) (by decide) ?_
  refine G_dup dBX_init_19 rfl ?_
  refine G_callIN (As := []) (rest := [.ref (b + 2), .ref b]) gBX_init_AR_init lBX_11.1 lBX_11.2 rfl rfl dBX_init_20 rfl (Nat.le_of_ble_eq_true rfl) ⟨by decide, by decide⟩ cAR_init ?_
  rintro _ _ _ _ ⟨rfl, rfl, rfl, rfl⟩
  refine G_st (st' := [.ref (b + 2), .ref b]) rfl ?_
  refine G_putR (r := some (b + 2)) rfl wBX_18 (Or.inr rfl) dBX_init_23 (gNa_tag (gNa_tag ht (by omega)) (by omega)) (nr_o _) (ft_o _) ?_
  refine G_aload_n dBX_init_26 rfl ?_
  refine G_iload_n dBX_init_27 rfl ?_
  refine G_putI wBX_21 (Or.inr rfl) dBX_init_28 (gNa_tag (gNa_tag ht (by omega)) (by omega)) rfl rfl ?_
  refine G_aload_n dBX_init_31 rfl ?_
  refine G_iload_n dBX_init_32 rfl ?_
  refine G_putI wBX_25 (Or.inr rfl) dBX_init_33 (gNa_tag (gNa_tag ht (by omega)) (by omega)) rfl rfl ?_
  refine G_aload_n dBX_init_36 rfl ?_
  refine G_aload_nq dBX_init_37 rfl ?_
  refine G_putR (r := pr) rfl wBX_28 (Or.inr rfl) dBX_init_38 (gNa_tag (gNa_tag ht (by omega)) (by omega)) (nr_o _) (ft_o _) ?_
  refine G_aload_n dBX_init_41 rfl ?_
  refine G_iconst (v := 1) dBX_init_42 (by decide) ?_
  refine G_iload_n dBX_init_43 rfl ?_
  refine G_iadd dBX_init_44 ?_
  refine G_putI wBX_32 (Or.inr rfl) dBX_init_45 (gNa_tag (gNa_tag ht (by omega)) (by omega)) rfl rfl ?_
  refine G_return dBX_init_48 rfl (by decide) (by decide) ⟨rfl, ⟨(gNa_tag (gNa_tag ht (by omega)) (by omega)), by simp [gu, gup], by simp [gu, gup], by simp [gNa, gup], by simp [gNa, gup]⟩, rfl, by simp [gu, gup], by simp [gu, gup], ⟨?_, ?_, ?_, ?_, ?_, ⟨by simp [gu, gup, A0], by simp [gu, gup, A0], by simp [gu, gup, A0], by simp [gu, gup, A0]⟩, ⟨by simp [gu, gup, A0], by simp [gu, gup, A0], by simp [gu, gup, A0], by simp [gu, gup, A0]⟩⟩, fun a ha => ?_⟩
  · simp [gu, gup, hz]
  · simp [gu, gup, hz]
  · simp [gu, gup, hz]
  · simp [gu, gup, hz, bI]
  · simp [gu, gup, hz, bI]
  · have h1 : a ≠ b := by omega
    have h2 : a ≠ b + 1 := by omega
    have h3 : a ≠ b + 2 := by omega
    exact ⟨by simp [gNa, gup, h2, h3], by simp [gNa, gup, h2, h3], by rw [gu_off h1, gu_off h1, gu_off h1, gup_ne h3, gup_ne h2], by rw [gu_off h1, gu_off h1, gup_ne h3, gu_off h1, gup_ne h2]⟩
theorem cLA_init {E : gE} {T : gT} {gi : gI} {gr : gR} {la : Nat} {w h : Int32} {cx : Nat → Nat} (ht : T.1 la = 3) (hsz : T.2.2 = la + 1) (hz : gi la = fun _ => 0) : Ct E mLA_init [.ref la, .int w, .int h] T gi gr (fun T' gi' gr' v => v = none ∧ LaOk T' gr' la ∧ T'.2.2 = la + 29 ∧ LaIs gi' la 0 w h ∧ PlIs gi' la (fun j => if j = 1 then w else if j = 3 then h else 0) ∧ CsIs T' gi' gr' la (fun _ => none) cx ∧ BdAny gi' la ∧ FrB T T' gi gi' gr gr' la) := by
  refine Ct_of (ls := [.ref la, .int w, .int h]) (by decide) (gcat_cons rfl (gcat_cons rfl (gcat_cons rfl gcat_nil))) (Nat.le_of_ble_eq_true rfl) rfl ?_
  refine G_aload_n dLA_init_0 rfl ?_
  refine G_objInit oLA_3.1 oLA_3.2.1 oLA_3.2.2 dLA_init_1 (by decide) (Nat.le_of_ble_eq_true rfl) ?_
  refine G_aload_n dLA_init_4 rfl ?_
  refine G_bipush (v := 24) dLA_init_5 (by decide) ?_
  refine G_newaA 0 (a := la + 1) (len := 24) dLA_init_7 hsz (by decide) rfl aI (by decide) (by decide) (by decide) (by decide) (by decide) ?_
  refine G_putR (r := some (la + 1)) rfl wLA_9 (Or.inr rfl) dLA_init_9 (gNa_tag ht (by omega)) (nr_a _) (ft_a _) ?_
  refine G_aload_n dLA_init_12 rfl ?_
  refine G_bipush (v := 16) dLA_init_13 (by decide) ?_
  refine G_anewA 3 (a := la + 2) (len := 16) dLA_init_15 rfl (by decide) rfl anLA_15 (by decide) (by decide) (by decide) (by decide) (by decide) ?_
  refine G_putR (r := some (la + 2)) rfl wLA_17 (Or.inr rfl) dLA_init_18 (gNa_tag (gNa_tag ht (by omega)) (by omega)) (nr_a _) (ft_a _) ?_
  refine G_aload_n dLA_init_21 rfl ?_
  refine G_newA (a := la + 3) nwLA_21 dLA_init_22 rfl (by decide) (by decide) ?_
  refine G_dup dLA_init_25 rfl ?_
  refine G_callIN (As := []) (rest := [.ref (la + 3), .ref la]) gLA_init_BD_init lLA_23.1 lLA_23.2 rfl rfl dLA_init_26 rfl (Nat.le_of_ble_eq_true rfl) ⟨by decide, by decide⟩ (cBD_init (bd := la + 3) gNa_new rfl gup_same) ?_
  rintro T1 g1 r1 _ ⟨rfl, hB, hs1, hS, hF⟩
  refine G_st (st' := [.ref (la + 3), .ref la]) rfl ?_
  have htl : T1.1 la = 3 := (hF la (by omega)).1.trans (gNa_tag (gNa_tag (gNa_tag ht (by omega)) (by omega)) (by omega))
  have hp0 : r1 la 0 = some (la + 1) := by rw [(hF la (by omega)).2.2.2]; simp [gu, gup]
  have hc2 : r1 la 2 = some (la + 2) := by rw [(hF la (by omega)).2.2.2]; simp [gu, gup]
  have t1 : T1.1 (la + 1) = 100 ∧ T1.2.1 (la + 1) = 24 := ⟨(hF (la + 1) (by omega)).1.trans (by simp [gNa, gup]), (hF (la + 1) (by omega)).2.1.trans (by simp [gNa, gup])⟩
  have t2 : T1.1 (la + 2) = 103 ∧ T1.2.1 (la + 2) = 16 := ⟨(hF (la + 2) (by omega)).1.trans (by simp [gNa, gup]), (hF (la + 2) (by omega)).2.1.trans (by simp [gNa, gup])⟩
  have e0 : g1 la = gi la := by rw [(hF la (by omega)).2.2.1]; simp [gup]
  have e1 : g1 (la + 1) = fun _ => 0 := by rw [(hF (la + 1) (by omega)).2.2.1]; simp [gup]
  have e2 : r1 (la + 2) = fun _ => none := by funext j; rw [(hF (la + 2) (by omega)).2.2.2]; simp [gu, gup]
  have eF : ∀ a, a < la → T1.1 a = T.1 a ∧ T1.2.1 a = T.2.1 a ∧ g1 a = gi a ∧ r1 a = gr a := by
    intro a ha
    obtain ⟨f1, f2, f3, f4⟩ := hF a (by omega)
    have h0 : a ≠ la := by omega
    have h1 : a ≠ la + 1 := by omega
    have h2 : a ≠ la + 2 := by omega
    have h3 : a ≠ la + 3 := by omega
    exact ⟨f1.trans (by simp [gNa, gup, h1, h2, h3]), f2.trans (by simp [gNa, gup, h1, h2, h3]), f3.trans (by simp [gup, h1, h2, h3]), f4.trans (by rw [gup_ne h3, gu_off h0, gup_ne h2, gu_off h0, gup_ne h1])⟩
  refine G_putR (r := some (la + 3)) rfl wLA_24 (Or.inr rfl) dLA_init_29 htl (nr_o _) (ft_o _) ?_
  refine G_aload_n dLA_init_32 rfl ?_
  refine G_iload_n dLA_init_33 rfl ?_
  refine G_putI wLA_28 (Or.inr rfl) dLA_init_34 htl rfl rfl ?_
  refine G_aload_n dLA_init_37 rfl ?_
  refine G_iload_n dLA_init_38 rfl ?_
  refine G_putI wLA_32 (Or.inr rfl) dLA_init_39 htl rfl rfl ?_
  refine G_aload_n dLA_init_42 rfl ?_
  refine G_getRs fLA_9 dLA_init_43 htl (by rw [gu_ne (Or.inr (by decide))]; exact hp0) ?_
  refine G_iconst (v := nI 1) dLA_init_46 (by decide +kernel) ?_
  refine G_iload_n dLA_init_47 rfl ?_
  refine G_iastN dLA_init_48 t1.1 t1.2 (by decide) (by decide) ?_
  refine G_aload_n dLA_init_49 rfl ?_
  refine G_getRs fLA_9 dLA_init_50 htl (by rw [gu_ne (Or.inr (by decide))]; exact hp0) ?_
  refine G_iconst (v := nI 3) dLA_init_53 (by decide +kernel) ?_
  refine G_iload_n dLA_init_54 rfl ?_
  refine G_iastN dLA_init_55 t1.1 t1.2 (by decide) (by decide) ?_
  have hr : ∀ a, a ≠ la → gu r1 la 3 (some (la + 3)) a = r1 a := fun a ha => gu_off ha
  generalize hg : (gu (gu (gu (gu g1 (la) 4 (w)) (la) 5 (h)) (la + 1) 1 (w)) (la + 1) 3 (h)) = g5
  have eo : ∀ a, a ≠ la → a ≠ la + 1 → g5 a = g1 a := fun a h1 h2 => by rw [← hg, gu_off h2, gu_off h2, gu_off h1, gu_off h1]
  obtain ⟨b1, b2, b3, b4, b5⟩ := hB
  refine G_return dLA_init_56 rfl (by decide) (by decide) ⟨rfl, ⟨htl, by rw [gu_ne (Or.inr (by decide))]; exact hp0, by rw [gu_ne (Or.inr (by decide))]; exact hc2, gu_same, t1.1, t1.2, t2.1, t2.2, b1, b2, b3, by rw [hr _ (by omega)]; exact b4, fun i hi => by rw [hr _ (by omega)]; exact b5 i hi⟩, hs1, ⟨?_, ?_, ?_⟩, fun j hj => ?_, fun i hi => ⟨fun _ => by rw [hr _ (by omega), e2], fun κ hκ => by cases hκ⟩, ⟨(fun _ _ => 0, g1 (la + 3) 2), 0, ?_, ?_, fun i j hi hj => ?_⟩, fun a ha => ?_⟩
  · rw [← hg, gu_off (by omega), gu_off (by omega), gu_ne (Or.inr (by decide)), gu_ne (Or.inr (by decide)), e0, hz]; decide +kernel
  · rw [← hg, gu_off (by omega), gu_off (by omega), gu_ne (Or.inr (by decide)), gu_same]
  · rw [← hg, gu_off (by omega), gu_off (by omega), gu_same]
  · show g5 (la + 1) j = if j = 1 then w else if j = 3 then h else 0
    rw [← hg, gu_row]
    by_cases c3 : j = 3
    · rw [if_pos c3, if_neg (by omega), if_pos c3]
    · rw [if_neg c3, gu_row]
      by_cases c1 : j = 1
      · rw [if_pos c1, if_pos c1]
      · rw [if_neg c1, if_neg c1, if_neg c3, gu_off (by omega), gu_off (by omega), e1]
  · rw [eo _ (by omega) (by omega)]; exact hS.1
  · rw [eo _ (by omega) (by omega)]
  · rw [eo _ (by omega) (by omega)]; exact hS.2.2 i j hi hj
  · obtain ⟨f1, f2, f3, f4⟩ := eF a ha
    exact ⟨f1, f2, by rw [eo a (by omega) (by omega)]; exact f3, by rw [hr a (by omega)]; exact f4⟩
end
section
def DvOk (T : gT) (gr : gR) (dv : Nat) : Prop := T.1 dv = 1 ∧ gr dv 0 = some (dv + 6) ∧ gr dv 1 = some (dv + 1) ∧ gr dv 2 = some (dv + 4) ∧ gr dv 3 = some (dv + 5) ∧ T.1 (dv + 4) = 102 ∧ T.2.1 (dv + 4) = 6 ∧ T.1 (dv + 5) = 102 ∧ T.2.1 (dv + 5) = 6 ∧ ScOk T gr (dv + 1) ∧ LaOk T gr (dv + 6)
def DvS (T : gT) (gr : gR) (dv nb : Nat) (bx : Nat → Nat) (par : Nat → Option Nat) (od : Nat → Nat) : Prop := DvOk T gr dv ∧ (0 ≤ nb ∧ nb ≤ 6) ∧ (∀ i, i < nb → gr (dv + 4) i = some (bx i) ∧ BxOk T gr (bx i) ∧ gr (bx i) 2 = (par i).map bx ∧ dv + 35 ≤ bx i) ∧ (∀ i p, i < nb → par i = some p → p < i) ∧ (∀ i, i < nb → (par i = none ↔ i = 0)) ∧ (∀ i j, i < j → j < nb → bx i + 3 ≤ bx j) ∧ (∀ k, k < nb → od k < nb ∧ gr (dv + 5) k = some (bx (od k))) ∧ (∀ k l, k < nb → l < nb → od k = od l → k = l)
def DvB (gi : gI) (dv nb : Nat) (bx : Nat → Nat) (B : Nat → BS) : Prop := gi dv 4 = nI nb ∧ ∀ i, i < nb → gi (bx i) 0 = nI i ∧ BxIs gi (bx i) (B i)
def DvF (gr : gR) (dv nb : Nat) (bx : Nat → Nat) (fo pr : Option Nat) : Prop := gr dv 5 = fo.map bx ∧ gr dv 6 = pr.map bx ∧ (∀ i, fo = some i → i < nb) ∧ ∀ i, pr = some i → i < nb
def noI (o : Option Nat) : Int32 := match o with
  | none => -1
  | some i => nI i
theorem DvS.inj {T : gT} {gr : gR} {dv nb : Nat} {bx od : Nat → Nat} {par : Nat → Option Nat} (hS : DvS T gr dv nb bx par od) {i j : Nat} (hi : i < nb) (hj : j < nb) (h : bx i = bx j) : i = j := by
  rcases Nat.lt_trichotomy i j with c | c | c
  · have := hS.2.2.2.2.2.1 i j c hj; omega
  · exact c
  · have := hS.2.2.2.2.2.1 j i c hi; omega
theorem DvS.far {T : gT} {gr : gR} {dv nb : Nat} {bx od : Nat → Nat} {par : Nat → Option Nat} (hS : DvS T gr dv nb bx par od) {i j : Nat} (hi : i < nb) (hj : j < nb) (h : i ≠ j) : bx i + 3 ≤ bx j ∨ bx j + 3 ≤ bx i := by
  rcases Nat.lt_or_gt_of_ne h with c | c
  · exact Or.inl (hS.2.2.2.2.2.1 i j c hj)
  · exact Or.inr (hS.2.2.2.2.2.1 j i c hi)
theorem DvS.injO {T : gT} {gr : gR} {dv nb : Nat} {bx od : Nat → Nat} {par : Nat → Option Nat} (hS : DvS T gr dv nb bx par od) {a b : Option Nat} (ha : ∀ i, a = some i → i < nb) (hb : ∀ i, b = some i → i < nb) : a.map bx = b.map bx ↔ a = b := by
  cases a with
  | none => cases b with
    | none => simp
    | some j => simp
  | some i => cases b with
    | none => simp
    | some j =>
      simp only [Option.map_some, Option.some.injEq]
      exact ⟨fun h => hS.inj (ha i rfl) (hb j rfl) h, fun h => by rw [h]⟩
theorem DvS.parlt {T : gT} {gr : gR} {dv nb : Nat} {bx od : Nat → Nat} {par : Nat → Option Nat} (hS : DvS T gr dv nb bx par od) {i : Nat} (hi : i < nb) : ∀ p, par i = some p → p < nb := fun p hp => Nat.lt_trans (hS.2.2.2.1 i p hi hp) hi
abbrev isNr (x : Int32) : Prop := ¬ x < -99 ∧ ¬ 99 < x
abbrev isBx (nb : Nat) (x : Int32) : Prop := ¬ x < 0 ∧ ¬ nI nb ≤ x
abbrev isIn (nb : Nat) (x : Int32) : Prop := ¬ x ≤ 0 ∧ ¬ nI nb ≤ x
theorem cDV_isNear {E : gE} {T : gT} {gi : gI} {gr : gR} {x : Int32}  : Ct E mDV_isNear [.int x] T gi gr (fun T' gi' gr' v => T' = T ∧ gi' = gi ∧ gr' = gr ∧ v = some (.int (if isNr x then 1 else 0))) := by
  refine Ct_of (ls := [.int x]) (by decide) (gcat_cons rfl gcat_nil) (Nat.le_of_ble_eq_true rfl) rfl ?_
  refine G_iload_n dDV_isNear_0 rfl ?_
  refine G_bipush (v := (-99)) dDV_isNear_1 (by decide) ?_
  refine G_icmp_lt dDV_isNear_3 (fun h1 => ?_) (fun h1 => ?_)
  · refine G_iconst (v := 0) dDV_isNear_16 (by decide) ?_
    exact G_ireturn dDV_isNear_17 rfl (nr_z (by decide)) (by decide) (by decide) ⟨rfl, rfl, rfl, by rw [if_neg (fun z => z.1 h1)]⟩
  · refine G_iload_n dDV_isNear_6 rfl ?_
    refine G_bipush (v := 99) dDV_isNear_7 (by decide) ?_
    refine G_icmp_gt dDV_isNear_9 (fun h2 => ?_) (fun h2 => ?_)
    · refine G_iconst (v := 0) dDV_isNear_16 (by decide) ?_
      exact G_ireturn dDV_isNear_17 rfl (nr_z (by decide)) (by decide) (by decide) ⟨rfl, rfl, rfl, by rw [if_neg (fun z => z.2 h2)]⟩
    · refine G_iconst (v := 1) dDV_isNear_12 (by decide) ?_
      refine G_goto dDV_isNear_13 ?_
      exact G_ireturn dDV_isNear_17 rfl (nr_z (by decide)) (by decide) (by decide) ⟨rfl, rfl, rfl, by rw [if_pos ⟨h1, h2⟩]⟩
theorem cDV_isBox {E : gE} {T : gT} {gi : gI} {gr : gR} {dv nb : Nat} {bx od : Nat → Nat} {par : Nat → Option Nat} {B : Nat → BS} {x : Int32} (hS : DvS T gr dv nb bx par od) (hB : DvB gi dv nb bx B) : Ct E mDV_isBox [.ref dv, .int x] T gi gr (fun T' gi' gr' v => T' = T ∧ gi' = gi ∧ gr' = gr ∧ v = some (.int (if isBx nb x then 1 else 0))) := by
  refine Ct_of (ls := [.ref dv, .int x]) (by decide) (gcat_cons rfl (gcat_cons rfl gcat_nil)) (Nat.le_of_ble_eq_true rfl) rfl ?_
  refine G_iload_n dDV_isBox_0 rfl ?_
  refine G_if_lt dDV_isBox_1 (fun h1 => ?_) (fun h1 => ?_)
  · refine G_iconst (v := 0) dDV_isBox_16 (by decide) ?_
    exact G_ireturn dDV_isBox_17 rfl (nr_z (by decide)) (by decide) (by decide) ⟨rfl, rfl, rfl, by rw [if_neg (fun z => z.1 h1)]⟩
  · refine G_iload_n dDV_isBox_4 rfl ?_
    refine G_aload_n dDV_isBox_5 rfl ?_
    refine G_getI fDV_45 dDV_isBox_6 hS.1.1 ?_
    rw [hB.1]
    refine G_icmp_ge dDV_isBox_9 (fun h2 => ?_) (fun h2 => ?_)
    · refine G_iconst (v := 0) dDV_isBox_16 (by decide) ?_
      exact G_ireturn dDV_isBox_17 rfl (nr_z (by decide)) (by decide) (by decide) ⟨rfl, rfl, rfl, by rw [if_neg (fun z => z.2 h2)]⟩
    · refine G_iconst (v := 1) dDV_isBox_12 (by decide) ?_
      refine G_goto dDV_isBox_13 ?_
      exact G_ireturn dDV_isBox_17 rfl (nr_z (by decide)) (by decide) (by decide) ⟨rfl, rfl, rfl, by rw [if_pos ⟨h1, h2⟩]⟩
theorem cDV_isInnerBox {E : gE} {T : gT} {gi : gI} {gr : gR} {dv nb : Nat} {bx od : Nat → Nat} {par : Nat → Option Nat} {B : Nat → BS} {x : Int32} (hS : DvS T gr dv nb bx par od) (hB : DvB gi dv nb bx B) : Ct E mDV_isInnerBox [.ref dv, .int x] T gi gr (fun T' gi' gr' v => T' = T ∧ gi' = gi ∧ gr' = gr ∧ v = some (.int (if isIn nb x then 1 else 0))) := by
  refine Ct_of (ls := [.ref dv, .int x]) (by decide) (gcat_cons rfl (gcat_cons rfl gcat_nil)) (Nat.le_of_ble_eq_true rfl) rfl ?_
  refine G_iload_n dDV_isInnerBox_0 rfl ?_
  refine G_if_le dDV_isInnerBox_1 (fun h1 => ?_) (fun h1 => ?_)
  · refine G_iconst (v := 0) dDV_isInnerBox_16 (by decide) ?_
    exact G_ireturn dDV_isInnerBox_17 rfl (nr_z (by decide)) (by decide) (by decide) ⟨rfl, rfl, rfl, by rw [if_neg (fun z => z.1 h1)]⟩
  · refine G_iload_n dDV_isInnerBox_4 rfl ?_
    refine G_aload_n dDV_isInnerBox_5 rfl ?_
    refine G_getI fDV_45 dDV_isInnerBox_6 hS.1.1 ?_
    rw [hB.1]
    refine G_icmp_ge dDV_isInnerBox_9 (fun h2 => ?_) (fun h2 => ?_)
    · refine G_iconst (v := 0) dDV_isInnerBox_16 (by decide) ?_
      exact G_ireturn dDV_isInnerBox_17 rfl (nr_z (by decide)) (by decide) (by decide) ⟨rfl, rfl, rfl, by rw [if_neg (fun z => z.2 h2)]⟩
    · refine G_iconst (v := 1) dDV_isInnerBox_12 (by decide) ?_
      refine G_goto dDV_isInnerBox_13 ?_
      exact G_ireturn dDV_isInnerBox_17 rfl (nr_z (by decide)) (by decide) (by decide) ⟨rfl, rfl, rfl, by rw [if_pos ⟨h1, h2⟩]⟩
theorem cDV_numberOf {E : gE} {T : gT} {gi : gI} {gr : gR} {dv nb : Nat} {bx od : Nat → Nat} {par : Nat → Option Nat} {B : Nat → BS} {o : Option Nat} (hS : DvS T gr dv nb bx par od) (hB : DvB gi dv nb bx B) (ho : ∀ i, o = some i → i < nb) : Ct E mDV_numberOf [va_rf (o.map bx)] T gi gr (fun T' gi' gr' v => T' = T ∧ gi' = gi ∧ gr' = gr ∧ v = some (.int (noI o))) := by
  refine Ct_of (ls := [va_rf (o.map bx)]) (by decide) (gcat_cons (va_rf_cat _) gcat_nil) (Nat.le_of_ble_eq_true rfl) rfl ?_
  cases o with
  | none =>
    refine G_aload_nN dDV_numberOf_0 rfl ?_
    refine G_ifnonnullN dDV_numberOf_1 ?_
    refine G_iconst (v := -1) dDV_numberOf_4 (by decide) ?_
    refine G_goto dDV_numberOf_5 ?_
    exact G_ireturn dDV_numberOf_12 rfl rfl (by decide) (by decide) ⟨rfl, rfl, rfl, rfl⟩
  | some i =>
    have hi := ho i rfl
    refine G_aload_n (a := bx i) dDV_numberOf_0 rfl ?_
    refine G_ifnonnull dDV_numberOf_1 ?_
    refine G_aload_n (a := bx i) dDV_numberOf_8 rfl ?_
    refine G_getI fDV_143 dDV_numberOf_9 (hS.2.2.1 i hi).2.1.1 ?_
    rw [(hB.2 i hi).1]
    exact G_ireturn dDV_numberOf_12 rfl rfl (by decide) (by decide) ⟨rfl, rfl, rfl, rfl⟩
def lsP (od : Nat → Nat) (par : Nat → Option Nat) (i : Nat) : Nat → Nat
  | 0 => i
  | k + 1 => if par (od k) = par i then od k else lsP od par i k
theorem lsP_lt {T : gT} {gr : gR} {dv nb : Nat} {bx od : Nat → Nat} {par : Nat → Option Nat} (hS : DvS T gr dv nb bx par od) {i : Nat} (hi : i < nb) : ∀ k, k ≤ nb → lsP od par i k < nb
  | 0, _ => hi
  | k + 1, hk => by
    unfold lsP
    split
    · exact (hS.2.2.2.2.2.2.1 k hk).1
    · exact lsP_lt hS hi k (by omega)
theorem il_loop {E : gE} {T : gT} {gi : gI} {gr : gR} {dv nb : Nat} {bx od : Nat → Nat} {par : Nat → Option Nat} {B : Nat → BS} {i : Nat} {Q : gQ} (hS : DvS T gr dv nb bx par od) (hB : DvB gi dv nb bx B) (hi : i < nb) (kx : Q T gi gr (some (.int (if lsP od par i nb = i then 1 else 0)))) : ∀ (n k : Nat), k + n = nb → G E mDV_isLastOfItsParent 4 [.ref dv, .ref (bx i), .ref (bx (lsP od par i k)), .int (nI k)] [] T gi gr 0 0 Q := by
  intro n
  induction n with
  | zero =>
    intro k hk
    have hk : k = nb := by omega
    subst hk
    refine G_iload_n dDV_isLastOfItsParent_4 rfl ?_
    refine G_aload_n dDV_isLastOfItsParent_5 rfl ?_
    refine G_getI fDV_45 dDV_isLastOfItsParent_6 hS.1.1 ?_
    rw [hB.1]
    refine G_icmp_ge dDV_isLastOfItsParent_9 (fun h1 => ?_) (fun h1 => absurd (nI_le (by omega) (by have := hS.2.1.2; omega)) h1)
    refine G_aload_n dDV_isLastOfItsParent_41 rfl ?_
    refine G_aload_n dDV_isLastOfItsParent_42 rfl ?_
    refine G_acmp_ne (rx := some (bx (lsP od par i k))) (ry := some (bx i)) rfl rfl dDV_isLastOfItsParent_43 (fun h2 => ?_) (fun h2 => ?_)
    · refine G_iconst (v := 0) dDV_isLastOfItsParent_50 (by decide) ?_
      refine G_ireturn dDV_isLastOfItsParent_51 rfl (nr_z (by decide)) (by decide) (by decide) ?_
      rw [if_neg (fun z => h2 (by rw [z]))] at kx
      exact kx
    · refine G_iconst (v := 1) dDV_isLastOfItsParent_46 (by decide) ?_
      refine G_goto dDV_isLastOfItsParent_47 ?_
      refine G_ireturn dDV_isLastOfItsParent_51 rfl (nr_z (by decide)) (by decide) (by decide) ?_
      rw [if_pos (hS.inj (lsP_lt hS hi k (Nat.le_refl _)) hi (Option.some.inj h2))] at kx
      exact kx
  | succ n ih =>
    intro k hkn
    have hk : k < nb := by omega
    refine G_iload_n dDV_isLastOfItsParent_4 rfl ?_
    refine G_aload_n dDV_isLastOfItsParent_5 rfl ?_
    refine G_getI fDV_45 dDV_isLastOfItsParent_6 hS.1.1 ?_
    rw [hB.1]
    refine G_icmp_ge dDV_isLastOfItsParent_9 (fun h1 => ?_) (fun h1 => ?_)
    · exact absurd h1 (nI_ge (by omega) (by have := hS.2.1.2; omega))
    · refine G_aload_n dDV_isLastOfItsParent_12 rfl ?_
      refine G_getRs fDV_22 dDV_isLastOfItsParent_13 hS.1.1 hS.1.2.2.2.2.1 ?_
      refine G_iload_n dDV_isLastOfItsParent_16 rfl ?_
      refine G_aaldsN 2 dDV_isLastOfItsParent_17 (by decide) hS.1.2.2.2.2.2.2.2.1 hS.1.2.2.2.2.2.2.2.2.1 (by decide) (Nat.lt_of_lt_of_le hk hS.2.1.2) (hS.2.2.2.2.2.2.1 k hk).2 ?_
      refine G_getR fDV_177 dDV_isLastOfItsParent_18 (hS.2.2.1 (od k) (hS.2.2.2.2.2.2.1 k hk).1).2.1.1 ?_
      rw [(hS.2.2.1 (od k) (hS.2.2.2.2.2.2.1 k hk).1).2.2.1]
      refine G_aload_n dDV_isLastOfItsParent_21 rfl ?_
      refine G_getR fDV_177 dDV_isLastOfItsParent_22 (hS.2.2.1 i hi).2.1.1 ?_
      rw [(hS.2.2.1 i hi).2.2.1]
      refine G_acmp_ne (rx := (par (od k)).map bx) (ry := (par i).map bx) rfl rfl dDV_isLastOfItsParent_25 (fun h2 => ?_) (fun h2 => ?_)
      · refine G_iinc (ls' := [.ref dv, .ref (bx i), .ref (bx (lsP od par i k)), .int (nI (k + 1))]) dDV_isLastOfItsParent_35 rfl (nI_inc k) (by decide) rfl ?_
        refine G_goto dDV_isLastOfItsParent_38 ?_
        have e : lsP od par i (k + 1) = lsP od par i k := by rw [lsP]; rw [if_neg (fun z => h2 ((hS.injO (hS.parlt (hS.2.2.2.2.2.2.1 k hk).1) (hS.parlt hi)).mpr z))]
        have := ih (k + 1) (by omega)
        rw [e] at this
        exact this
      · refine G_aload_n dDV_isLastOfItsParent_28 rfl ?_
        refine G_getRs fDV_22 dDV_isLastOfItsParent_29 hS.1.1 hS.1.2.2.2.2.1 ?_
        refine G_iload_n dDV_isLastOfItsParent_32 rfl ?_
        refine G_aaldsN 2 dDV_isLastOfItsParent_33 (by decide) hS.1.2.2.2.2.2.2.2.1 hS.1.2.2.2.2.2.2.2.2.1 (by decide) (Nat.lt_of_lt_of_le hk hS.2.1.2) (hS.2.2.2.2.2.2.1 k hk).2 ?_
        refine G_astore_n (ls' := [.ref dv, .ref (bx i), .ref (bx (od k)), .int (nI k)]) dDV_isLastOfItsParent_34 (by decide) rfl ?_
        refine G_iinc (ls' := [.ref dv, .ref (bx i), .ref (bx (od k)), .int (nI (k + 1))]) dDV_isLastOfItsParent_35 rfl (nI_inc k) (by decide) rfl ?_
        refine G_goto dDV_isLastOfItsParent_38 ?_
        have e : lsP od par i (k + 1) = od k := by unfold lsP; rw [if_pos ((hS.injO (hS.parlt (hS.2.2.2.2.2.2.1 k hk).1) (hS.parlt hi)).mp h2)]
        have := ih (k + 1) (by omega)
        rw [e] at this
        exact this
theorem cDV_isLastOfItsParent {E : gE} {T : gT} {gi : gI} {gr : gR} {dv nb : Nat} {bx od : Nat → Nat} {par : Nat → Option Nat} {B : Nat → BS} {i : Nat} (hS : DvS T gr dv nb bx par od) (hB : DvB gi dv nb bx B) (hi : i < nb) : Ct E mDV_isLastOfItsParent [.ref dv, .ref (bx i)] T gi gr (fun T' gi' gr' v => T' = T ∧ gi' = gi ∧ gr' = gr ∧ v = some (.int (if lsP od par i nb = i then 1 else 0))) := by
  refine Ct_of (ls := [.ref dv, .ref (bx i), .long 0, .long 0]) (by decide) (gcat_cons rfl (gcat_cons rfl gcat_nil)) (Nat.le_of_ble_eq_true rfl) rfl ?_
  refine G_aload_n dDV_isLastOfItsParent_0 rfl ?_
  refine G_astore_n (ls' := [.ref dv, .ref (bx i), .ref (bx i), .long 0]) dDV_isLastOfItsParent_1 (by decide) rfl ?_
  refine G_iconst (v := nI 0) dDV_isLastOfItsParent_2 (by decide +kernel) ?_
  refine G_istore_n (ls' := [.ref dv, .ref (bx i), .ref (bx i), .int (nI 0)]) dDV_isLastOfItsParent_3 (by decide) rfl ?_
  exact il_loop hS hB hi ⟨rfl, rfl, rfl, rfl⟩ nb 0 (Nat.zero_add _)
def fcP (od : Nat → Nat) (par : Nat → Option Nat) (H : Nat → Prop) [DecidablePred H] (p : Option Nat) : Nat → Option Nat
  | 0 => none
  | k + 1 => if par (od k) = p ∧ H (od k) then some (od k) else fcP od par H p k
abbrev arAt (B : Nat → BS) (x y : Int32) (i : Nat) : Prop := arH (B i).2.2.2.2.2.1 x y
theorem sub1_inc (x : Int32) : x + Int32.ofInt (-1) = x - 1 := by rw [Int32.sub_eq_add_neg]; rfl
theorem nI_m1 (k : Nat) : nI (k + 1) - 1 = nI k := nI_pred k
theorem fc_loop {E : gE} {T : gT} {gi : gI} {gr : gR} {dv nb : Nat} {bx od : Nat → Nat} {par : Nat → Option Nat} {B : Nat → BS} {x y : Int32} {p : Option Nat} (hS : DvS T gr dv nb bx par od) (hB : DvB gi dv nb bx B) (hp : ∀ i, p = some i → i < nb) : ∀ k, k ≤ nb → G E mDV_frontChild 8 [.ref dv, va_rf (p.map bx), .int x, .int y, .int (nI k - 1)] [] T gi gr 0 0 (fun T' gi' gr' v => T' = T ∧ gi' = gi ∧ gr' = gr ∧ v = some (va_rf ((fcP od par (arAt B x y) p k).map bx))) := by
  intro k
  induction k with
  | zero =>
    intro _
    refine G_iload dDV_frontChild_8 rfl ?_
    refine G_if_lt dDV_frontChild_10 (fun h1 => ?_) (fun h1 => absurd (by decide +kernel) h1)
    refine G_null dDV_frontChild_59 ?_
    exact G_areturn (r := none) dDV_frontChild_60 rfl rfl (by decide) (by decide) ⟨rfl, rfl, rfl, rfl⟩
  | succ k ih =>
    intro hkn
    have hk : k < nb := by omega
    have hok := (hS.2.2.2.2.2.2.1 k hk).1
    rw [nI_m1]
    refine G_iload dDV_frontChild_8 rfl ?_
    refine G_if_lt dDV_frontChild_10 (fun h1 => ?_) (fun h1 => ?_)
    · exact absurd h1 (nI_pos (by have := hS.2.1.2; omega))
    · refine G_aload_n dDV_frontChild_13 rfl ?_
      refine G_getRs fDV_22 dDV_frontChild_14 hS.1.1 hS.1.2.2.2.2.1 ?_
      refine G_iload dDV_frontChild_17 rfl ?_
      refine G_aaldsN 2 dDV_frontChild_19 (by decide) hS.1.2.2.2.2.2.2.2.1 hS.1.2.2.2.2.2.2.2.2.1 (by decide) (Nat.lt_of_lt_of_le hk hS.2.1.2) (hS.2.2.2.2.2.2.1 k hk).2 ?_
      refine G_getR fDV_177 dDV_frontChild_20 (hS.2.2.1 (od k) hok).2.1.1 ?_
      rw [(hS.2.2.1 (od k) hok).2.2.1]
      refine G_aload_nq dDV_frontChild_23 rfl ?_
      refine G_acmp_ne (rx := (par (od k)).map bx) (ry := p.map bx) rfl rfl dDV_frontChild_24 (fun h2 => ?_) (fun h2 => ?_)
      · refine G_iinc (ls' := [.ref dv, va_rf (p.map bx), .int x, .int y, .int (nI k - 1)]) dDV_frontChild_53 rfl (sub1_inc _) (by decide) rfl ?_
        refine G_goto dDV_frontChild_56 ?_
        have e : fcP od par (arAt B x y) p (k + 1) = fcP od par (arAt B x y) p k := by rw [fcP]; rw [if_neg (fun z => h2 ((hS.injO (hS.parlt hok) hp).mpr z.1))]
        rw [e]
        exact ih (by omega)
      · refine G_aload_n dDV_frontChild_27 rfl ?_
        refine G_getRs fDV_22 dDV_frontChild_28 hS.1.1 hS.1.2.2.2.2.1 ?_
        refine G_iload dDV_frontChild_31 rfl ?_
        refine G_aaldsN 2 dDV_frontChild_33 (by decide) hS.1.2.2.2.2.2.2.2.1 hS.1.2.2.2.2.2.2.2.2.1 (by decide) (Nat.lt_of_lt_of_le hk hS.2.1.2) (hS.2.2.2.2.2.2.1 k hk).2 ?_
        refine G_getRs fDV_113 dDV_frontChild_34 (hS.2.2.1 (od k) hok).2.1.1 (hS.2.2.1 (od k) hok).2.1.2.1 ?_
        refine G_iload_n dDV_frontChild_37 rfl ?_
        refine G_iload_n dDV_frontChild_38 rfl ?_
        refine G_callV (As := [.int x, .int y]) (rest := []) gDV_frontChild_AR_has lDV_184.1 lDV_184.2.1 lDV_184.2.2.1 lDV_184.2.2.2 dDV_frontChild_39 rfl (Nat.le_of_ble_eq_true rfl) (hS.2.2.1 (od k) hok).2.1.2.2.2.1 ⟨by decide, by decide⟩ (cAR_has (hS.2.2.1 (od k) hok).2.1.2.2.2.1 (hB.2 (od k) hok).2.2.2.2.2.2.1) ?_
        rintro _ _ _ _ ⟨rfl, rfl, rfl, rfl⟩
        refine G_st (st' := [.int (if arAt B x y (od k) then 1 else 0)]) rfl ?_
        refine G_if_eq dDV_frontChild_42 (fun h3 => ?_) (fun h3 => ?_)
        · refine G_iinc (ls' := [.ref dv, va_rf (p.map bx), .int x, .int y, .int (nI k - 1)]) dDV_frontChild_53 rfl (sub1_inc _) (by decide) rfl ?_
          refine G_goto dDV_frontChild_56 ?_
          have e : fcP od par (arAt B x y) p (k + 1) = fcP od par (arAt B x y) p k := by rw [fcP]; rw [if_neg (fun z => (if01.mp h3) z.2)]
          rw [e]
          exact ih (by omega)
        · refine G_aload_n dDV_frontChild_45 rfl ?_
          refine G_getRs fDV_22 dDV_frontChild_46 hS.1.1 hS.1.2.2.2.2.1 ?_
          refine G_iload dDV_frontChild_49 rfl ?_
          refine G_aaldsN 2 dDV_frontChild_51 (by decide) hS.1.2.2.2.2.2.2.2.1 hS.1.2.2.2.2.2.2.2.2.1 (by decide) (Nat.lt_of_lt_of_le hk hS.2.1.2) (hS.2.2.2.2.2.2.1 k hk).2 ?_
          have e : fcP od par (arAt B x y) p (k + 1) = some (od k) := by rw [fcP]; rw [if_pos ⟨(hS.injO (hS.parlt hok) hp).mp h2, by by_cases c : arAt B x y (od k); exact c; exact absurd (if01.mpr c) h3⟩]
          exact G_areturn (r := some (bx (od k))) dDV_frontChild_52 rfl rfl (by decide) (by decide) (by rw [e]; exact ⟨rfl, rfl, rfl, rfl⟩)
theorem cDV_frontChild {E : gE} {T : gT} {gi : gI} {gr : gR} {dv nb : Nat} {bx od : Nat → Nat} {par : Nat → Option Nat} {B : Nat → BS} {x y : Int32} {p : Option Nat} (hS : DvS T gr dv nb bx par od) (hB : DvB gi dv nb bx B) (hp : ∀ i, p = some i → i < nb) : Ct E mDV_frontChild [.ref dv, va_rf (p.map bx), .int x, .int y] T gi gr (fun T' gi' gr' v => T' = T ∧ gi' = gi ∧ gr' = gr ∧ v = some (va_rf ((fcP od par (arAt B x y) p nb).map bx))) := by
  refine Ct_of (ls := [.ref dv, va_rf (p.map bx), .int x, .int y, .long 0]) (by decide) (gcat_cons rfl (gcat_cons (va_rf_cat _) (gcat_cons rfl (gcat_cons rfl gcat_nil)))) (Nat.le_of_ble_eq_true rfl) rfl ?_
  refine G_aload_n dDV_frontChild_0 rfl ?_
  refine G_getI fDV_45 dDV_frontChild_1 hS.1.1 ?_
  rw [hB.1]
  refine G_iconst (v := 1) dDV_frontChild_4 (by decide) ?_
  refine G_isub dDV_frontChild_5 ?_
  refine G_istore (ls' := [.ref dv, va_rf (p.map bx), .int x, .int y, .int (nI nb - 1)]) dDV_frontChild_6 (by decide) rfl ?_
  exact fc_loop hS hB hp nb (Nat.le_refl _)
end
section
def fbP (fc : Option Nat → Option Nat) : Nat → Option Nat × Option Nat
  | 0 => (none, fc none)
  | k + 1 => match (fbP fc k).2 with
    | some i => (some i, fc (some i))
    | none => fbP fc k
def fcN (od : Nat → Nat) (par : Nat → Option Nat) (B : Nat → BS) (nb : Nat) (x y : Int32) (p : Option Nat) : Option Nat := fcP od par (arAt B x y) p nb
def hitP (od : Nat → Nat) (par : Nat → Option Nat) (B : Nat → BS) (nb : Nat) (x y : Int32) : Option Nat := (fbP (fcN od par B nb x y) 6).1
theorem fcP_lt {od : Nat → Nat} {par : Nat → Option Nat} {H : Nat → Prop} [DecidablePred H] {p : Option Nat} {nb : Nat} (ho : ∀ k, k < nb → od k < nb) : ∀ k, k ≤ nb → ∀ i, fcP od par H p k = some i → i < nb
  | 0, _, i, h => by cases h
  | k + 1, hk, i, h => by
    unfold fcP at h
    split at h
    · cases h; exact ho k hk
    · exact fcP_lt ho k (by omega) i h
theorem fbP_lt {fc : Option Nat → Option Nat} {nb : Nat} (hfc : ∀ p i, fc p = some i → i < nb) : ∀ k, (∀ i, (fbP fc k).1 = some i → i < nb) ∧ ∀ i, (fbP fc k).2 = some i → i < nb
  | 0 => ⟨fun i h => (by cases h), fun i h => hfc _ i h⟩
  | k + 1 => by
    have ih := fbP_lt hfc k
    unfold fbP
    cases h : (fbP fc k).2 with
    | none => exact ⟨fun i hi => ih.1 i hi, fun i hi => ih.2 i hi⟩
    | some j => exact ⟨fun i hi => by cases hi; exact ih.2 j h, fun i hi => hfc _ i hi⟩
theorem fbP_stop {fc : Option Nat → Option Nat} {k : Nat} (h : (fbP fc k).2 = none) : ∀ d, fbP fc (k + d) = fbP fc k
  | 0 => rfl
  | d + 1 => by
    have ih := fbP_stop h d
    show (match (fbP fc (k + d)).2 with | some i => (some i, fc (some i)) | none => fbP fc (k + d)) = _
    rw [ih, h]
theorem DvS.fc {T : gT} {gr : gR} {dv nb : Nat} {bx od : Nat → Nat} {par : Nat → Option Nat} {B : Nat → BS} {x y : Int32} (hS : DvS T gr dv nb bx par od) : ∀ p i, fcN od par B nb x y p = some i → i < nb := fun p i h => fcP_lt (fun k hk => (hS.2.2.2.2.2.2.1 k hk).1) nb (Nat.le_refl _) i h
theorem hitP_lt {T : gT} {gr : gR} {dv nb : Nat} {bx od : Nat → Nat} {par : Nat → Option Nat} {B : Nat → BS} {x y : Int32} (hS : DvS T gr dv nb bx par od) : ∀ i, hitP od par B nb x y = some i → i < nb := (fbP_lt (DvS.fc hS) 6).1
theorem fb_loop {E : gE} {T : gT} {gi : gI} {gr : gR} {dv nb : Nat} {bx od : Nat → Nat} {par : Nat → Option Nat} {B : Nat → BS} {x y : Int32} (hS : DvS T gr dv nb bx par od) (hB : DvB gi dv nb bx B) : ∀ (n k : Nat), k + n = 6 → G E mDV_frontBox 14 [.ref dv, .int x, .int y, va_rf ((fbP (fcN od par B nb x y) k).1.map bx), va_rf ((fbP (fcN od par B nb x y) k).2.map bx), .int (nI k)] [] T gi gr 0 0 (fun T' gi' gr' v => T' = T ∧ gi' = gi ∧ gr' = gr ∧ v = some (va_rf ((hitP od par B nb x y).map bx))) := by
  intro n
  induction n with
  | zero =>
    intro k hk
    have hk : k = 6 := by omega
    subst hk
    refine G_iload dDV_frontBox_14 rfl ?_
    refine G_bipush (v := 6) dDV_frontBox_16 (by decide) ?_
    refine G_icmp_ge dDV_frontBox_18 (fun h1 => ?_) (fun h1 => absurd (nI_le (a := 6) (b := 6) (by omega) (by decide)) h1)
    refine G_aload_nq dDV_frontBox_44 rfl ?_
    exact G_areturn dDV_frontBox_45 rfl rfl (by decide) (by decide) ⟨rfl, rfl, rfl, rfl⟩
  | succ n ih =>
    intro k hk
    refine G_iload dDV_frontBox_14 rfl ?_
    refine G_bipush (v := 6) dDV_frontBox_16 (by decide) ?_
    refine G_icmp_ge dDV_frontBox_18 (fun h1 => absurd h1 (nI_ge (a := k) (b := 6) (by omega) (by decide))) (fun h1 => ?_)
    have hlt := fbP_lt (DvS.fc (B := B) (x := x) (y := y) hS) k
    cases h2 : (fbP (fcN od par B nb x y) k).2 with
    | none =>
      have he : hitP od par B nb x y = (fbP (fcN od par B nb x y) k).1 := by
        unfold hitP
        rw [show 6 = k + (6 - k) by omega, fbP_stop h2]
      refine G_aloadN dDV_frontBox_21 rfl ?_
      refine G_ifnullN dDV_frontBox_23 ?_
      refine G_aload_nq dDV_frontBox_44 rfl ?_
      exact G_areturn dDV_frontBox_45 rfl rfl (by decide) (by decide) ⟨rfl, rfl, rfl, by rw [he]⟩
    | some i =>
      have hi := hlt.2 i h2
      have e1 : (fbP (fcN od par B nb x y) (k + 1)).1 = some i := by rw [fbP]; rw [h2]
      have e2 : (fbP (fcN od par B nb x y) (k + 1)).2 = fcN od par B nb x y (some i) := by rw [fbP]; rw [h2]
      refine G_aload (a := bx i) dDV_frontBox_21 rfl ?_
      refine G_ifnull dDV_frontBox_23 ?_
      refine G_aload (a := bx i) dDV_frontBox_26 rfl ?_
      refine G_astore_n (ls' := [.ref dv, .int x, .int y, .ref (bx i), .ref (bx i), .int (nI k)]) dDV_frontBox_28 (by decide) rfl ?_
      refine G_aload_n dDV_frontBox_29 rfl ?_
      refine G_aload_n dDV_frontBox_30 rfl ?_
      refine G_iload_n dDV_frontBox_31 rfl ?_
      refine G_iload_n dDV_frontBox_32 rfl ?_
      refine G_callV (As := [va_rf ((some i).map bx), .int x, .int y]) (rest := []) gDV_frontBox_DV_frontChild lDV_180.1 lDV_180.2.1 lDV_180.2.2.1 lDV_180.2.2.2 dDV_frontBox_33 rfl (Nat.le_of_ble_eq_true rfl) hS.1.1 ⟨by decide, by decide⟩ (cDV_frontChild hS hB (fun j hj => by cases hj; exact hi)) ?_
      rintro _ _ _ _ ⟨rfl, rfl, rfl, rfl⟩
      refine G_st (st' := [va_rf ((fcN od par B nb x y (some i)).map bx)]) rfl ?_
      refine G_astoreq (ls' := [.ref dv, .int x, .int y, .ref (bx i), va_rf ((fcN od par B nb x y (some i)).map bx), .int (nI k)]) dDV_frontBox_36 (by decide) rfl ?_
      refine G_iinc (ls' := [.ref dv, .int x, .int y, .ref (bx i), va_rf ((fcN od par B nb x y (some i)).map bx), .int (nI (k + 1))]) dDV_frontBox_38 rfl (nI_inc k) (by decide) rfl ?_
      refine G_goto dDV_frontBox_41 ?_
      have := ih (k + 1) (by omega)
      rw [e1, e2] at this
      exact this
theorem cDV_frontBox {E : gE} {T : gT} {gi : gI} {gr : gR} {dv nb : Nat} {bx od : Nat → Nat} {par : Nat → Option Nat} {B : Nat → BS} {x y : Int32} (hS : DvS T gr dv nb bx par od) (hB : DvB gi dv nb bx B) : Ct E mDV_frontBox [.ref dv, .int x, .int y] T gi gr (fun T' gi' gr' v => T' = T ∧ gi' = gi ∧ gr' = gr ∧ v = some (va_rf ((hitP od par B nb x y).map bx))) := by
  refine Ct_of (ls := [.ref dv, .int x, .int y, .long 0, .long 0, .long 0]) (by decide) (gcat_cons rfl (gcat_cons rfl (gcat_cons rfl gcat_nil))) (Nat.le_of_ble_eq_true rfl) rfl ?_
  refine G_null dDV_frontBox_0 ?_
  refine G_astore_nN (ls' := [.ref dv, .int x, .int y, .null, .long 0, .long 0]) dDV_frontBox_1 (by decide) rfl ?_
  refine G_aload_n dDV_frontBox_2 rfl ?_
  refine G_null dDV_frontBox_3 ?_
  refine G_iload_n dDV_frontBox_4 rfl ?_
  refine G_iload_n dDV_frontBox_5 rfl ?_
  refine G_callV (As := [va_rf ((none : Option Nat).map bx), .int x, .int y]) (rest := []) gDV_frontBox_DV_frontChild lDV_180.1 lDV_180.2.1 lDV_180.2.2.1 lDV_180.2.2.2 dDV_frontBox_6 rfl (Nat.le_of_ble_eq_true rfl) hS.1.1 ⟨by decide, by decide⟩ (cDV_frontChild hS hB (fun j hj => by cases hj)) ?_
  rintro _ _ _ _ ⟨rfl, rfl, rfl, rfl⟩
  refine G_st (st' := [va_rf ((fcN od par B nb x y none).map bx)]) rfl ?_
  refine G_astoreq (ls' := [.ref dv, .int x, .int y, .null, va_rf ((fcN od par B nb x y none).map bx), .long 0]) dDV_frontBox_9 (by decide) rfl ?_
  refine G_iconst (v := nI 0) dDV_frontBox_11 (by decide +kernel) ?_
  refine G_istore (ls' := [.ref dv, .int x, .int y, .null, va_rf ((fcN od par B nb x y none).map bx), .int (nI 0)]) dDV_frontBox_12 (by decide) rfl ?_
  exact fb_loop hS hB 6 0 rfl
def picP (od : Nat → Nat) (par : Nat → Option Nat) (B : Nat → BS) (nb : Nat) (x y : Int32) : Int32 := match hitP od par B nb x y with
  | none => 0
  | some i => (B i).2.1
theorem cDV_pictureAt {E : gE} {T : gT} {gi : gI} {gr : gR} {dv nb : Nat} {bx od : Nat → Nat} {par : Nat → Option Nat} {B : Nat → BS} {x y : Int32} (hS : DvS T gr dv nb bx par od) (hB : DvB gi dv nb bx B) : Ct E mDV_pictureAt [.ref dv, .int x, .int y] T gi gr (fun T' gi' gr' v => T' = T ∧ gi' = gi ∧ gr' = gr ∧ v = some (.int (picP od par B nb x y))) := by
  refine Ct_of (ls := [.ref dv, .int x, .int y, .long 0]) (by decide) (gcat_cons rfl (gcat_cons rfl (gcat_cons rfl gcat_nil))) (Nat.le_of_ble_eq_true rfl) rfl ?_
  refine G_aload_n dDV_pictureAt_0 rfl ?_
  refine G_iload_n dDV_pictureAt_1 rfl ?_
  refine G_iload_n dDV_pictureAt_2 rfl ?_
  refine G_callV (As := [.int x, .int y]) (rest := []) gDV_pictureAt_DV_frontBox lDV_121.1 lDV_121.2.1 lDV_121.2.2.1 lDV_121.2.2.2 dDV_pictureAt_3 rfl (Nat.le_of_ble_eq_true rfl) hS.1.1 ⟨by decide, by decide⟩ (cDV_frontBox hS hB) ?_
  rintro _ _ _ _ ⟨rfl, rfl, rfl, rfl⟩
  have hlt := hitP_lt (B := B) (x := x) (y := y) hS
  unfold picP
  cases hh : hitP od par B nb x y with
  | none =>
    refine G_st (st' := [.null]) rfl ?_
    refine G_astore_nN (ls' := [.ref dv, .int x, .int y, .null]) dDV_pictureAt_6 (by decide) rfl ?_
    refine G_aload_nN dDV_pictureAt_7 rfl ?_
    refine G_ifnonnullN dDV_pictureAt_8 ?_
    refine G_iconst (v := 0) dDV_pictureAt_11 (by decide) ?_
    refine G_goto dDV_pictureAt_12 ?_
    exact G_ireturn dDV_pictureAt_19 rfl rfl (by decide) (by decide) ⟨rfl, rfl, rfl, rfl⟩
  | some i =>
    have hi := hlt i hh
    refine G_st (st' := [.ref (bx i)]) rfl ?_
    refine G_astore_n (ls' := [.ref dv, .int x, .int y, .ref (bx i)]) dDV_pictureAt_6 (by decide) rfl ?_
    refine G_aload_n dDV_pictureAt_7 rfl ?_
    refine G_ifnonnull dDV_pictureAt_8 ?_
    refine G_aload_n dDV_pictureAt_15 rfl ?_
    refine G_getI fDV_189 dDV_pictureAt_16 (hS.2.2.1 i hi).2.1.1 ?_
    rw [(hB.2 i hi).2.2.1]
    exact G_ireturn dDV_pictureAt_19 rfl rfl (by decide) (by decide) ⟨rfl, rfl, rfl, rfl⟩
def coI (i : Nat) (on : Bool) (fo pr : Option Nat) : Int32 := 1 + nI i + (if on = true then 8 else 0) + (if fo = some i then 16 else 0) + (if pr = some i then 32 else 0)
theorem cDV_colourOf {E : gE} {T : gT} {gi : gI} {gr : gR} {dv nb : Nat} {bx od : Nat → Nat} {par : Nat → Option Nat} {B : Nat → BS} {fo pr : Option Nat} {i : Nat} (hS : DvS T gr dv nb bx par od) (hB : DvB gi dv nb bx B) (hF : DvF gr dv nb bx fo pr) (hi : i < nb) : Ct E mDV_colourOf [.ref dv, .ref (bx i)] T gi gr (fun T' gi' gr' v => T' = T ∧ gi' = gi ∧ gr' = gr ∧ v = some (.int (coI i (B i).2.2.2.2.1 fo pr))) := by
  refine Ct_of (ls := [.ref dv, .ref (bx i)]) (by decide) (gcat_cons rfl (gcat_cons rfl gcat_nil)) (Nat.le_of_ble_eq_true rfl) rfl ?_
  refine G_iconst (v := 1) dDV_colourOf_0 (by decide) ?_
  refine G_aload_n dDV_colourOf_1 rfl ?_
  refine G_getI fDV_143 dDV_colourOf_2 (hS.2.2.1 i hi).2.1.1 ?_
  rw [(hB.2 i hi).1]
  refine G_iadd dDV_colourOf_5 ?_
  refine G_aload_n dDV_colourOf_6 rfl ?_
  refine G_getI fDV_195 dDV_colourOf_7 (hS.2.2.1 i hi).2.1.1 ?_
  rw [(hB.2 i hi).2.2.2.2.2.1]
  refine G_if_eq dDV_colourOf_10 (fun h1 => ?_) (fun h1 => ?_)
  · refine G_iconst (v := 0) dDV_colourOf_18 (by decide) ?_
    refine G_iadd dDV_colourOf_19 ?_
    refine G_aload_n dDV_colourOf_20 rfl ?_
    refine G_aload_n dDV_colourOf_21 rfl ?_
    refine G_getR fDV_137 dDV_colourOf_22 hS.1.1 ?_
    rw [hF.1]
    refine G_acmp_ne (rx := (some i).map bx) (ry := fo.map bx) rfl rfl dDV_colourOf_25 (fun h2 => ?_) (fun h2 => ?_)
    · refine G_iconst (v := 0) dDV_colourOf_33 (by decide) ?_
      refine G_iadd dDV_colourOf_34 ?_
      refine G_aload_n dDV_colourOf_35 rfl ?_
      refine G_aload_n dDV_colourOf_36 rfl ?_
      refine G_getR fDV_129 dDV_colourOf_37 hS.1.1 ?_
      rw [hF.2.1]
      refine G_acmp_ne (rx := (some i).map bx) (ry := pr.map bx) rfl rfl dDV_colourOf_40 (fun h3 => ?_) (fun h3 => ?_)
      · refine G_iconst (v := 0) dDV_colourOf_48 (by decide) ?_
        refine G_iadd dDV_colourOf_49 ?_
        exact G_ireturn dDV_colourOf_50 rfl rfl (by decide) (by decide) ⟨rfl, rfl, rfl, by unfold coI; rw [if_neg (by rw [bI_0.mp h1]; decide), if_neg (fun z => h2 ((hS.injO (fun j hj => by cases hj; exact hi) hF.2.2.1).mpr z.symm)), if_neg (fun z => h3 ((hS.injO (fun j hj => by cases hj; exact hi) hF.2.2.2).mpr z.symm))]⟩
      · refine G_bipush (v := 32) dDV_colourOf_43 (by decide) ?_
        refine G_goto dDV_colourOf_45 ?_
        refine G_iadd dDV_colourOf_49 ?_
        exact G_ireturn dDV_colourOf_50 rfl rfl (by decide) (by decide) ⟨rfl, rfl, rfl, by unfold coI; rw [if_neg (by rw [bI_0.mp h1]; decide), if_neg (fun z => h2 ((hS.injO (fun j hj => by cases hj; exact hi) hF.2.2.1).mpr z.symm)), if_pos ((hS.injO (fun j hj => by cases hj; exact hi) hF.2.2.2).mp h3).symm]⟩
    · refine G_bipush (v := 16) dDV_colourOf_28 (by decide) ?_
      refine G_goto dDV_colourOf_30 ?_
      refine G_iadd dDV_colourOf_34 ?_
      refine G_aload_n dDV_colourOf_35 rfl ?_
      refine G_aload_n dDV_colourOf_36 rfl ?_
      refine G_getR fDV_129 dDV_colourOf_37 hS.1.1 ?_
      rw [hF.2.1]
      refine G_acmp_ne (rx := (some i).map bx) (ry := pr.map bx) rfl rfl dDV_colourOf_40 (fun h4 => ?_) (fun h4 => ?_)
      · refine G_iconst (v := 0) dDV_colourOf_48 (by decide) ?_
        refine G_iadd dDV_colourOf_49 ?_
        exact G_ireturn dDV_colourOf_50 rfl rfl (by decide) (by decide) ⟨rfl, rfl, rfl, by unfold coI; rw [if_neg (by rw [bI_0.mp h1]; decide), if_pos ((hS.injO (fun j hj => by cases hj; exact hi) hF.2.2.1).mp h2).symm, if_neg (fun z => h4 ((hS.injO (fun j hj => by cases hj; exact hi) hF.2.2.2).mpr z.symm))]⟩
      · refine G_bipush (v := 32) dDV_colourOf_43 (by decide) ?_
        refine G_goto dDV_colourOf_45 ?_
        refine G_iadd dDV_colourOf_49 ?_
        exact G_ireturn dDV_colourOf_50 rfl rfl (by decide) (by decide) ⟨rfl, rfl, rfl, by unfold coI; rw [if_neg (by rw [bI_0.mp h1]; decide), if_pos ((hS.injO (fun j hj => by cases hj; exact hi) hF.2.2.1).mp h2).symm, if_pos ((hS.injO (fun j hj => by cases hj; exact hi) hF.2.2.2).mp h4).symm]⟩
  · refine G_bipush (v := 8) dDV_colourOf_13 (by decide) ?_
    refine G_goto dDV_colourOf_15 ?_
    refine G_iadd dDV_colourOf_19 ?_
    refine G_aload_n dDV_colourOf_20 rfl ?_
    refine G_aload_n dDV_colourOf_21 rfl ?_
    refine G_getR fDV_137 dDV_colourOf_22 hS.1.1 ?_
    rw [hF.1]
    refine G_acmp_ne (rx := (some i).map bx) (ry := fo.map bx) rfl rfl dDV_colourOf_25 (fun h5 => ?_) (fun h5 => ?_)
    · refine G_iconst (v := 0) dDV_colourOf_33 (by decide) ?_
      refine G_iadd dDV_colourOf_34 ?_
      refine G_aload_n dDV_colourOf_35 rfl ?_
      refine G_aload_n dDV_colourOf_36 rfl ?_
      refine G_getR fDV_129 dDV_colourOf_37 hS.1.1 ?_
      rw [hF.2.1]
      refine G_acmp_ne (rx := (some i).map bx) (ry := pr.map bx) rfl rfl dDV_colourOf_40 (fun h6 => ?_) (fun h6 => ?_)
      · refine G_iconst (v := 0) dDV_colourOf_48 (by decide) ?_
        refine G_iadd dDV_colourOf_49 ?_
        exact G_ireturn dDV_colourOf_50 rfl rfl (by decide) (by decide) ⟨rfl, rfl, rfl, by unfold coI; rw [if_pos (by cases c : (B i).2.2.2.2.1 with | true => rfl | false => exact absurd (bI_0.mpr c) h1), if_neg (fun z => h5 ((hS.injO (fun j hj => by cases hj; exact hi) hF.2.2.1).mpr z.symm)), if_neg (fun z => h6 ((hS.injO (fun j hj => by cases hj; exact hi) hF.2.2.2).mpr z.symm))]⟩
      · refine G_bipush (v := 32) dDV_colourOf_43 (by decide) ?_
        refine G_goto dDV_colourOf_45 ?_
        refine G_iadd dDV_colourOf_49 ?_
        exact G_ireturn dDV_colourOf_50 rfl rfl (by decide) (by decide) ⟨rfl, rfl, rfl, by unfold coI; rw [if_pos (by cases c : (B i).2.2.2.2.1 with | true => rfl | false => exact absurd (bI_0.mpr c) h1), if_neg (fun z => h5 ((hS.injO (fun j hj => by cases hj; exact hi) hF.2.2.1).mpr z.symm)), if_pos ((hS.injO (fun j hj => by cases hj; exact hi) hF.2.2.2).mp h6).symm]⟩
    · refine G_bipush (v := 16) dDV_colourOf_28 (by decide) ?_
      refine G_goto dDV_colourOf_30 ?_
      refine G_iadd dDV_colourOf_34 ?_
      refine G_aload_n dDV_colourOf_35 rfl ?_
      refine G_aload_n dDV_colourOf_36 rfl ?_
      refine G_getR fDV_129 dDV_colourOf_37 hS.1.1 ?_
      rw [hF.2.1]
      refine G_acmp_ne (rx := (some i).map bx) (ry := pr.map bx) rfl rfl dDV_colourOf_40 (fun h7 => ?_) (fun h7 => ?_)
      · refine G_iconst (v := 0) dDV_colourOf_48 (by decide) ?_
        refine G_iadd dDV_colourOf_49 ?_
        exact G_ireturn dDV_colourOf_50 rfl rfl (by decide) (by decide) ⟨rfl, rfl, rfl, by unfold coI; rw [if_pos (by cases c : (B i).2.2.2.2.1 with | true => rfl | false => exact absurd (bI_0.mpr c) h1), if_pos ((hS.injO (fun j hj => by cases hj; exact hi) hF.2.2.1).mp h5).symm, if_neg (fun z => h7 ((hS.injO (fun j hj => by cases hj; exact hi) hF.2.2.2).mpr z.symm))]⟩
      · refine G_bipush (v := 32) dDV_colourOf_43 (by decide) ?_
        refine G_goto dDV_colourOf_45 ?_
        refine G_iadd dDV_colourOf_49 ?_
        exact G_ireturn dDV_colourOf_50 rfl rfl (by decide) (by decide) ⟨rfl, rfl, rfl, by unfold coI; rw [if_pos (by cases c : (B i).2.2.2.2.1 with | true => rfl | false => exact absurd (bI_0.mpr c) h1), if_pos ((hS.injO (fun j hj => by cases hj; exact hi) hF.2.2.1).mp h5).symm, if_pos ((hS.injO (fun j hj => by cases hj; exact hi) hF.2.2.2).mp h7).symm]⟩
def shC (i : Nat) (β : BS) (fo pr : Option Nat) : Int32 := coI i β.2.2.2.2.1 fo pr
abbrev shD (i : Nat) (β : BS) (fo pr : Option Nat) : Prop := ¬ shC i β fo pr = β.2.1 ∨ ¬ β.2.2.2.2.2.1 = β.2.2.2.2.2.2
def shDm (i : Nat) (β : BS) (fo pr : Option Nat) (D : Nat → Bool) : Nat → Bool := if shD i β fo pr then dmA (dmA D β.2.2.2.2.2.2 384) β.2.2.2.2.2.1 384 else D
def shB (i : Nat) (β : BS) (fo pr : Option Nat) : BS := (β.1, shC i β fo pr, β.2.2)
theorem DvB.row {gi gi' : gI} {dv nb : Nat} {bx : Nat → Nat} {B : Nat → BS} (hB : DvB gi dv nb bx B) (h0 : gi' dv = gi dv) (h : ∀ i, i < nb → gi' (bx i) = gi (bx i) ∧ gi' (bx i + 1) = gi (bx i + 1) ∧ gi' (bx i + 2) = gi (bx i + 2)) : DvB gi' dv nb bx B := by
  refine ⟨by rw [h0]; exact hB.1, fun i hi => ?_⟩
  obtain ⟨h1, h2, h3⟩ := h i hi
  unfold BxIs ArIs
  rw [h1, h2, h3]
  exact hB.2 i hi
theorem DvB_col {T : gT} {gi gi' : gI} {gr : gR} {dv nb : Nat} {bx od : Nat → Nat} {par : Nat → Option Nat} {B : Nat → BS} {i : Nat} {c : Int32} (hS : DvS T gr dv nb bx par od) (hi : i < nb) (h1 : gi' (bx i) 5 = c) (h2 : ∀ a k, (a ≠ bx i ∨ k ≠ 5) → a ≠ dv + 1 + 2 → gi' a k = gi a k) (hB : DvB gi dv nb bx B) : DvB gi' dv nb bx (gup B i ((B i).1, c, (B i).2.2)) := by
  have hge := fun j (hj : j < nb) => (hS.2.2.1 j hj).2.2.2
  refine ⟨by rw [h2 dv 4 (Or.inr (by decide)) (by omega)]; exact hB.1, fun j hj => ?_⟩
  have hjd := hge j hj
  have hid := hge i hi
  have hfar : j ≠ i → bx i + 3 ≤ bx j ∨ bx j + 3 ≤ bx i := fun hne => hS.far hi hj (fun z => hne z.symm)
  have e0 : gi' (bx j) 0 = gi (bx j) 0 := h2 _ _ (Or.inr (by decide)) (by omega)
  obtain ⟨b0, b1, b2, b3, b4, b5, b6, b7⟩ := hB.2 j hj
  have r1 : ∀ k, k ≠ 5 → gi' (bx j) k = gi (bx j) k := fun k hk => h2 _ _ (Or.inr hk) (by omega)
  have r2 : ∀ k, gi' (bx j + 1) k = gi (bx j + 1) k := fun k => h2 _ _ (Or.inl (by by_cases e : j = i; subst e; omega; have := hfar e; omega)) (by omega)
  have r3 : ∀ k, gi' (bx j + 2) k = gi (bx j + 2) k := fun k => h2 _ _ (Or.inl (by by_cases e : j = i; subst e; omega; have := hfar e; omega)) (by omega)
  by_cases e : j = i
  · subst e
    rw [gup_same]
    refine ⟨by rw [e0]; exact b0, by rw [r1 1 (by decide)]; exact b1, h1, by rw [r1 6 (by decide)]; exact b3, by rw [r1 7 (by decide)]; exact b4, by rw [r1 8 (by decide)]; exact b5, ?_, ?_⟩
    · unfold ArIs; rw [r2, r2, r2, r2]; exact b6
    · unfold ArIs; rw [r3, r3, r3, r3]; exact b7
  · rw [gup_ne e]
    have := hfar e
    refine ⟨by rw [e0]; exact b0, by rw [r1 1 (by decide)]; exact b1, by rw [h2 _ _ (Or.inl (by omega)) (by omega)]; exact b2, by rw [r1 6 (by decide)]; exact b3, by rw [r1 7 (by decide)]; exact b4, by rw [r1 8 (by decide)]; exact b5, ?_, ?_⟩
    · unfold ArIs; rw [r2, r2, r2, r2]; exact b6
    · unfold ArIs; rw [r3, r3, r3, r3]; exact b7
theorem cDV_showBox {E : gE} {T : gT} {gi : gI} {gr : gR} {dv nb : Nat} {bx od : Nat → Nat} {par : Nat → Option Nat} {B : Nat → BS} {fo pr : Option Nat} {i : Nat} {D : Nat → Bool} (hS : DvS T gr dv nb bx par od) (hB : DvB gi dv nb bx B) (hF : DvF gr dv nb bx fo pr) (hD : DmIs gi (dv + 1) D) (hi : i < nb) : Ct E mDV_showBox [.ref dv, .ref (bx i)] T gi gr (fun T' gi' gr' v => T' = T ∧ gr' = gr ∧ v = none ∧ DvB gi' dv nb bx (gup B i (shB i (B i) fo pr)) ∧ DmIs gi' (dv + 1) (shDm i (B i) fo pr D) ∧ ∀ a, a ≠ bx i → a ≠ dv + 1 + 2 → gi' a = gi a) := by
  have hge := (hS.2.2.1 i hi).2.2.2
  refine Ct_of (ls := [.ref dv, .ref (bx i), .long 0]) (by decide) (gcat_cons rfl (gcat_cons rfl gcat_nil)) (Nat.le_of_ble_eq_true rfl) rfl ?_
  refine G_aload_n dDV_showBox_0 rfl ?_
  refine G_aload_n dDV_showBox_1 rfl ?_
  refine G_callV (As := [.ref (bx i)]) (rest := []) gDV_showBox_DV_colourOf lDV_205.1 lDV_205.2.1 lDV_205.2.2.1 lDV_205.2.2.2 dDV_showBox_2 rfl (Nat.le_of_ble_eq_true rfl) hS.1.1 ⟨by decide, by decide⟩ (cDV_colourOf hS hB hF hi) ?_
  rintro _ _ _ _ ⟨rfl, rfl, rfl, rfl⟩
  refine G_st (st' := [.int (shC i (B i) fo pr)]) rfl ?_
  refine G_istore_n (ls' := [.ref dv, .ref (bx i), .int (shC i (B i) fo pr)]) dDV_showBox_5 (by decide) rfl ?_
  refine G_iload_n dDV_showBox_6 rfl ?_
  refine G_aload_n dDV_showBox_7 rfl ?_
  refine G_getI fDV_189 dDV_showBox_8 (hS.2.2.1 i hi).2.1.1 ?_
  rw [(hB.2 i hi).2.2.1]
  refine G_icmp_ne dDV_showBox_11 (fun h1 => ?_) (fun h1 => ?_)
  · refine G_aload_n dDV_showBox_28 rfl ?_
    refine G_getRs fDV_12 dDV_showBox_29 hS.1.1 hS.1.2.2.1 ?_
    refine G_aload_n dDV_showBox_32 rfl ?_
    refine G_getRs fDV_208 dDV_showBox_33 (hS.2.2.1 i hi).2.1.1 (hS.2.2.1 i hi).2.1.2.2.1 ?_
    refine G_callV (As := [.ref (bx i + 2)]) (rest := []) gDV_showBox_SC_damageArea lDV_117.1 lDV_117.2.1 lDV_117.2.2.1 lDV_117.2.2.2 dDV_showBox_36 rfl (Nat.le_of_ble_eq_true rfl) hS.1.2.2.2.2.2.2.2.2.2.1.1 ⟨by decide, by decide⟩ (cSC_damageArea hS.1.2.2.2.2.2.2.2.2.2.1 (hS.2.2.1 i hi).2.1.2.2.2.2 (by omega) (hB.2 i hi).2.2.2.2.2.2.2 hD) ?_
    rintro _ g1 _ _ ⟨rfl, rfl, rfl, hD1, hO1⟩
    refine G_st (st' := []) rfl ?_
    refine G_aload_n dDV_showBox_39 rfl ?_
    refine G_getRs fDV_12 dDV_showBox_40 hS.1.1 hS.1.2.2.1 ?_
    refine G_aload_n dDV_showBox_43 rfl ?_
    refine G_getRs fDV_113 dDV_showBox_44 (hS.2.2.1 i hi).2.1.1 (hS.2.2.1 i hi).2.1.2.1 ?_
    refine G_callV (As := [.ref (bx i + 1)]) (rest := []) gDV_showBox_SC_damageArea lDV_117.1 lDV_117.2.1 lDV_117.2.2.1 lDV_117.2.2.2 dDV_showBox_47 rfl (Nat.le_of_ble_eq_true rfl) hS.1.2.2.2.2.2.2.2.2.2.1.1 ⟨by decide, by decide⟩ (cSC_damageArea hS.1.2.2.2.2.2.2.2.2.2.1 (hS.2.2.1 i hi).2.1.2.2.2.1 (by omega) ((hB.2 i hi).2.2.2.2.2.2.1.off hO1 (by omega)) hD1) ?_
    rintro _ g2 _ _ ⟨rfl, rfl, rfl, hD2, hO2⟩
    refine G_st (st' := []) rfl ?_
    refine G_aload_n dDV_showBox_50 rfl ?_
    refine G_iload_n dDV_showBox_51 rfl ?_
    refine G_putI wDV_189 (Or.inl rfl) dDV_showBox_52 (hS.2.2.1 i hi).2.1.1 rfl rfl ?_
    refine G_return dDV_showBox_55 rfl (by decide) (by decide) ⟨rfl, rfl, rfl, ?_, ?_, ?_⟩
    · refine DvB_col (c := shC i (B i) fo pr) hS hi gu_same (fun a k hak hsc => ?_) hB
      rw [gu_ne hak]
      rw [hO2 a hsc, hO1 a hsc]
    · unfold shDm
      rw [if_pos (Or.inl h1)]
      intro j hj
      rw [gu_off (by omega)]
      exact hD2 j hj
    · intro a h1 h2
      rw [gu_off h1, hO2 a h2, hO1 a h2]
  · refine G_aload_n dDV_showBox_14 rfl ?_
    refine G_getRs fDV_113 dDV_showBox_15 (hS.2.2.1 i hi).2.1.1 (hS.2.2.1 i hi).2.1.2.1 ?_
    refine G_aload_n dDV_showBox_18 rfl ?_
    refine G_getRs fDV_208 dDV_showBox_19 (hS.2.2.1 i hi).2.1.1 (hS.2.2.1 i hi).2.1.2.2.1 ?_
    refine G_callV (As := [.ref (bx i + 2)]) (rest := []) gDV_showBox_AR_isSameAs lDV_211.1 lDV_211.2.1 lDV_211.2.2.1 lDV_211.2.2.2 dDV_showBox_22 rfl (Nat.le_of_ble_eq_true rfl) (hS.2.2.1 i hi).2.1.2.2.2.1 ⟨by decide, by decide⟩ (cAR_isSameAs (hS.2.2.1 i hi).2.1.2.2.2.1 (hS.2.2.1 i hi).2.1.2.2.2.2 (hB.2 i hi).2.2.2.2.2.2.1 (hB.2 i hi).2.2.2.2.2.2.2) ?_
    rintro _ _ _ _ ⟨rfl, rfl, rfl, rfl⟩
    refine G_st (st' := [.int (if (B i).2.2.2.2.2.1 = (B i).2.2.2.2.2.2 then 1 else 0)]) rfl ?_
    refine G_if_ne dDV_showBox_25 (fun h2 => ?_) (fun h2 => ?_)
    · refine G_aload_n dDV_showBox_50 rfl ?_
      refine G_iload_n dDV_showBox_51 rfl ?_
      refine G_putI wDV_189 (Or.inl rfl) dDV_showBox_52 (hS.2.2.1 i hi).2.1.1 rfl rfl ?_
      refine G_return dDV_showBox_55 rfl (by decide) (by decide) ⟨rfl, rfl, rfl, ?_, ?_, ?_⟩
      · refine DvB_col (c := shC i (B i) fo pr) hS hi gu_same (fun a k hak hsc => ?_) hB
        rw [gu_ne hak]
      · unfold shDm
        rw [if_neg (fun z => z.elim (fun q => q h1) (fun q => h2 (if01.mpr q)))]
        intro j hj
        rw [gu_off (by omega)]
        exact hD j hj
      · intro a h1 h2
        rw [gu_off h1]
    · refine G_aload_n dDV_showBox_28 rfl ?_
      refine G_getRs fDV_12 dDV_showBox_29 hS.1.1 hS.1.2.2.1 ?_
      refine G_aload_n dDV_showBox_32 rfl ?_
      refine G_getRs fDV_208 dDV_showBox_33 (hS.2.2.1 i hi).2.1.1 (hS.2.2.1 i hi).2.1.2.2.1 ?_
      refine G_callV (As := [.ref (bx i + 2)]) (rest := []) gDV_showBox_SC_damageArea lDV_117.1 lDV_117.2.1 lDV_117.2.2.1 lDV_117.2.2.2 dDV_showBox_36 rfl (Nat.le_of_ble_eq_true rfl) hS.1.2.2.2.2.2.2.2.2.2.1.1 ⟨by decide, by decide⟩ (cSC_damageArea hS.1.2.2.2.2.2.2.2.2.2.1 (hS.2.2.1 i hi).2.1.2.2.2.2 (by omega) (hB.2 i hi).2.2.2.2.2.2.2 hD) ?_
      rintro _ g1 _ _ ⟨rfl, rfl, rfl, hD1, hO1⟩
      refine G_st (st' := []) rfl ?_
      refine G_aload_n dDV_showBox_39 rfl ?_
      refine G_getRs fDV_12 dDV_showBox_40 hS.1.1 hS.1.2.2.1 ?_
      refine G_aload_n dDV_showBox_43 rfl ?_
      refine G_getRs fDV_113 dDV_showBox_44 (hS.2.2.1 i hi).2.1.1 (hS.2.2.1 i hi).2.1.2.1 ?_
      refine G_callV (As := [.ref (bx i + 1)]) (rest := []) gDV_showBox_SC_damageArea lDV_117.1 lDV_117.2.1 lDV_117.2.2.1 lDV_117.2.2.2 dDV_showBox_47 rfl (Nat.le_of_ble_eq_true rfl) hS.1.2.2.2.2.2.2.2.2.2.1.1 ⟨by decide, by decide⟩ (cSC_damageArea hS.1.2.2.2.2.2.2.2.2.2.1 (hS.2.2.1 i hi).2.1.2.2.2.1 (by omega) ((hB.2 i hi).2.2.2.2.2.2.1.off hO1 (by omega)) hD1) ?_
      rintro _ g2 _ _ ⟨rfl, rfl, rfl, hD2, hO2⟩
      refine G_st (st' := []) rfl ?_
      refine G_aload_n dDV_showBox_50 rfl ?_
      refine G_iload_n dDV_showBox_51 rfl ?_
      refine G_putI wDV_189 (Or.inl rfl) dDV_showBox_52 (hS.2.2.1 i hi).2.1.1 rfl rfl ?_
      refine G_return dDV_showBox_55 rfl (by decide) (by decide) ⟨rfl, rfl, rfl, ?_, ?_, ?_⟩
      · refine DvB_col (c := shC i (B i) fo pr) hS hi gu_same (fun a k hak hsc => ?_) hB
        rw [gu_ne hak]
        rw [hO2 a hsc, hO1 a hsc]
      · unfold shDm
        rw [if_pos (Or.inr (if01.mp h2))]
        intro j hj
        rw [gu_off (by omega)]
        exact hD2 j hj
      · intro a h1 h2
        rw [gu_off h1, hO2 a h2, hO1 a h2]
end
section
theorem DvB_act {T : gT} {gi : gI} {gr : gR} {dv nb : Nat} {bx od : Nat → Nat} {par : Nat → Option Nat} {B : Nat → BS} {i : Nat} {x : Int32} (hS : DvS T gr dv nb bx par od) (hi : i < nb) (hB : DvB gi dv nb bx B) : DvB (gu gi (bx i) 6 x) dv nb bx (gup B i ((B i).1, (B i).2.1, x, (B i).2.2.2)) := by
  have hge := fun j (hj : j < nb) => (hS.2.2.1 j hj).2.2.2
  have hid := hge i hi
  refine ⟨by rw [gu_off (by omega)]; exact hB.1, fun j hj => ?_⟩
  have hjd := hge j hj
  have hfar : j ≠ i → bx i + 3 ≤ bx j ∨ bx j + 3 ≤ bx i := fun hne => hS.far hi hj (fun z => hne z.symm)
  obtain ⟨b0, b1, b2, b3, b4, b5, b6, b7⟩ := hB.2 j hj
  by_cases e : j = i
  · subst e
    rw [gup_same]
    refine ⟨by rw [gu_ne (Or.inr (by decide))]; exact b0, by rw [gu_ne (Or.inr (by decide))]; exact b1, by rw [gu_ne (Or.inr (by decide))]; exact b2, by rw [gu_same], by rw [gu_ne (Or.inr (by decide))]; exact b4, by rw [gu_ne (Or.inr (by decide))]; exact b5, ?_, ?_⟩
    · unfold ArIs; rw [gu_off (by omega)]; exact b6
    · unfold ArIs; rw [gu_off (by omega)]; exact b7
  · rw [gup_ne e]
    have := hfar e
    unfold BxIs ArIs
    rw [gu_off (by omega), gu_off (by omega), gu_off (by omega)]
    exact hB.2 j hj
theorem DvB_hid {T : gT} {gi : gI} {gr : gR} {dv nb : Nat} {bx od : Nat → Nat} {par : Nat → Option Nat} {B : Nat → BS} {i : Nat} {x : Bool} (hS : DvS T gr dv nb bx par od) (hi : i < nb) (hB : DvB gi dv nb bx B) : DvB (gu gi (bx i) 7 (bI x)) dv nb bx (gup B i ((B i).1, (B i).2.1, (B i).2.2.1, x, (B i).2.2.2.2)) := by
  have hge := fun j (hj : j < nb) => (hS.2.2.1 j hj).2.2.2
  have hid := hge i hi
  refine ⟨by rw [gu_off (by omega)]; exact hB.1, fun j hj => ?_⟩
  have hjd := hge j hj
  have hfar : j ≠ i → bx i + 3 ≤ bx j ∨ bx j + 3 ≤ bx i := fun hne => hS.far hi hj (fun z => hne z.symm)
  obtain ⟨b0, b1, b2, b3, b4, b5, b6, b7⟩ := hB.2 j hj
  by_cases e : j = i
  · subst e
    rw [gup_same]
    refine ⟨by rw [gu_ne (Or.inr (by decide))]; exact b0, by rw [gu_ne (Or.inr (by decide))]; exact b1, by rw [gu_ne (Or.inr (by decide))]; exact b2, by rw [gu_ne (Or.inr (by decide))]; exact b3, by rw [gu_same], by rw [gu_ne (Or.inr (by decide))]; exact b5, ?_, ?_⟩
    · unfold ArIs; rw [gu_off (by omega)]; exact b6
    · unfold ArIs; rw [gu_off (by omega)]; exact b7
  · rw [gup_ne e]
    have := hfar e
    unfold BxIs ArIs
    rw [gu_off (by omega), gu_off (by omega), gu_off (by omega)]
    exact hB.2 j hj
theorem DvB_on {T : gT} {gi : gI} {gr : gR} {dv nb : Nat} {bx od : Nat → Nat} {par : Nat → Option Nat} {B : Nat → BS} {i : Nat} {x : Bool} (hS : DvS T gr dv nb bx par od) (hi : i < nb) (hB : DvB gi dv nb bx B) : DvB (gu gi (bx i) 8 (bI x)) dv nb bx (gup B i ((B i).1, (B i).2.1, (B i).2.2.1, (B i).2.2.2.1, x, (B i).2.2.2.2.2)) := by
  have hge := fun j (hj : j < nb) => (hS.2.2.1 j hj).2.2.2
  have hid := hge i hi
  refine ⟨by rw [gu_off (by omega)]; exact hB.1, fun j hj => ?_⟩
  have hjd := hge j hj
  have hfar : j ≠ i → bx i + 3 ≤ bx j ∨ bx j + 3 ≤ bx i := fun hne => hS.far hi hj (fun z => hne z.symm)
  obtain ⟨b0, b1, b2, b3, b4, b5, b6, b7⟩ := hB.2 j hj
  by_cases e : j = i
  · subst e
    rw [gup_same]
    refine ⟨by rw [gu_ne (Or.inr (by decide))]; exact b0, by rw [gu_ne (Or.inr (by decide))]; exact b1, by rw [gu_ne (Or.inr (by decide))]; exact b2, by rw [gu_ne (Or.inr (by decide))]; exact b3, by rw [gu_ne (Or.inr (by decide))]; exact b4, by rw [gu_same], ?_, ?_⟩
    · unfold ArIs; rw [gu_off (by omega)]; exact b6
    · unfold ArIs; rw [gu_off (by omega)]; exact b7
  · rw [gup_ne e]
    have := hfar e
    unfold BxIs ArIs
    rw [gu_off (by omega), gu_off (by omega), gu_off (by omega)]
    exact hB.2 j hj
def anP (par : Nat → Option Nat) (i : Nat) : Nat → Option Nat
  | 0 => some i
  | k + 1 => (anP par i k).bind par
def acB (par : Nat → Option Nat) (i : Nat) (B : Nat → BS) : Nat → Nat → BS
  | 0 => B
  | k + 1 => match anP par i k with
    | some c => gup (acB par i B k) c ((acB par i B k c).1, (acB par i B k c).2.1, (acB par i B k c).2.2.1 + 1, (acB par i B k c).2.2.2)
    | none => acB par i B k
def atB (par : Nat → Option Nat) (i : Nat) (B : Nat → BS) : Nat → BS := if (acB par i B 6 i).1 = 2 then gup (acB par i B 6) i ((acB par i B 6 i).1, (acB par i B 6 i).2.1, (acB par i B 6 i).2.2.1, (acB par i B 6 i).2.2.2.1, !(acB par i B 6 i).2.2.2.2.1, (acB par i B 6 i).2.2.2.2.2) else acB par i B 6
theorem anP_stop {par : Nat → Option Nat} {i : Nat} {B : Nat → BS} {k : Nat} (h : anP par i k = none) : ∀ d, anP par i (k + d) = none ∧ acB par i B (k + d) = acB par i B k
  | 0 => ⟨h, rfl⟩
  | d + 1 => by
    obtain ⟨h1, h2⟩ := anP_stop (B := B) h d
    refine ⟨by show (anP par i (k + d)).bind par = none; rw [h1]; rfl, ?_⟩
    show (match anP par i (k + d) with | some c => _ | none => acB par i B (k + d)) = _
    rw [h1]
    exact h2
theorem anP_lt {T : gT} {gr : gR} {dv nb : Nat} {bx od : Nat → Nat} {par : Nat → Option Nat} {i : Nat} (hS : DvS T gr dv nb bx par od) (hi : i < nb) : ∀ k c, anP par i k = some c → c < nb
  | 0, c, h => by cases h; exact hi
  | k + 1, c, h => by
    have h' : (anP par i k).bind par = some c := h
    cases hk : anP par i k with
    | none => rw [hk] at h'; cases h'
    | some d => rw [hk] at h'; exact hS.parlt (anP_lt hS hi k d hk) c h'
theorem at_end {E : gE} {T : gT} {gi : gI} {gr : gR} {dv nb : Nat} {bx od : Nat → Nat} {par : Nat → Option Nat} {g0 : gI} {B : Nat → BS} {i : Nat} {Q : gQ} {v1 v2 : Value} (hS : DvS T gr dv nb bx par od) (hi : i < nb) (hB : DvB gi dv nb bx (acB par i B 6)) (hO : ∀ a, (∀ j, j < nb → a ≠ bx j) → gi a = g0 a) (kx : ∀ gi, DvB gi dv nb bx (atB par i B) → (∀ a, (∀ j, j < nb → a ≠ bx j) → gi a = g0 a) → Q T gi gr none) : G E mDV_activate 35 [.ref (bx i), v1, v2] [] T gi gr 0 0 Q := by
  have ht := (hS.2.2.1 i hi).2.1.1
  refine G_aload_n dDV_activate_35 rfl ?_
  refine G_getI fDV_192 dDV_activate_36 ht ?_
  rw [(hB.2 i hi).2.1]
  refine G_iconst (v := 2) dDV_activate_39 (by decide) ?_
  refine G_icmp_ne dDV_activate_40 (fun h1 => ?_) (fun h1 => ?_)
  · exact G_return dDV_activate_59 rfl (by decide) (by decide) (kx gi (by unfold atB; rw [if_neg h1]; exact hB) hO)
  · have fin : ∀ b : Bool, b = (!(acB par i B 6 i).2.2.2.2.1) → G E mDV_activate 56 [.ref (bx i), v1, v2] [.int (bI b), .ref (bx i)] T gi gr 0 0 Q := by
      intro b hb
      refine G_putI wDV_195 (Or.inl rfl) dDV_activate_56 ht (nr_z (bI_01 _)) (ft_z (bI_01 _)) ?_
      refine G_return dDV_activate_59 rfl (by decide) (by decide) (kx _ (by unfold atB; rw [if_pos h1, ← hb]; exact DvB_on hS hi hB) (fun a ha => by rw [gu_off (ha i hi)]; exact hO a ha))
    refine G_aload_n dDV_activate_43 rfl ?_
    refine G_aload_n dDV_activate_44 rfl ?_
    refine G_getI fDV_195 dDV_activate_45 ht ?_
    rw [(hB.2 i hi).2.2.2.2.2.1]
    refine G_if_ne dDV_activate_48 (fun h2 => ?_) (fun h2 => ?_)
    · refine G_iconst (v := bI false) dDV_activate_55 (by decide +kernel) ?_
      exact fin false (by cases c : (acB par i B 6 i).2.2.2.2.1 with | true => rfl | false => exact absurd (bI_0.mpr c) h2)
    · refine G_iconst (v := bI true) dDV_activate_51 (by decide +kernel) ?_
      refine G_goto dDV_activate_52 ?_
      exact fin true (by rw [bI_0.mp h2]; rfl)
theorem at_loop {E : gE} {T : gT} {gr : gR} {dv nb : Nat} {bx od : Nat → Nat} {par : Nat → Option Nat} {g0 : gI} {B : Nat → BS} {i : Nat} {Q : gQ} (hS : DvS T gr dv nb bx par od) (hi : i < nb) (kx : ∀ gi, DvB gi dv nb bx (atB par i B) → (∀ a, (∀ j, j < nb → a ≠ bx j) → gi a = g0 a) → Q T gi gr none) : ∀ (n k : Nat), k + n = 6 → ∀ gi, DvB gi dv nb bx (acB par i B k) → (∀ a, (∀ j, j < nb → a ≠ bx j) → gi a = g0 a) → G E mDV_activate 4 [.ref (bx i), va_rf ((anP par i k).map bx), .int (nI k)] [] T gi gr 0 0 Q := by
  intro n
  induction n with
  | zero =>
    intro k hk gi hB hO
    have hk : k = 6 := by omega
    subst hk
    refine G_iload_n dDV_activate_4 rfl ?_
    refine G_bipush (v := 6) dDV_activate_5 (by decide) ?_
    refine G_icmp_ge dDV_activate_7 (fun h1 => at_end hS hi hB hO kx) (fun h1 => absurd (nI_le (a := 6) (b := 6) (by omega) (by decide)) h1)
  | succ n ih =>
    intro k hk gi hB hO
    refine G_iload_n dDV_activate_4 rfl ?_
    refine G_bipush (v := 6) dDV_activate_5 (by decide) ?_
    refine G_icmp_ge dDV_activate_7 (fun h1 => absurd h1 (nI_ge (a := k) (b := 6) (by omega) (by decide))) (fun h1 => ?_)
    cases hc : anP par i k with
    | none =>
      have he : acB par i B 6 = acB par i B k := by rw [show 6 = k + (6 - k) by omega]; exact (anP_stop hc _).2
      refine G_aload_nN dDV_activate_10 rfl ?_
      refine G_ifnullN dDV_activate_11 ?_
      exact at_end hS hi (by rw [he]; exact hB) hO kx
    | some c =>
      have hcn := anP_lt hS hi k c hc
      have ht := (hS.2.2.1 c hcn).2.1.1
      have e1 : anP par i (k + 1) = par c := by show (anP par i k).bind par = _; rw [hc]; rfl
      have e2 : acB par i B (k + 1) = gup (acB par i B k) c ((acB par i B k c).1, (acB par i B k c).2.1, (acB par i B k c).2.2.1 + 1, (acB par i B k c).2.2.2) := by
        rw [acB]
        rw [hc]
      refine G_aload_n (a := bx c) dDV_activate_10 rfl ?_
      refine G_ifnull dDV_activate_11 ?_
      refine G_aload_n (a := bx c) dDV_activate_14 rfl ?_
      refine G_dup dDV_activate_15 rfl ?_
      refine G_getI fDV_152 dDV_activate_16 ht ?_
      rw [(hB.2 c hcn).2.2.2.1]
      refine G_iconst (v := 1) dDV_activate_19 (by decide) ?_
      refine G_iadd dDV_activate_20 ?_
      refine G_putI wDV_152 (Or.inl rfl) dDV_activate_21 ht rfl rfl ?_
      refine G_aload_n (a := bx c) dDV_activate_24 rfl ?_
      refine G_getR fDV_177 dDV_activate_25 ht ?_
      rw [(hS.2.2.1 c hcn).2.2.1]
      refine G_astore_nq (ls' := [.ref (bx i), va_rf ((par c).map bx), .int (nI k)]) dDV_activate_28 (by decide) rfl ?_
      refine G_iinc (ls' := [.ref (bx i), va_rf ((par c).map bx), .int (nI (k + 1))]) dDV_activate_29 rfl (nI_inc k) (by decide) rfl ?_
      refine G_goto dDV_activate_32 ?_
      have := ih (k + 1) (by omega) (gu gi (bx c) 6 ((acB par i B k c).2.2.1 + 1)) (by rw [e2]; exact DvB_act hS hcn hB) (fun a ha => by rw [gu_off (ha c hcn)]; exact hO a ha)
      rw [e1] at this
      exact this
theorem cDV_activate {E : gE} {T : gT} {gi : gI} {gr : gR} {dv nb : Nat} {bx od : Nat → Nat} {par : Nat → Option Nat} {B : Nat → BS} {i : Nat} (hS : DvS T gr dv nb bx par od) (hB : DvB gi dv nb bx B) (hi : i < nb) : Ct E mDV_activate [.ref (bx i)] T gi gr (fun T' gi' gr' v => T' = T ∧ gr' = gr ∧ v = none ∧ DvB gi' dv nb bx (atB par i B) ∧ (∀ a, (∀ j, j < nb → a ≠ bx j) → gi' a = gi a)) := by
  refine Ct_of (ls := [.ref (bx i), .long 0, .long 0]) (by decide) (gcat_cons rfl gcat_nil) (Nat.le_of_ble_eq_true rfl) rfl ?_
  refine G_aload_n dDV_activate_0 rfl ?_
  refine G_astore_n (ls' := [.ref (bx i), .ref (bx i), .long 0]) dDV_activate_1 (by decide) rfl ?_
  refine G_iconst (v := nI 0) dDV_activate_2 (by decide +kernel) ?_
  refine G_istore_n (ls' := [.ref (bx i), .ref (bx i), .int (nI 0)]) dDV_activate_3 (by decide) rfl ?_
  exact at_loop hS hi (fun g2 hB2 hO2 => ⟨rfl, rfl, rfl, hB2, hO2⟩) 6 0 rfl gi hB (fun _ _ => rfl)
def mvP (od : Nat → Nat) (pos nb i : Nat) : Nat → Nat := fun k => if k < pos then od k else if k + 1 < nb then od (k + 1) else i
def kpP (pos j : Nat) : Nat := if pos < j then j - 1 else j
def odJ (od : Nat → Nat) (pos nb i j : Nat) : Nat → Nat := fun k => if k < kpP pos j then mvP od pos nb i k else od k
theorem DvOk.gr {T : gT} {gr gr' : gR} {dv : Nat} (h : DvOk T gr dv) (hr : ∀ a, a ≠ dv + 5 → gr' a = gr a) : DvOk T gr' dv := by
  obtain ⟨h1, h2, h3, h4, h5, h6, h7, h8, h9, ⟨s1, s2, s3, s4⟩, hL⟩ := h
  refine ⟨h1, by rw [hr dv (by omega)]; exact h2, by rw [hr dv (by omega)]; exact h3, by rw [hr dv (by omega)]; exact h4, by rw [hr dv (by omega)]; exact h5, h6, h7, h8, h9, ⟨s1, by rw [hr (dv + 1) (by omega)]; exact s2, by rw [hr (dv + 1) (by omega)]; exact s3, s4⟩, ?_⟩
  obtain ⟨l1, l2, l3, l4, l5, l6, l7, l8, b1, b2, b3, b4, b5⟩ := hL
  exact ⟨l1, by rw [hr _ (by omega)]; exact l2, by rw [hr _ (by omega)]; exact l3, by rw [hr _ (by omega)]; exact l4, l5, l6, l7, l8, b1, b2, b3, by rw [hr _ (by omega)]; exact b4, fun i hi => by rw [hr _ (by omega)]; exact b5 i hi⟩
theorem bf_loop {E : gE} {T : gT} {gi : gI} {g0 : gR} {dv nb : Nat} {bx od : Nat → Nat} {par : Nat → Option Nat} {B : Nat → BS} {i pos : Nat} {Q : gQ} (hS : DvS T g0 dv nb bx par od) (hB : DvB gi dv nb bx B) (hpos : pos < nb) (hi : od pos = i) (kx : ∀ gr : gR, (∀ a, a ≠ dv + 5 → gr a = g0 a) → (∀ k, k < nb → gr (dv + 5) k = some (bx (mvP od pos nb i k))) → Q T gi gr none) : ∀ (n j : Nat), j + n = nb → ∀ gr : gR, (∀ a, a ≠ dv + 5 → gr a = g0 a) → (∀ k, k < nb → gr (dv + 5) k = some (bx (odJ od pos nb i j k))) → G E mDV_bringToFront 4 [.ref dv, .ref (bx i), .int (nI (kpP pos j)), .int (nI j)] [] T gi gr 0 0 Q := by
  have hin : i < nb := by rw [← hi]; exact (hS.2.2.2.2.2.2.1 pos hpos).1
  have hn6 := hS.2.1.2
  intro n
  induction n with
  | zero =>
    intro j hj gr hr ho
    have hj : j = nb := by omega
    subst hj
    have hk := DvOk.gr hS.1 hr
    refine G_iload_n dDV_bringToFront_4 rfl ?_
    refine G_aload_n dDV_bringToFront_5 rfl ?_
    refine G_getI fDV_45 dDV_bringToFront_6 hk.1 ?_
    rw [hB.1]
    refine G_icmp_ge dDV_bringToFront_9 (fun h1 => ?_) (fun h1 => absurd (nI_le (by omega) (by omega)) h1)
    refine G_aload_n dDV_bringToFront_43 rfl ?_
    refine G_getRs fDV_22 dDV_bringToFront_44 hk.1 hk.2.2.2.2.1 ?_
    refine G_aload_n dDV_bringToFront_47 rfl ?_
    refine G_getI fDV_45 dDV_bringToFront_48 hk.1 ?_
    rw [hB.1]
    refine G_iconst (v := 1) dDV_bringToFront_51 (by decide) ?_
    refine G_isub dDV_bringToFront_52 ?_
    obtain ⟨m, rfl⟩ : ∃ m, j = m + 1 := ⟨j - 1, by omega⟩
    rw [nI_m1]
    refine G_aload_n dDV_bringToFront_53 rfl ?_
    refine G_aastsN 2 (C := "DamageView$Box") (Tb := TbBX) (N := 9) (ci := 4) dDV_bringToFront_54 (by decide) hk.2.2.2.2.2.2.2.1 hk.2.2.2.2.2.2.2.2.1 (by decide) (by omega) (hS.2.2.1 i hin).2.1.1 rfl rfl ?_
    refine G_return dDV_bringToFront_55 rfl (by decide) (by decide) (kx _ (fun a ha => by rw [gu_off ha]; exact hr a ha) (fun k hkn => ?_))
    by_cases e : k = m
    · subst e
      rw [gu_same]
      unfold mvP
      rw [if_neg (by omega), if_neg (by omega)]
    · rw [gu_ne (Or.inr e), ho k hkn]
      unfold odJ kpP
      rw [if_pos hpos, if_pos (by omega)]
  | succ n ih =>
    intro j hjn gr hr ho
    have hk := DvOk.gr hS.1 hr
    have hj : j < nb := by omega
    have hoj : gr (dv + 5) j = some (bx (od j)) := by
      rw [ho j hj]
      unfold odJ kpP
      rw [if_neg]
      split <;> omega
    have hodj := (hS.2.2.2.2.2.2.1 j hj).1
    refine G_iload_n dDV_bringToFront_4 rfl ?_
    refine G_aload_n dDV_bringToFront_5 rfl ?_
    refine G_getI fDV_45 dDV_bringToFront_6 hk.1 ?_
    rw [hB.1]
    refine G_icmp_ge dDV_bringToFront_9 (fun h1 => absurd h1 (nI_ge (by omega) (by omega))) (fun h1 => ?_)
    refine G_aload_n dDV_bringToFront_12 rfl ?_
    refine G_getRs fDV_22 dDV_bringToFront_13 hk.1 hk.2.2.2.2.1 ?_
    refine G_iload_n dDV_bringToFront_16 rfl ?_
    refine G_aaldsN 2 dDV_bringToFront_17 (by decide) hk.2.2.2.2.2.2.2.1 hk.2.2.2.2.2.2.2.2.1 (by decide) (by omega) hoj ?_
    refine G_aload_n dDV_bringToFront_18 rfl ?_
    refine G_acmp_eq (rx := some (bx (od j))) (ry := some (bx i)) rfl rfl dDV_bringToFront_19 (fun h2 => ?_) (fun h2 => ?_)
    · have e : od j = i := hS.inj hodj hin (Option.some.inj h2)
      have ep : j = pos := hS.2.2.2.2.2.2.2 j pos hj hpos (e.trans hi.symm)
      subst ep
      refine G_iinc (ls' := [.ref dv, .ref (bx i), .int (nI (kpP j j)), .int (nI (j + 1))]) dDV_bringToFront_37 rfl (nI_inc j) (by decide) rfl ?_
      refine G_goto dDV_bringToFront_40 ?_
      have ek : kpP j (j + 1) = kpP j j := by unfold kpP; rw [if_pos (by omega), if_neg (by omega)]; omega
      have := ih (j + 1) (by omega) gr hr (fun k hkn => by rw [ho k hkn]; unfold odJ; rw [ek])
      rw [ek] at this
      exact this
    · have ep : j ≠ pos := fun z => h2 (by rw [z, hi])
      have ek : kpP pos (j + 1) = kpP pos j + 1 := by unfold kpP; by_cases c : pos < j; rw [if_pos c, if_pos (by omega)]; omega; rw [if_neg c, if_neg (by omega)]
      have em : mvP od pos nb i (kpP pos j) = od j := by
        unfold mvP kpP
        by_cases c : pos < j
        · rw [if_pos c, if_neg (by omega), if_pos (by omega), show j - 1 + 1 = j by omega]
        · rw [if_neg c, if_pos (by omega)]
      have hkl : kpP pos j < nb := by unfold kpP; split <;> omega
      refine G_aload_n dDV_bringToFront_22 rfl ?_
      refine G_getRs fDV_22 dDV_bringToFront_23 hk.1 hk.2.2.2.2.1 ?_
      refine G_iload_n dDV_bringToFront_26 rfl ?_
      refine G_aload_n dDV_bringToFront_27 rfl ?_
      refine G_getRs fDV_22 dDV_bringToFront_28 hk.1 hk.2.2.2.2.1 ?_
      refine G_iload_n dDV_bringToFront_31 rfl ?_
      refine G_aaldsN 2 dDV_bringToFront_32 (by decide) hk.2.2.2.2.2.2.2.1 hk.2.2.2.2.2.2.2.2.1 (by decide) (by omega) hoj ?_
      refine G_aastsN 2 (C := "DamageView$Box") (Tb := TbBX) (N := 9) (ci := 4) dDV_bringToFront_33 (by decide) hk.2.2.2.2.2.2.2.1 hk.2.2.2.2.2.2.2.2.1 (by decide) (by omega) (hS.2.2.1 (od j) hodj).2.1.1 rfl rfl ?_
      refine G_iinc (ls' := [.ref dv, .ref (bx i), .int (nI (kpP pos j + 1)), .int (nI j)]) dDV_bringToFront_34 rfl (nI_inc _) (by decide) rfl ?_
      refine G_iinc (ls' := [.ref dv, .ref (bx i), .int (nI (kpP pos j + 1)), .int (nI (j + 1))]) dDV_bringToFront_37 rfl (nI_inc j) (by decide) rfl ?_
      refine G_goto dDV_bringToFront_40 ?_
      have := ih (j + 1) (by omega) (gu gr (dv + 5) (kpP pos j) (some (bx (od j)))) (fun a ha => by rw [gu_off ha]; exact hr a ha) (fun k hkn => ?_)
      · rw [ek] at this
        exact this
      · by_cases e : k = kpP pos j
        · subst e
          rw [gu_same]
          unfold odJ
          rw [if_pos (by omega), em]
        · rw [gu_ne (Or.inr e), ho k hkn]
          unfold odJ
          by_cases c : k < kpP pos j
          · rw [if_pos c, if_pos (by omega)]
          · rw [if_neg c, if_neg (by omega)]
theorem cDV_bringToFront {E : gE} {T : gT} {gi : gI} {gr : gR} {dv nb : Nat} {bx od : Nat → Nat} {par : Nat → Option Nat} {B : Nat → BS} {i pos : Nat} (hS : DvS T gr dv nb bx par od) (hB : DvB gi dv nb bx B) (hpos : pos < nb) (hi : od pos = i) : Ct E mDV_bringToFront [.ref dv, .ref (bx i)] T gi gr (fun T' gi' gr' v => T' = T ∧ gi' = gi ∧ v = none ∧ (∀ a, a ≠ dv + 5 → gr' a = gr a) ∧ ∀ k, k < nb → gr' (dv + 5) k = some (bx (mvP od pos nb i k))) := by
  refine Ct_of (ls := [.ref dv, .ref (bx i), .long 0, .long 0]) (by decide) (gcat_cons rfl (gcat_cons rfl gcat_nil)) (Nat.le_of_ble_eq_true rfl) rfl ?_
  refine G_iconst (v := nI 0) dDV_bringToFront_0 (by decide +kernel) ?_
  refine G_istore_n (ls' := [.ref dv, .ref (bx i), .int (nI 0), .long 0]) dDV_bringToFront_1 (by decide) rfl ?_
  refine G_iconst (v := nI 0) dDV_bringToFront_2 (by decide +kernel) ?_
  refine G_istore_n (ls' := [.ref dv, .ref (bx i), .int (nI 0), .int (nI 0)]) dDV_bringToFront_3 (by decide) rfl ?_
  have e0 : kpP pos 0 = 0 := by unfold kpP; rw [if_neg (Nat.not_lt_zero _)]
  have := bf_loop (E := E) (Q := fun T' gi' gr' v => T' = T ∧ gi' = gi ∧ v = none ∧ (∀ a, a ≠ dv + 5 → gr' a = gr a) ∧ ∀ k, k < nb → gr' (dv + 5) k = some (bx (mvP od pos nb i k))) hS hB hpos hi (fun g2 h1 h2 => ⟨rfl, rfl, rfl, h1, h2⟩) nb 0 (Nat.zero_add _) gr (fun _ _ => rfl) (fun k hk => by rw [(hS.2.2.2.2.2.2.1 k hk).2]; unfold odJ; rw [e0, if_neg (Nat.not_lt_zero _)])
  rw [e0] at this
  exact this
end
section
def faN (par : Nat → Option Nat) (pl : Nat → Int32) (B : Nat → BS) (i : Nat) : A4 := if (B i).2.2.2.1 = true then A0 else match par i with
  | none => fa4 pl (i * 4)
  | some p => arC (fa4 pl (i * 4)) (B p).2.2.2.2.2.1
def stA (β : BS) (q r : A4) : BS := (β.1, β.2.1, β.2.2.1, β.2.2.2.1, β.2.2.2.2.1, q, r)
def faB (par : Nat → Option Nat) (pl : Nat → Int32) (B : Nat → BS) : Nat → Nat → BS
  | 0 => B
  | i + 1 => gup (faB par pl B i) i (stA (faB par pl B i i) (faN par pl (faB par pl B i) i) (faB par pl B i i).2.2.2.2.2.1)
def attP (B : Nat → BS) (o : Option Nat) : Option Nat := match o with
  | none => none
  | some i => if chA (B i).1 (B i).2.2.2.2.2.1 then some i else none
def shL (B : Nat → BS) (fo pr : Option Nat) (D : Nat → Bool) : Nat → (Nat → BS) × (Nat → Bool)
  | 0 => (B, D)
  | i + 1 => (gup (shL B fo pr D i).1 i (shB i ((shL B fo pr D i).1 i) fo pr), shDm i ((shL B fo pr D i).1 i) fo pr (shL B fo pr D i).2)
theorem attP_lt {B : Nat → BS} {o : Option Nat} {nb : Nat} (h : ∀ i, o = some i → i < nb) : ∀ i, attP B o = some i → i < nb := by
  intro i hi
  cases o with
  | none => cases hi
  | some j =>
    unfold attP at hi
    dsimp only at hi
    split at hi
    · cases hi; exact h _ rfl
    · cases hi
theorem fa4_eq {f g : Nat → Int32} {k : Nat} (h : ∀ j, j < 24 → f j = g j) (hk : k + 3 < 24) : fa4 f k = fa4 g k := by
  unfold fa4
  rw [h k (by omega), h (k + 1) (by omega), h (k + 2) (by omega), h (k + 3) hk]
theorem DvB_area {T : gT} {gi gi' : gI} {gr : gR} {dv nb : Nat} {bx od : Nat → Nat} {par : Nat → Option Nat} {B : Nat → BS} {i : Nat} {q r : A4} (hS : DvS T gr dv nb bx par od) (hi : i < nb) (hB : DvB gi dv nb bx B) (h1 : ArIs gi' (bx i + 1) q) (h2 : ArIs gi' (bx i + 2) r) (hO : Off2 gi gi' (bx i)) : DvB gi' dv nb bx (gup B i (stA (B i) q r)) := by
  have hge := fun j (hj : j < nb) => (hS.2.2.1 j hj).2.2.2
  have hid := hge i hi
  refine ⟨by rw [hO dv (by omega) (by omega)]; exact hB.1, fun j hj => ?_⟩
  have hjd := hge j hj
  have hfar : j ≠ i → bx i + 3 ≤ bx j ∨ bx j + 3 ≤ bx i := fun hne => hS.far hi hj (fun z => hne z.symm)
  have e0 : gi' (bx j) = gi (bx j) := hO _ (by by_cases e : j = i; subst e; omega; have := hfar e; omega) (by by_cases e : j = i; subst e; omega; have := hfar e; omega)
  obtain ⟨b0, b1, b2, b3, b4, b5, b6, b7⟩ := hB.2 j hj
  by_cases e : j = i
  · subst e
    rw [gup_same]
    exact ⟨by rw [e0]; exact b0, by rw [e0]; exact b1, by rw [e0]; exact b2, by rw [e0]; exact b3, by rw [e0]; exact b4, by rw [e0]; exact b5, h1, h2⟩
  · rw [gup_ne e]
    have := hfar e
    unfold BxIs ArIs
    rw [e0, hO (bx j + 1) (by omega) (by omega), hO (bx j + 2) (by omega) (by omega)]
    exact hB.2 j hj
theorem DvS.grk {T : gT} {gr gr' : gR} {dv nb : Nat} {bx od : Nat → Nat} {par : Nat → Option Nat} (hS : DvS T gr dv nb bx par od) (h1 : ∀ a, a ≠ dv → gr' a = gr a) (h2 : ∀ k, k < 5 → gr' dv k = gr dv k) : DvS T gr' dv nb bx par od := by
  obtain ⟨⟨a1, a2, a3, a4, a5, a6, a7, a8, a9, ⟨s1, s2, s3, s4⟩, ⟨l1, l2, l3, l4, l5, l6, l7, l8, b1, b2, b3, b4, b5⟩⟩, c1, c2, c3, c4, c5, c6, c7⟩ := hS
  refine ⟨⟨a1, by rw [h2 0 (by decide)]; exact a2, by rw [h2 1 (by decide)]; exact a3, by rw [h2 2 (by decide)]; exact a4, by rw [h2 3 (by decide)]; exact a5, a6, a7, a8, a9, ⟨s1, by rw [h1 _ (by omega)]; exact s2, by rw [h1 _ (by omega)]; exact s3, s4⟩, ⟨l1, by rw [h1 _ (by omega)]; exact l2, by rw [h1 _ (by omega)]; exact l3, by rw [h1 _ (by omega)]; exact l4, l5, l6, l7, l8, b1, b2, b3, by rw [h1 _ (by omega)]; exact b4, fun i hi => by rw [h1 _ (by omega)]; exact b5 i hi⟩⟩, c1, fun i hi => ?_, c3, c4, c5, fun k hk => by rw [h1 _ (by omega)]; exact c6 k hk, c7⟩
  obtain ⟨d1, ⟨e1, e2, e3, e4⟩, d3, d4⟩ := c2 i hi
  exact ⟨by rw [h1 _ (by omega)]; exact d1, ⟨e1, by rw [h1 _ (by omega)]; exact e2, by rw [h1 _ (by omega)]; exact e3, e4⟩, by rw [h1 _ (by omega)]; exact d3, d4⟩
theorem sc_l1 {E : gE} {T : gT} {g0 : gI} {gr : gR} {dv nb : Nat} {bx od : Nat → Nat} {par : Nat → Option Nat} {B : Nat → BS} {pl : Nat → Int32} {Q : gQ} (hS : DvS T gr dv nb bx par od) (hP0 : PlIs g0 (dv + 6) pl) (kx : ∀ gi : gI, DvB gi dv nb bx (faB par pl B nb) → (∀ a, (∀ j, j < nb → a ≠ bx j + 1 ∧ a ≠ bx j + 2) → gi a = g0 a) → G E mDV_showChanges 32 [.ref dv, .int (nI nb)] [] T gi gr 0 0 Q) : ∀ (n i : Nat), i + n = nb → ∀ gi : gI, DvB gi dv nb bx (faB par pl B i) → (∀ a, (∀ j, j < nb → a ≠ bx j + 1 ∧ a ≠ bx j + 2) → gi a = g0 a) → G E mDV_showChanges 2 [.ref dv, .int (nI i)] [] T gi gr 0 0 Q := by
  have hn6 := hS.2.1.2
  have hL := hS.1.2.2.2.2.2.2.2.2.2.2
  intro n
  induction n with
  | zero =>
    intro i hi gi hB hO
    have hi : i = nb := by omega
    subst hi
    refine G_iload_n dDV_showChanges_2 rfl ?_
    refine G_aload_n dDV_showChanges_3 rfl ?_
    refine G_getI fDV_45 dDV_showChanges_4 hS.1.1 ?_
    rw [hB.1]
    exact G_icmp_ge dDV_showChanges_7 (fun h1 => kx gi hB hO) (fun h1 => absurd (nI_le (by omega) (by omega)) h1)
  | succ n ih =>
    intro i hin gi hB hO
    have hi : i < nb := by omega
    have hb := hS.2.2.1 i hi
    have hbi := hB.2 i hi
    have hP : ∀ j, j < 24 → gi (dv + 6 + 1) j = pl j := fun j hj => by
      rw [hO (dv + 6 + 1) (fun k hk => by have := (hS.2.2.1 k hk).2.2.2; omega)]
      exact hP0 j hj
    refine G_iload_n dDV_showChanges_2 rfl ?_
    refine G_aload_n dDV_showChanges_3 rfl ?_
    refine G_getI fDV_45 dDV_showChanges_4 hS.1.1 ?_
    rw [hB.1]
    refine G_icmp_ge dDV_showChanges_7 (fun h1 => absurd h1 (nI_ge (by omega) (by omega))) (fun h1 => ?_)
    refine G_aload_n dDV_showChanges_10 rfl ?_
    refine G_getRs fDV_18 dDV_showChanges_11 hS.1.1 hS.1.2.2.2.1 ?_
    refine G_iload_n dDV_showChanges_14 rfl ?_
    refine G_aaldsN 2 dDV_showChanges_15 (by decide) hS.1.2.2.2.2.2.1 hS.1.2.2.2.2.2.2.1 (by decide) (by omega) hb.1 ?_
    refine G_aload_n dDV_showChanges_16 rfl ?_
    refine G_getRs fDV_34 dDV_showChanges_17 hS.1.1 hS.1.2.1 ?_
    refine G_getRs fDV_90 dDV_showChanges_20 hL.1 hL.2.1 ?_
    have fin : ∀ g1 : gI, ArIs g1 (bx i + 2) (faB par pl B i i).2.2.2.2.2.1 → ArIs g1 (bx i + 1) (faN par pl (faB par pl B i) i) → Off2 gi g1 (bx i) → G E mDV_showChanges 26 [.ref dv, .int (nI i)] [] T g1 gr 0 0 Q := by
      intro g1 h2 h3 hO1
      refine G_iinc (ls' := [.ref dv, .int (nI (i + 1))]) dDV_showChanges_26 rfl (nI_inc i) (by decide) rfl ?_
      refine G_goto dDV_showChanges_29 ?_
      exact ih (i + 1) (by omega) g1 (DvB_area hS hi hB h3 h2 hO1) (fun a ha => by rw [hO1 a (ha i hi).1 (ha i hi).2]; exact hO a ha)
    cases hp : par i with
    | none =>
      refine G_callV (As := [.ref (dv + 6 + 1)]) (rest := []) gDV_showChanges_BX_findArea lDV_198.1 lDV_198.2.1 lDV_198.2.2.1 lDV_198.2.2.2 dDV_showChanges_23 rfl (Nat.le_of_ble_eq_true rfl) hb.2.1.1 ⟨by decide, by decide⟩ (cBX_findArea0 hb.2.1 hbi.2.2.2.2.2.2.1 hbi.1 (by omega) hbi.2.2.2.2.1 ⟨hL.2.2.2.2.1, hL.2.2.2.2.2.1⟩ (by have := hb.2.2.2; omega) (by rw [hb.2.2.1, hp]; rfl)) ?_
      rintro _ g1 _ _ ⟨rfl, rfl, rfl, h2, h3, hO1⟩
      refine fin g1 h2 ?_ hO1
      unfold faN
      rw [hp]
      dsimp only
      rw [← fa4_eq hP (by omega)]
      exact h3
    | some p =>
      have hpi := hS.2.2.2.1 i p hi hp
      have hpn : p < nb := by omega
      have hsp := hS.2.2.2.2.2.1 p i hpi hi
      refine G_callV (As := [.ref (dv + 6 + 1)]) (rest := []) gDV_showChanges_BX_findArea lDV_198.1 lDV_198.2.1 lDV_198.2.2.1 lDV_198.2.2.2 dDV_showChanges_23 rfl (Nat.le_of_ble_eq_true rfl) hb.2.1.1 ⟨by decide, by decide⟩ (cBX_findArea1 (pb := bx p) hb.2.1 hbi.2.2.2.2.2.2.1 hbi.1 (by omega) hbi.2.2.2.2.1 ⟨hL.2.2.2.2.1, hL.2.2.2.2.2.1⟩ (by have := hb.2.2.2; omega) (by rw [hb.2.2.1, hp]; rfl) (hS.2.2.1 p hpn).2.1 (hB.2 p hpn).2.2.2.2.2.2.1 (by omega)) ?_
      rintro _ g1 _ _ ⟨rfl, rfl, rfl, h2, h3, hO1⟩
      refine fin g1 h2 ?_ hO1
      unfold faN
      rw [hp]
      dsimp only
      rw [← fa4_eq hP (by omega)]
      exact h3
theorem sc_fo {E : gE} {T : gT} {gi : gI} {gr : gR} {dv nb : Nat} {bx od : Nat → Nat} {par : Nat → Option Nat} {B : Nat → BS} {o : Option Nat} {Q : gQ} {v1 : Value} (hS : DvS T gr dv nb bx par od) (hB : DvB gi dv nb bx B) (ho : gr dv 5 = o.map bx) (hlt : ∀ i, o = some i → i < nb) (kx : ∀ gr' : gR, (∀ a, a ≠ dv → gr' a = gr a) → (∀ k, k ≠ 5 → gr' dv k = gr dv k) → gr' dv 5 = (attP B o).map bx → G E mDV_showChanges 54 [.ref dv, v1] [] T gi gr' 0 0 Q) : G E mDV_showChanges 32 [.ref dv, v1] [] T gi gr 0 0 Q := by
  refine G_aload_n dDV_showChanges_32 rfl ?_
  refine G_getR fDV_137 dDV_showChanges_33 hS.1.1 ?_
  rw [ho]
  cases o with
  | none =>
    refine G_ifnullN dDV_showChanges_36 ?_
    exact kx gr (fun _ _ => rfl) (fun _ _ => rfl) ho
  | some i =>
    have hi := hlt i rfl
    have hb := hS.2.2.1 i hi
    have hbi := hB.2 i hi
    refine G_ifnull (a := bx i) dDV_showChanges_36 ?_
    refine G_aload_n dDV_showChanges_39 rfl ?_
    refine G_getRs (q := bx i) fDV_137 dDV_showChanges_40 hS.1.1 ho ?_
    refine G_callV (As := []) (rest := []) gDV_showChanges_BX_canHaveAttention lDV_133.1 lDV_133.2.1 lDV_133.2.2.1 lDV_133.2.2.2 dDV_showChanges_43 rfl (Nat.le_of_ble_eq_true rfl) hb.2.1.1 ⟨by decide, by decide⟩ (cBX_canHaveAttention hb.2.1 hbi.2.1 hbi.2.2.2.2.2.2.1) ?_
    rintro _ _ _ _ ⟨rfl, rfl, rfl, rfl⟩
    refine G_st (st' := [.int (if chA (B i).1 (B i).2.2.2.2.2.1 then 1 else 0)]) rfl ?_
    refine G_if_ne dDV_showChanges_46 (fun h1 => ?_) (fun h1 => ?_)
    · have hc : chA (B i).1 (B i).2.2.2.2.2.1 := by
        by_cases c : chA (B i).1 (B i).2.2.2.2.2.1
        · exact c
        · exact absurd (if_neg c) h1
      refine kx _ (fun _ _ => rfl) (fun _ _ => rfl) ?_
      rw [ho]
      unfold attP
      dsimp only
      rw [if_pos hc]
    · have hc : ¬ chA (B i).1 (B i).2.2.2.2.2.1 := fun c => by rw [if_pos c] at h1; exact absurd h1 (by decide)
      refine G_aload_n dDV_showChanges_49 rfl ?_
      refine G_null dDV_showChanges_50 ?_
      refine G_putR (r := none) rfl wDV_137 (Or.inl rfl) dDV_showChanges_51 hS.1.1 (nr_o _) (ft_o _) ?_
      refine kx _ (fun a ha => gu_off ha) (fun k hk => gu_ne (Or.inr hk)) ?_
      rw [gu_same]
      unfold attP
      dsimp only
      rw [if_neg hc]
      rfl
theorem sc_pr {E : gE} {T : gT} {gi : gI} {gr : gR} {dv nb : Nat} {bx od : Nat → Nat} {par : Nat → Option Nat} {B : Nat → BS} {o : Option Nat} {Q : gQ} {v1 : Value} (hS : DvS T gr dv nb bx par od) (hB : DvB gi dv nb bx B) (ho : gr dv 6 = o.map bx) (hlt : ∀ i, o = some i → i < nb) (kx : ∀ gr' : gR, (∀ a, a ≠ dv → gr' a = gr a) → (∀ k, k ≠ 6 → gr' dv k = gr dv k) → gr' dv 6 = (attP B o).map bx → G E mDV_showChanges 76 [.ref dv, v1] [] T gi gr' 0 0 Q) : G E mDV_showChanges 54 [.ref dv, v1] [] T gi gr 0 0 Q := by
  refine G_aload_n dDV_showChanges_54 rfl ?_
  refine G_getR fDV_129 dDV_showChanges_55 hS.1.1 ?_
  rw [ho]
  cases o with
  | none =>
    refine G_ifnullN dDV_showChanges_58 ?_
    exact kx gr (fun _ _ => rfl) (fun _ _ => rfl) ho
  | some i =>
    have hi := hlt i rfl
    have hb := hS.2.2.1 i hi
    have hbi := hB.2 i hi
    refine G_ifnull (a := bx i) dDV_showChanges_58 ?_
    refine G_aload_n dDV_showChanges_61 rfl ?_
    refine G_getRs (q := bx i) fDV_129 dDV_showChanges_62 hS.1.1 ho ?_
    refine G_callV (As := []) (rest := []) gDV_showChanges_BX_canHaveAttention lDV_133.1 lDV_133.2.1 lDV_133.2.2.1 lDV_133.2.2.2 dDV_showChanges_65 rfl (Nat.le_of_ble_eq_true rfl) hb.2.1.1 ⟨by decide, by decide⟩ (cBX_canHaveAttention hb.2.1 hbi.2.1 hbi.2.2.2.2.2.2.1) ?_
    rintro _ _ _ _ ⟨rfl, rfl, rfl, rfl⟩
    refine G_st (st' := [.int (if chA (B i).1 (B i).2.2.2.2.2.1 then 1 else 0)]) rfl ?_
    refine G_if_ne dDV_showChanges_68 (fun h1 => ?_) (fun h1 => ?_)
    · have hc : chA (B i).1 (B i).2.2.2.2.2.1 := by
        by_cases c : chA (B i).1 (B i).2.2.2.2.2.1
        · exact c
        · exact absurd (if_neg c) h1
      refine kx _ (fun _ _ => rfl) (fun _ _ => rfl) ?_
      rw [ho]
      unfold attP
      dsimp only
      rw [if_pos hc]
    · have hc : ¬ chA (B i).1 (B i).2.2.2.2.2.1 := fun c => by rw [if_pos c] at h1; exact absurd h1 (by decide)
      refine G_aload_n dDV_showChanges_71 rfl ?_
      refine G_null dDV_showChanges_72 ?_
      refine G_putR (r := none) rfl wDV_129 (Or.inl rfl) dDV_showChanges_73 hS.1.1 (nr_o _) (ft_o _) ?_
      refine kx _ (fun a ha => gu_off ha) (fun k hk => gu_ne (Or.inr hk)) ?_
      rw [gu_same]
      unfold attP
      dsimp only
      rw [if_neg hc]
      rfl
theorem sc_l3 {E : gE} {T : gT} {g0 : gI} {gr : gR} {dv nb : Nat} {bx od : Nat → Nat} {par : Nat → Option Nat} {B : Nat → BS} {fo pr : Option Nat} {D : Nat → Bool} {Q : gQ} (hS : DvS T gr dv nb bx par od) (hF : DvF gr dv nb bx fo pr) (kx : ∀ gi : gI, DvB gi dv nb bx (shL B fo pr D nb).1 → DmIs gi (dv + 1) (shL B fo pr D nb).2 → (∀ a, (∀ j, j < nb → a ≠ bx j) → a ≠ dv + 1 + 2 → gi a = g0 a) → Q T gi gr none) : ∀ (n i : Nat), i + n = nb → ∀ gi : gI, DvB gi dv nb bx (shL B fo pr D i).1 → DmIs gi (dv + 1) (shL B fo pr D i).2 → (∀ a, (∀ j, j < nb → a ≠ bx j) → a ≠ dv + 1 + 2 → gi a = g0 a) → G E mDV_showChanges 78 [.ref dv, .int (nI i)] [] T gi gr 0 0 Q := by
  have hn6 := hS.2.1.2
  intro n
  induction n with
  | zero =>
    intro i hi gi hB hD hO
    have hi : i = nb := by omega
    subst hi
    refine G_iload_n dDV_showChanges_78 rfl ?_
    refine G_aload_n dDV_showChanges_79 rfl ?_
    refine G_getI fDV_45 dDV_showChanges_80 hS.1.1 ?_
    rw [hB.1]
    refine G_icmp_ge dDV_showChanges_83 (fun h1 => ?_) (fun h1 => absurd (nI_le (by omega) (by omega)) h1)
    exact G_return dDV_showChanges_102 rfl (by decide) (by decide) (kx gi hB hD hO)
  | succ n ih =>
    intro i hin gi hB hD hO
    have hi : i < nb := by omega
    refine G_iload_n dDV_showChanges_78 rfl ?_
    refine G_aload_n dDV_showChanges_79 rfl ?_
    refine G_getI fDV_45 dDV_showChanges_80 hS.1.1 ?_
    rw [hB.1]
    refine G_icmp_ge dDV_showChanges_83 (fun h1 => absurd h1 (nI_ge (by omega) (by omega))) (fun h1 => ?_)
    refine G_aload_n dDV_showChanges_86 rfl ?_
    refine G_aload_n dDV_showChanges_87 rfl ?_
    refine G_getRs fDV_18 dDV_showChanges_88 hS.1.1 hS.1.2.2.2.1 ?_
    refine G_iload_n dDV_showChanges_91 rfl ?_
    refine G_aaldsN 2 dDV_showChanges_92 (by decide) hS.1.2.2.2.2.2.1 hS.1.2.2.2.2.2.2.1 (by decide) (by omega) (hS.2.2.1 i hi).1 ?_
    refine G_callV (As := [.ref (bx i)]) (rest := []) gDV_showChanges_DV_showBox lDV_202.1 lDV_202.2.1 lDV_202.2.2.1 lDV_202.2.2.2 dDV_showChanges_93 rfl (Nat.le_of_ble_eq_true rfl) hS.1.1 ⟨by decide, by decide⟩ (cDV_showBox hS hB hF hD hi) ?_
    rintro _ g1 _ _ ⟨rfl, rfl, rfl, hB1, hD1, hO1⟩
    refine G_st (st' := []) rfl ?_
    refine G_iinc (ls' := [.ref dv, .int (nI (i + 1))]) dDV_showChanges_96 rfl (nI_inc i) (by decide) rfl ?_
    refine G_goto dDV_showChanges_99 ?_
    exact ih (i + 1) (by omega) g1 hB1 hD1 (fun a h2 h3 => by rw [hO1 a (h2 i hi) h3]; exact hO a h2 h3)
def scB (par : Nat → Option Nat) (pl : Nat → Int32) (B : Nat → BS) (nb : Nat) : Nat → BS := faB par pl B nb
def scS (par : Nat → Option Nat) (pl : Nat → Int32) (B : Nat → BS) (nb : Nat) (fo pr : Option Nat) (D : Nat → Bool) : (Nat → BS) × (Nat → Bool) := shL (scB par pl B nb) (attP (scB par pl B nb) fo) (attP (scB par pl B nb) pr) D nb
def DvOff (gi gi' : gI) (dv nb : Nat) (bx : Nat → Nat) : Prop := ∀ a, (∀ j, j < nb → a < bx j ∨ bx j + 2 < a) → a ≠ dv + 3 → gi' a = gi a
theorem cDV_showChanges {E : gE} {T : gT} {gi : gI} {gr : gR} {dv nb : Nat} {bx od : Nat → Nat} {par : Nat → Option Nat} {B : Nat → BS} {pl : Nat → Int32} {fo pr : Option Nat} {D : Nat → Bool} (hS : DvS T gr dv nb bx par od) (hB : DvB gi dv nb bx B) (hF : DvF gr dv nb bx fo pr) (hP : PlIs gi (dv + 6) pl) (hD : DmIs gi (dv + 1) D) : Ct E mDV_showChanges [.ref dv] T gi gr (fun T' gi' gr' v => T' = T ∧ v = none ∧ (∀ a, a ≠ dv → gr' a = gr a) ∧ (∀ k, k < 5 → gr' dv k = gr dv k) ∧ DvF gr' dv nb bx (attP (scB par pl B nb) fo) (attP (scB par pl B nb) pr) ∧ DvB gi' dv nb bx (scS par pl B nb fo pr D).1 ∧ DmIs gi' (dv + 1) (scS par pl B nb fo pr D).2 ∧ DvOff gi gi' dv nb bx) := by
  refine Ct_of (ls := [.ref dv, .long 0]) (by decide) (gcat_cons rfl gcat_nil) (Nat.le_of_ble_eq_true rfl) rfl ?_
  refine G_iconst (v := nI 0) dDV_showChanges_0 (by decide +kernel) ?_
  refine G_istore_n (ls' := [.ref dv, .int (nI 0)]) dDV_showChanges_1 (by decide) rfl ?_
  refine sc_l1 (B := B) hS hP (fun g1 hB1 hO1 => ?_) nb 0 (Nat.zero_add _) gi hB (fun _ _ => rfl)
  refine sc_fo hS hB1 hF.1 hF.2.2.1 (fun r1 e1 e2 e3 => ?_)
  have hS1 : DvS T r1 dv nb bx par od := hS.grk e1 (fun k hk => e2 k (by omega))
  refine sc_pr hS1 hB1 ((e2 6 (by decide)).trans hF.2.1) hF.2.2.2 (fun r2 f1 f2 f3 => ?_)
  have hS2 : DvS T r2 dv nb bx par od := hS1.grk f1 (fun k hk => f2 k (by omega))
  have hF2 : DvF r2 dv nb bx (attP (scB par pl B nb) fo) (attP (scB par pl B nb) pr) := ⟨(f2 5 (by decide)).trans e3, f3, attP_lt hF.2.2.1, attP_lt hF.2.2.2⟩
  refine G_iconst (v := nI 0) dDV_showChanges_76 (by decide +kernel) ?_
  refine G_istore_n (ls' := [.ref dv, .int (nI 0)]) dDV_showChanges_77 (by decide) rfl ?_
  refine sc_l3 (B := scB par pl B nb) (D := D) hS2 hF2 (fun g3 hB3 hD3 hO3 => ⟨rfl, rfl, fun a ha => (f1 a ha).trans (e1 a ha), fun k hk => (f2 k (by omega)).trans (e2 k (by omega)), hF2, hB3, hD3, fun a h1 h2 => ?_⟩) nb 0 (Nat.zero_add _) g1 hB1 (fun j hj => ?_) (fun _ _ _ => rfl)
  · rw [hO1 (dv + 1 + 2) (fun k hk => by have := (hS.2.2.1 k hk).2.2.2; omega)]
    exact hD j hj
  · rw [hO3 a (fun j hj => by have := h1 j hj; omega) h2]
    exact hO1 a (fun j hj => by have := h1 j hj; omega)
end
section
def nwB (kd : Int32) (n : Nat) : BS := (kd, 1 + nI n, 0, false, false, A0, A0)
def AdF (T T' : gT) (gi gi' : gI) (gr gr' : gR) (dv sz : Nat) : Prop := ∀ a, a < sz → T'.1 a = T.1 a ∧ T'.2.1 a = T.2.1 a ∧ (a ≠ dv → a ≠ dv + 6 → gi' a = gi a) ∧ (a ≠ dv + 4 → a ≠ dv + 5 → gr' a = gr a)
theorem cDV_addBox {E : gE} {T : gT} {gi : gI} {gr : gR} {dv nb nb0 : Nat} {bx od : Nat → Nat} {par : Nat → Option Nat} {B : Nat → BS} {w h kd : Int32} {p : Option Nat} {sz : Nat} (hS : DvS T gr dv nb bx par od) (hB : DvB gi dv nb bx B) (hL : LaIs gi (dv + 6) nb0 w h) (hn : nb < 6) (hsz : T.2.2 = sz) (hd : dv + 35 ≤ sz) (hbs : ∀ i, i < nb → bx i + 3 ≤ sz) (hp : ∀ j, p = some j → j < nb) (hp0 : p = none ↔ nb = 0) : Ct E mDV_addBox [.ref dv, .int kd, va_rf (p.map bx)] T gi gr (fun T' gi' gr' v => v = some (.int (nI nb)) ∧ T'.2.2 = sz + 3 ∧ DvS T' gr' dv (nb + 1) (gup bx nb sz) (gup par nb p) (gup od nb nb) ∧ DvB gi' dv (nb + 1) (gup bx nb sz) (gup B nb (nwB kd nb)) ∧ LaIs gi' (dv + 6) (nb + 1) w h ∧ AdF T T' gi gi' gr gr' dv sz) := by
  have hn6 := hS.2.1.2
  refine Ct_of (ls := [.ref dv, .int kd, va_rf (p.map bx), .long 0, .long 0]) (by decide) (gcat_cons rfl (gcat_cons rfl (gcat_cons (va_rf_cat _) gcat_nil))) (Nat.le_of_ble_eq_true rfl) rfl ?_
  refine G_aload_n dDV_addBox_0 rfl ?_
  refine G_getI fDV_45 dDV_addBox_1 hS.1.1 ?_
  rw [hB.1]
  refine G_istore_n (ls' := [.ref dv, .int kd, va_rf (p.map bx), .int (nI nb), .long 0]) dDV_addBox_4 (by decide) rfl ?_
  refine G_newA (a := sz) nwDV_16 dDV_addBox_5 hsz (by decide) (by decide) ?_
  refine G_dup dDV_addBox_8 rfl ?_
  refine G_iload_n dDV_addBox_9 rfl ?_
  refine G_iload_n dDV_addBox_10 rfl ?_
  refine G_aload_nq dDV_addBox_11 rfl ?_
  refine G_callI (As := [.int (nI nb), .int kd, va_rf (p.map bx)]) (rest := [.ref sz]) gDV_addBox_BX_init lDV_171.1 lDV_171.2 rfl rfl dDV_addBox_12 rfl (Nat.le_of_ble_eq_true rfl) ⟨by decide, by decide⟩ (cBX_init (b := sz) gNa_new rfl gup_same) ?_
  rintro T1 g1 r1 _ ⟨rfl, hb, hs1, hb2, hb0, hbi, hF⟩
  refine G_st (st' := [.ref sz]) rfl ?_
  have eT : ∀ a, a < sz → T1.1 a = T.1 a := fun a ha => (hF a ha).1.trans (gup_ne (by omega))
  have eL : ∀ a, a < sz → T1.2.1 a = T.2.1 a := fun a ha => (hF a ha).2.1.trans (gup_ne (by omega))
  have eG : ∀ a, a < sz → g1 a = gi a := fun a ha => (hF a ha).2.2.1.trans (gup_ne (by omega))
  have eR : ∀ a, a < sz → r1 a = gr a := fun a ha => (hF a ha).2.2.2.trans (gup_ne (by omega))
  obtain ⟨⟨a1, a2, a3, a4, a5, a6, a7, a8, a9, ⟨s1, s2, s3, s4, s5, s6, s7⟩, ⟨l1, l2, l3, l4, l5, l6, l7, l8, b1, b2, b3, b4, b5⟩⟩, c1, c2, c3, c4, c5, c6, c7⟩ := hS
  have t0 : T1.1 dv = 1 := (eT dv (by omega)).trans a1
  have t4 : T1.1 (dv + 4) = 102 := (eT _ (by omega)).trans a6
  have t4l : T1.2.1 (dv + 4) = 6 := (eL _ (by omega)).trans a7
  have t5 : T1.1 (dv + 5) = 102 := (eT _ (by omega)).trans a8
  have t5l : T1.2.1 (dv + 5) = 6 := (eL _ (by omega)).trans a9
  have t6 : T1.1 (dv + 6) = 3 := (eT _ (by omega)).trans l1
  refine G_astore (ls' := [.ref dv, .int kd, va_rf (p.map bx), .int (nI nb), .ref sz]) dDV_addBox_15 (by decide) rfl ?_
  refine G_aload_n dDV_addBox_17 rfl ?_
  refine G_getRs fDV_18 dDV_addBox_18 t0 (by rw [eR dv (by omega)]; exact a4) ?_
  refine G_iload_n dDV_addBox_21 rfl ?_
  refine G_aload dDV_addBox_22 rfl ?_
  refine G_aastsN 2 (C := "DamageView$Box") (Tb := TbBX) (N := 9) (ci := 4) dDV_addBox_24 (by decide) t4 t4l (by decide) hn hb.1 rfl rfl ?_
  refine G_aload_n dDV_addBox_25 rfl ?_
  refine G_getRs fDV_22 dDV_addBox_26 t0 (by rw [gu_off (by omega), eR dv (by omega)]; exact a5) ?_
  refine G_iload_n dDV_addBox_29 rfl ?_
  refine G_aload dDV_addBox_30 rfl ?_
  refine G_aastsN 2 (C := "DamageView$Box") (Tb := TbBX) (N := 9) (ci := 4) dDV_addBox_32 (by decide) t5 t5l (by decide) hn hb.1 rfl rfl ?_
  refine G_aload_n dDV_addBox_33 rfl ?_
  refine G_dup dDV_addBox_34 rfl ?_
  refine G_getI fDV_45 dDV_addBox_35 t0 ?_
  rw [eG dv (by omega), hB.1]
  refine G_iconst (v := 1) dDV_addBox_38 (by decide) ?_
  refine G_iadd dDV_addBox_39 ?_
  rw [nI_1]
  refine G_putI wDV_45 (Or.inl rfl) dDV_addBox_40 t0 rfl rfl ?_
  refine G_aload_n dDV_addBox_43 rfl ?_
  refine G_getRs fDV_34 dDV_addBox_44 t0 (by rw [gu_off (by omega), gu_off (by omega), eR dv (by omega)]; exact a2) ?_
  refine G_aload_n dDV_addBox_47 rfl ?_
  refine G_getI fDV_45 dDV_addBox_48 t0 ?_
  rw [gu_same]
  refine G_iconst (v := 4) dDV_addBox_51 (by decide) ?_
  refine G_imul dDV_addBox_52 ?_
  rw [nI_x4]
  refine G_putI wDV_174 (Or.inl rfl) dDV_addBox_53 t6 rfl rfl ?_
  refine G_iload_n dDV_addBox_56 rfl ?_
  generalize hr2 : gu (gu r1 (dv + 4) nb (some sz)) (dv + 5) nb (some sz) = r2
  generalize hg2 : gu (gu g1 dv 4 (nI (nb + 1))) (dv + 6) 1 (nI ((nb + 1) * 4)) = g2
  have f1 : ∀ a, a ≠ dv + 4 → a ≠ dv + 5 → r2 a = r1 a := fun a h1 h2 => by rw [← hr2, gu_off h2, gu_off h1]
  have f1' : ∀ a, a < sz → a ≠ dv + 4 → a ≠ dv + 5 → r2 a = gr a := fun a h0 h1 h2 => (f1 a h1 h2).trans (eR a h0)
  have f2 : ∀ a, a ≠ dv → a ≠ dv + 6 → g2 a = g1 a := fun a h1 h2 => by rw [← hg2, gu_off h2, gu_off h1]
  have f4 : ∀ k, r2 (dv + 4) k = if k = nb then some sz else gr (dv + 4) k := fun k => by rw [← hr2, gu_off (by omega), gu_row, eR _ (by omega)]
  have f5 : ∀ k, r2 (dv + 5) k = if k = nb then some sz else gr (dv + 5) k := fun k => by rw [← hr2, gu_row, gu_off (by omega), eR _ (by omega)]
  refine G_ireturn dDV_addBox_57 rfl rfl (by decide) (by decide) ⟨rfl, hs1, ⟨⟨t0, ?_, ?_, ?_, ?_, t4, t4l, t5, t5l, ⟨?_, ?_, ?_, ?_, ?_, ?_, ?_⟩, ?_⟩, ⟨Nat.zero_le _, by omega⟩, fun i hi => ?_, fun i q hi hq => ?_, fun i hi => ?_, fun i j hij hj => ?_, fun k hk => ?_, fun k l hk hl e => ?_⟩, ⟨?_, fun i hi => ?_⟩, ⟨?_, ?_, ?_⟩, fun a ha => ⟨eT a ha, eL a ha, fun h1 h2 => (f2 a h1 h2).trans (eG a ha), fun h1 h2 => f1' a ha h1 h2⟩⟩
  · rw [f1' dv (by omega) (by omega) (by omega)]; exact a2
  · rw [f1' dv (by omega) (by omega) (by omega)]; exact a3
  · rw [f1' dv (by omega) (by omega) (by omega)]; exact a4
  · rw [f1' dv (by omega) (by omega) (by omega)]; exact a5
  · exact (eT _ (by omega)).trans s1
  · rw [f1' _ (by omega) (by omega) (by omega)]; exact s2
  · rw [f1' _ (by omega) (by omega) (by omega)]; exact s3
  · exact (eT _ (by omega)).trans s4
  · exact (eL _ (by omega)).trans s5
  · exact (eT _ (by omega)).trans s6
  · exact (eL _ (by omega)).trans s7
  · refine ⟨t6, ?_, ?_, ?_, (eT _ (by omega)).trans l5, (eL _ (by omega)).trans l6, (eT _ (by omega)).trans l7, (eL _ (by omega)).trans l8, (eT _ (by omega)).trans b1, (eT _ (by omega)).trans b2, (eL _ (by omega)).trans b3, ?_, fun i hi => ⟨?_, (eT _ (by omega)).trans (b5 i hi).2.1, (eL _ (by omega)).trans (b5 i hi).2.2⟩⟩
    · rw [f1' _ (by omega) (by omega) (by omega)]; exact l2
    · rw [f1' _ (by omega) (by omega) (by omega)]; exact l3
    · rw [f1' _ (by omega) (by omega) (by omega)]; exact l4
    · rw [f1' _ (by omega) (by omega) (by omega)]; exact b4
    · rw [f1' _ (by omega) (by omega) (by omega)]; exact (b5 i hi).1
  · by_cases e : i = nb
    · subst e
      rw [gup_same, gup_same, f4, if_pos rfl]
      refine ⟨rfl, ⟨hb.1, ?_, ?_, hb.2.2.2⟩, ?_, hd⟩
      · rw [f1 sz (by omega) (by omega)]; exact hb.2.1
      · rw [f1 sz (by omega) (by omega)]; exact hb.2.2.1
      · rw [f1 sz (by omega) (by omega), hb2]
        cases p with
        | none => rfl
        | some j => simp only [Option.map_some]; rw [gup_ne (by have := hp j rfl; omega)]
    · have hi' : i < nb := by omega
      have hbi' := hbs i hi'
      obtain ⟨d1, ⟨e1, e2, e3, e4, e5⟩, d3, d4⟩ := c2 i hi'
      rw [gup_ne e, gup_ne e, f4, if_neg e]
      refine ⟨d1, ⟨(eT _ (by omega)).trans e1, ?_, ?_, (eT _ (by omega)).trans e4, (eT _ (by omega)).trans e5⟩, ?_, d4⟩
      · rw [f1' _ (by omega) (by omega) (by omega)]; exact e2
      · rw [f1' _ (by omega) (by omega) (by omega)]; exact e3
      · rw [f1' _ (by omega) (by omega) (by omega), d3]
        cases hq : par i with
        | none => rfl
        | some j => simp only [Option.map_some]; rw [gup_ne (by have := c3 i j hi' hq; omega)]
  · by_cases e : i = nb
    · subst e; rw [gup_same] at hq; exact hp q hq
    · rw [gup_ne e] at hq; exact c3 i q (by omega) hq
  · by_cases e : i = nb
    · subst e; rw [gup_same]; exact hp0
    · rw [gup_ne e]; exact c4 i (by omega)
  · by_cases e : j = nb
    · subst e; rw [gup_same, gup_ne (by omega)]; exact hbs i hij
    · rw [gup_ne e, gup_ne (by omega)]; exact c5 i j hij (by omega)
  · by_cases e : k = nb
    · subst e; rw [gup_same, gup_same, f5, if_pos rfl]; exact ⟨by omega, rfl⟩
    · rw [gup_ne e, f5, if_neg e]
      have := c6 k (by omega)
      rw [gup_ne (by omega)]
      exact ⟨by omega, this.2⟩
  · by_cases e1 : k = nb
    · by_cases e2 : l = nb
      · omega
      · rw [e1, gup_same, gup_ne e2] at e
        have := (c6 l (by omega)).1
        omega
    · by_cases e2 : l = nb
      · rw [e2, gup_same, gup_ne e1] at e
        have := (c6 k (by omega)).1
        omega
      · rw [gup_ne e1, gup_ne e2] at e
        exact c7 k l (by omega) (by omega) e
  · rw [← hg2, gu_off (by omega), gu_same]
  · by_cases e : i = nb
    · subst e
      rw [gup_same, gup_same]
      unfold BxIs ArIs
      rw [f2 sz (by omega) (by omega), f2 (sz + 1) (by omega) (by omega), f2 (sz + 2) (by omega) (by omega)]
      exact ⟨hb0, hbi⟩
    · have hi' : i < nb := by omega
      have hbi' := hbs i hi'
      have hge := (c2 i hi').2.2.2
      rw [gup_ne e, gup_ne e]
      unfold BxIs ArIs
      rw [f2 _ (by omega) (by omega), f2 (bx i + 1) (by omega) (by omega), f2 (bx i + 2) (by omega) (by omega), eG _ (by omega), eG (bx i + 1) (by omega), eG (bx i + 2) (by omega)]
      exact hB.2 i hi'
  · rw [← hg2, gu_same, Nat.mul_comm]
  · rw [← hg2, gu_ne (Or.inr (by decide)), gu_off (by omega), eG _ (by omega)]; exact hL.2.1
  · rw [← hg2, gu_ne (Or.inr (by decide)), gu_off (by omega), eG _ (by omega)]; exact hL.2.2
end
section
theorem Ct_imp {E : gE} {X : gX} {As : List Value} {T : gT} {gi : gI} {gr : gR} {Q Q' : gQ} (h : Ct E X As T gi gr Q) (hQ : ∀ T' gi' gr' v, Q T' gi' gr' v → Q' T' gi' gr' v) : Ct E X As T gi gr Q' := by
  intro p e ha hc hk s m args below hf happ hP hK
  obtain ⟨k, o, h1, h2, h3, ⟨T', gi', gr', v, q1, q2, q3⟩, q4⟩ := h p e ha hc hk s m args below hf happ hP hK
  exact ⟨k, o, h1, h2, h3, ⟨T', gi', gr', v, q1, hQ _ _ _ _ q2, q3⟩, q4⟩
def CAd (T : gT) (dv nb : Nat) (bx cx : Nat → Nat) (cs : Nat → Option K5) : Prop := (1 ≤ nb ∧ bx 0 = dv + 35 ∧ dv + 38 ≤ T.2.2) ∧ (∀ i, 1 ≤ i → i < nb → dv + 61 ≤ bx i) ∧ (∀ i, i < nb → bx i + 3 ≤ T.2.2) ∧ ∀ i, i < 16 → cs i ≠ none → dv + 61 ≤ cx i ∧ cx i < T.2.2 ∧ ∀ j, j < nb → cx i < bx j ∨ bx j + 2 < cx i
def CInv (T : gT) (gi : gI) (gr : gR) (dv nb : Nat) (bx cx od : Nat → Nat) (par : Nat → Option Nat) (B : Nat → BS) (fo pr : Option Nat) (w h : Int32) (pl : Nat → Int32) (cs : Nat → Option K5) (D : Nat → Bool) (F : Nat → Int32) : Prop := DvS T gr dv nb bx par od ∧ DvB gi dv nb bx B ∧ DvF gr dv nb bx fo pr ∧ LaIs gi (dv + 6) nb w h ∧ PlIs gi (dv + 6) pl ∧ CsIs T gi gr (dv + 6) cs cx ∧ BdAny gi (dv + 6) ∧ DmIs gi (dv + 1) D ∧ FrIs gi (dv + 1) F ∧ CAd T dv nb bx cx cs
def CFr (T T' : gT) (gi gi' : gI) (gr gr' : gR) (dv : Nat) : Prop := T.2.2 ≤ T'.2.2 ∧ ∀ a, dv + 38 ≤ a → a < dv + 61 → T'.1 a = T.1 a ∧ T'.2.1 a = T.2.1 a ∧ gi' a = gi a ∧ gr' a = gr a
theorem CFr.rf {T : gT} {gi : gI} {gr : gR} {dv : Nat} : CFr T T gi gi gr gr dv := ⟨Nat.le_refl _, fun _ _ _ => ⟨rfl, rfl, rfl, rfl⟩⟩
theorem CFr.tr {T T' T'' : gT} {gi gi' gi'' : gI} {gr gr' gr'' : gR} {dv : Nat} (h : CFr T T' gi gi' gr gr' dv) (h' : CFr T' T'' gi' gi'' gr' gr'' dv) : CFr T T'' gi gi'' gr gr'' dv := ⟨Nat.le_trans h.1 h'.1, fun a h1 h2 => ⟨(h'.2 a h1 h2).1.trans (h.2 a h1 h2).1, (h'.2 a h1 h2).2.1.trans (h.2 a h1 h2).2.1, (h'.2 a h1 h2).2.2.1.trans (h.2 a h1 h2).2.2.1, (h'.2 a h1 h2).2.2.2.trans (h.2 a h1 h2).2.2.2⟩⟩
theorem CAd.md {T : gT} {dv nb : Nat} {bx cx : Nat → Nat} {cs : Nat → Option K5} (h : CAd T dv nb bx cx cs) {a : Nat} (h1 : dv + 38 ≤ a) (h2 : a < dv + 61) : ∀ j, j < nb → a < bx j ∨ bx j + 2 < a := by
  intro j hj
  by_cases e : j = 0
  · subst e
    have := h.1.2.1
    omega
  · have := h.2.1 j (by omega) hj
    omega
theorem CInv.ch {T : gT} {gi gi' : gI} {gr gr' : gR} {dv nb : Nat} {bx cx od : Nat → Nat} {par : Nat → Option Nat} {B : Nat → BS} {fo pr : Option Nat} {w h : Int32} {pl : Nat → Int32} {cs : Nat → Option K5} {D : Nat → Bool} {F : Nat → Int32} {B' : Nat → BS} {fo' pr' : Option Nat} {D' : Nat → Bool} {F' : Nat → Int32} (hI : CInv T gi gr dv nb bx cx od par B fo pr w h pl cs D F) (h1 : ∀ a, (∀ j, j < nb → a < bx j ∨ bx j + 2 < a) → a ≠ dv + 2 → a ≠ dv + 3 → gi' a = gi a) (h2 : ∀ a, a ≠ dv → gr' a = gr a) (h3 : ∀ k, k < 5 → gr' dv k = gr dv k) (hB : DvB gi' dv nb bx B') (hF : DvF gr' dv nb bx fo' pr') (hD : DmIs gi' (dv + 1) D') (hM : FrIs gi' (dv + 1) F') : CInv T gi' gr' dv nb bx cx od par B' fo' pr' w h pl cs D' F' ∧ CFr T T gi gi' gr gr' dv := by
  obtain ⟨hS, -, -, hL, hP, hC, ⟨S, ec, q1, q2, q3⟩, -, -, hA⟩ := hI
  have low : ∀ a, a < dv + 35 → a ≠ dv + 2 → a ≠ dv + 3 → gi' a = gi a := fun a ha e1 e2 => h1 a (fun j hj => by have := (hS.2.2.1 j hj).2.2.2; omega) e1 e2
  refine ⟨⟨hS.grk h2 h3, hB, hF, ?_, fun j hj => ?_, fun i hi => ?_, ⟨S, ec, ?_, ?_, fun i j hi hj => ?_⟩, hD, hM, hA⟩, Nat.le_refl _, fun a g1 g2 => ⟨rfl, rfl, h1 a (hA.md g1 g2) (by omega) (by omega), h2 a (by omega)⟩⟩
  · unfold LaIs; rw [low _ (by omega) (by omega) (by omega)]; exact hL
  · rw [low _ (by omega) (by omega) (by omega)]; exact hP j hj
  · refine ⟨fun e => by rw [h2 _ (by omega)]; exact (hC i hi).1 e, fun κ hκ => ?_⟩
    obtain ⟨c1, c2, c3, c4, c5⟩ := (hC i hi).2 κ hκ
    have ha := hA.2.2.2 i hi (by rw [hκ]; exact fun z => by cases z)
    exact ⟨by rw [h2 _ (by omega)]; exact c1, c2, c3.row (h1 _ ha.2.2 (by omega) (by omega)), c4, c5⟩
  · rw [low _ (by omega) (by omega) (by omega)]; exact q1
  · rw [low _ (by omega) (by omega) (by omega)]; exact q2
  · rw [low _ (by omega) (by omega) (by omega)]; exact q3 i j hi hj
theorem C_show {E : gE} {T : gT} {gi : gI} {gr : gR} {dv nb : Nat} {bx cx od : Nat → Nat} {par : Nat → Option Nat} {B : Nat → BS} {fo pr : Option Nat} {w h : Int32} {pl : Nat → Int32} {cs : Nat → Option K5} {D : Nat → Bool} {F : Nat → Int32} (hI : CInv T gi gr dv nb bx cx od par B fo pr w h pl cs D F) : Ct E mDV_showChanges [.ref dv] T gi gr (fun T' gi' gr' v => T' = T ∧ v = none ∧ CInv T gi' gr' dv nb bx cx od par (scS par pl B nb fo pr D).1 (attP (scB par pl B nb) fo) (attP (scB par pl B nb) pr) w h pl cs (scS par pl B nb fo pr D).2 F ∧ CFr T T gi gi' gr gr' dv) := by
  obtain ⟨hS, hB, hF, hL, hP, hC, hBd, hD, hM, hA⟩ := id hI
  refine Ct_imp (cDV_showChanges hS hB hF hP hD) ?_
  rintro T' gi' gr' v ⟨rfl, rfl, e1, e2, hF', hB', hD', hO⟩
  have hx := hI.ch (gi' := gi') (gr' := gr') (F' := F) (fun a h1 h2 h3 => hO a h1 h3) e1 e2 hB' hF' hD' (fun j hj => by rw [hO (dv + 1 + 1) (fun k hk => by have := (hS.2.2.1 k hk).2.2.2; omega) (by omega)]; exact hM j hj)
  exact ⟨rfl, rfl, hx.1, hx.2⟩
theorem C_attention {E : gE} {T : gT} {gi : gI} {gr : gR} {dv nb : Nat} {bx cx od : Nat → Nat} {par : Nat → Option Nat} {B : Nat → BS} {fo pr : Option Nat} {w h : Int32} {pl : Nat → Int32} {cs : Nat → Option K5} {D : Nat → Bool} {F : Nat → Int32} (hI : CInv T gi gr dv nb bx cx od par B fo pr w h pl cs D F) : Ct E mDV_attention [.ref dv] T gi gr (fun T' gi' gr' v => T' = T ∧ gi' = gi ∧ gr' = gr ∧ v = some (.int (noI fo + 1 + 8 * (noI pr + 1)))) := by
  obtain ⟨hS, hB, hF, hL, hP, hC, hBd, hD, hM, hA⟩ := id hI
  refine Ct_of (ls := [.ref dv]) (by decide) (gcat_cons rfl gcat_nil) (Nat.le_of_ble_eq_true rfl) rfl ?_
  refine G_aload_n dDV_attention_0 rfl ?_
  refine G_getR fDV_137 dDV_attention_1 hS.1.1 ?_
  rw [hF.1]
  refine G_callS (As := [va_rf (fo.map bx)]) (rest := []) gDV_attention_DV_numberOf lDV_125.1 lDV_125.2 dDV_attention_4 rfl (Nat.le_of_ble_eq_true rfl) ⟨by decide, by decide⟩ (cDV_numberOf hS hB hF.2.2.1) ?_
  rintro _ _ _ _ ⟨rfl, rfl, rfl, rfl⟩
  refine G_st (st' := [.int (noI fo)]) rfl ?_
  refine G_iconst (v := 1) dDV_attention_7 (by decide) ?_
  refine G_iadd dDV_attention_8 ?_
  refine G_bipush (v := 8) dDV_attention_9 (by decide) ?_
  refine G_aload_n dDV_attention_11 rfl ?_
  refine G_getR fDV_129 dDV_attention_12 hS.1.1 ?_
  rw [hF.2.1]
  refine G_callS (As := [va_rf (pr.map bx)]) (rest := [.int 8, .int ((noI fo) + (1))]) gDV_attention_DV_numberOf lDV_125.1 lDV_125.2 dDV_attention_15 rfl (Nat.le_of_ble_eq_true rfl) ⟨by decide, by decide⟩ (cDV_numberOf hS hB hF.2.2.2) ?_
  rintro _ _ _ _ ⟨rfl, rfl, rfl, rfl⟩
  refine G_st (st' := [.int (noI pr), .int 8, .int ((noI fo) + (1))]) rfl ?_
  refine G_iconst (v := 1) dDV_attention_18 (by decide) ?_
  refine G_iadd dDV_attention_19 ?_
  refine G_imul dDV_attention_20 ?_
  refine G_iadd dDV_attention_21 ?_
  exact G_ireturn dDV_attention_22 rfl rfl (by decide) (by decide) ⟨rfl, rfl, rfl, rfl⟩
theorem C_damage {E : gE} {T : gT} {gi : gI} {gr : gR} {dv nb : Nat} {bx cx od : Nat → Nat} {par : Nat → Option Nat} {B : Nat → BS} {fo pr : Option Nat} {w h : Int32} {pl : Nat → Int32} {cs : Nat → Option K5} {D : Nat → Bool} {F : Nat → Int32} (hI : CInv T gi gr dv nb bx cx od par B fo pr w h pl cs D F) : Ct E mDV_damage [.ref dv] T gi gr (fun T' gi' gr' v => T' = T ∧ gi' = gi ∧ gr' = gr ∧ v = some (.int (nI (cntB D 384)))) := by
  obtain ⟨hS, hB, hF, hL, hP, hC, hBd, hD, hM, hA⟩ := id hI
  refine Ct_of (ls := [.ref dv]) (by decide) (gcat_cons rfl gcat_nil) (Nat.le_of_ble_eq_true rfl) rfl ?_
  refine G_aload_n dDV_damage_0 rfl ?_
  refine G_getRs fDV_12 dDV_damage_1 hS.1.1 hS.1.2.2.1 ?_
  refine G_callV (As := []) (rest := []) gDV_damage_SC_damagedPoints lDV_155.1 lDV_155.2.1 lDV_155.2.2.1 lDV_155.2.2.2 dDV_damage_4 rfl (Nat.le_of_ble_eq_true rfl) hS.1.2.2.2.2.2.2.2.2.2.1.1 ⟨by decide, by decide⟩ (cSC_damagedPoints hS.1.2.2.2.2.2.2.2.2.2.1 hD) ?_
  rintro _ _ _ _ ⟨rfl, rfl, rfl, rfl⟩
  refine G_st (st' := [.int (nI (cntB D 384))]) rfl ?_
  exact G_ireturn dDV_damage_7 rfl rfl (by decide) (by decide) ⟨rfl, rfl, rfl, rfl⟩
theorem C_hit {E : gE} {T : gT} {gi : gI} {gr : gR} {dv nb : Nat} {bx cx od : Nat → Nat} {par : Nat → Option Nat} {B : Nat → BS} {fo pr : Option Nat} {w h : Int32} {pl : Nat → Int32} {cs : Nat → Option K5} {D : Nat → Bool} {F : Nat → Int32} {x y : Int32} (hI : CInv T gi gr dv nb bx cx od par B fo pr w h pl cs D F) : Ct E mDV_hit [.ref dv, .int x, .int y] T gi gr (fun T' gi' gr' v => T' = T ∧ gi' = gi ∧ gr' = gr ∧ v = some (.int (noI (hitP od par B nb x y)))) := by
  obtain ⟨hS, hB, hF, hL, hP, hC, hBd, hD, hM, hA⟩ := id hI
  refine Ct_of (ls := [.ref dv, .int x, .int y]) (by decide) (gcat_cons rfl (gcat_cons rfl (gcat_cons rfl gcat_nil))) (Nat.le_of_ble_eq_true rfl) rfl ?_
  refine G_aload_n dDV_hit_0 rfl ?_
  refine G_iload_n dDV_hit_1 rfl ?_
  refine G_iload_n dDV_hit_2 rfl ?_
  refine G_callV (As := [.int x, .int y]) (rest := []) gDV_hit_DV_frontBox lDV_121.1 lDV_121.2.1 lDV_121.2.2.1 lDV_121.2.2.2 dDV_hit_3 rfl (Nat.le_of_ble_eq_true rfl) hS.1.1 ⟨by decide, by decide⟩ (cDV_frontBox hS hB) ?_
  rintro _ _ _ _ ⟨rfl, rfl, rfl, rfl⟩
  refine G_st (st' := [va_rf ((hitP od par B nb x y).map bx)]) rfl ?_
  refine G_callS (As := [va_rf ((hitP od par B nb x y).map bx)]) (rest := []) gDV_hit_DV_numberOf lDV_125.1 lDV_125.2 dDV_hit_6 rfl (Nat.le_of_ble_eq_true rfl) ⟨by decide, by decide⟩ (cDV_numberOf hS hB (hitP_lt hS)) ?_
  rintro _ _ _ _ ⟨rfl, rfl, rfl, rfl⟩
  refine G_st (st' := [.int (noI (hitP od par B nb x y))]) rfl ?_
  exact G_ireturn dDV_hit_9 rfl rfl (by decide) (by decide) ⟨rfl, rfl, rfl, rfl⟩
theorem isBx_of {nb : Nat} {x : Int32} (hn : nb ≤ 6) (h : isBx nb x) : ∃ j, j < nb ∧ x = nI j := by
  obtain ⟨j, h1, h2, -⟩ := pk_mu (L := nb) h.1 h.2 (by omega)
  exact ⟨j, h1, h2⟩
theorem isIn_of {nb : Nat} {x : Int32} (hn : nb ≤ 6) (h : isIn nb x) : ∃ j, 0 < j ∧ j < nb ∧ x = nI j := by
  obtain ⟨j, h1, h2, -⟩ := pk_mu (L := nb) (x := x) (fun z => h.1 (by rw [Int32.lt_iff_toInt_lt] at z; rw [Int32.le_iff_toInt_le]; omega)) h.2 (by omega)
  refine ⟨j, ?_, h1, h2⟩
  cases j with
  | zero => exact absurd (by rw [h2]; decide +kernel) h.1
  | succ j => omega
theorem isEd_of {nb : Nat} {x : Int32} (hn : nb ≤ 6) (h : isEd nb x) : ∃ j, j < 4 * nb ∧ x = nI j := by
  obtain ⟨j, h1, h2, -⟩ := pk_mu (L := 4 * nb) h.1 h.2 (by omega)
  exact ⟨j, h1, h2⟩
def ixI (x : Int32) : Nat := x.toNatClampNeg
theorem ixI_n {j : Nat} (h : j < 1000) : ixI (nI j) = j := nI_clamp (by omega)
def cntC (nb : Nat) (B : Nat → BS) (x : Int32) : Int32 := if isBx nb x then (B (ixI x)).2.2.1 else -1
theorem C_count {E : gE} {T : gT} {gi : gI} {gr : gR} {dv nb : Nat} {bx cx od : Nat → Nat} {par : Nat → Option Nat} {B : Nat → BS} {fo pr : Option Nat} {w h : Int32} {pl : Nat → Int32} {cs : Nat → Option K5} {D : Nat → Bool} {F : Nat → Int32} {x : Int32} (hI : CInv T gi gr dv nb bx cx od par B fo pr w h pl cs D F) : Ct E mDV_count [.ref dv, .int x] T gi gr (fun T' gi' gr' v => T' = T ∧ gi' = gi ∧ gr' = gr ∧ v = some (.int (cntC nb B x))) := by
  obtain ⟨hS, hB, hF, hL, hP, hC, hBd, hD, hM, hA⟩ := id hI
  have hn6 := hS.2.1.2
  refine Ct_of (ls := [.ref dv, .int x]) (by decide) (gcat_cons rfl (gcat_cons rfl gcat_nil)) (Nat.le_of_ble_eq_true rfl) rfl ?_
  refine G_aload_n dDV_count_0 rfl ?_
  refine G_iload_n dDV_count_1 rfl ?_
  refine G_callV (As := [.int x]) (rest := []) gDV_count_DV_isBox lDV_49.1 lDV_49.2.1 lDV_49.2.2.1 lDV_49.2.2.2 dDV_count_2 rfl (Nat.le_of_ble_eq_true rfl) hS.1.1 ⟨by decide, by decide⟩ (cDV_isBox hS hB) ?_
  rintro _ _ _ _ ⟨rfl, rfl, rfl, rfl⟩
  refine G_st (st' := [.int (if isBx nb x then 1 else 0)]) rfl ?_
  refine G_if_eq dDV_count_5 (fun h1 => ?_) (fun h1 => ?_)
  · refine G_iconst (v := -1) dDV_count_20 (by decide) ?_
    exact G_ireturn dDV_count_21 rfl rfl (by decide) (by decide) ⟨rfl, rfl, rfl, by unfold cntC; rw [if_neg (if01.mp h1)]⟩
  · have hb : isBx nb x := by
      by_cases c : isBx nb x
      · exact c
      · exact absurd (if01.mpr c) h1
    obtain ⟨j, hj, rfl⟩ := isBx_of hn6 hb
    refine G_aload_n dDV_count_8 rfl ?_
    refine G_getRs fDV_18 dDV_count_9 hS.1.1 hS.1.2.2.2.1 ?_
    refine G_iload_n dDV_count_12 rfl ?_
    refine G_aaldsN 2 dDV_count_13 (by decide) hS.1.2.2.2.2.2.1 hS.1.2.2.2.2.2.2.1 (by decide) (by omega) (hS.2.2.1 j hj).1 ?_
    refine G_getI fDV_152 dDV_count_14 (hS.2.2.1 j hj).2.1.1 ?_
    rw [(hB.2 j hj).2.2.2.1]
    refine G_goto dDV_count_17 ?_
    exact G_ireturn dDV_count_21 rfl rfl (by decide) (by decide) ⟨rfl, rfl, rfl, by unfold cntC; rw [if_pos hb, ixI_n (by omega)]⟩
def plcC (nb : Nat) (pl : Nat → Int32) (x : Int32) : Int32 := if isEd nb x then pl (ixI x) else 0
theorem C_place {E : gE} {T : gT} {gi : gI} {gr : gR} {dv nb : Nat} {bx cx od : Nat → Nat} {par : Nat → Option Nat} {B : Nat → BS} {fo pr : Option Nat} {w h : Int32} {pl : Nat → Int32} {cs : Nat → Option K5} {D : Nat → Bool} {F : Nat → Int32} {x : Int32} (hI : CInv T gi gr dv nb bx cx od par B fo pr w h pl cs D F) : Ct E mDV_place [.ref dv, .int x] T gi gr (fun T' gi' gr' v => T' = T ∧ gi' = gi ∧ gr' = gr ∧ v = some (.int (plcC nb pl x))) := by
  obtain ⟨hS, hB, hF, hL, hP, hC, hBd, hD, hM, hA⟩ := id hI
  have hn6 := hS.2.1.2
  have hLa := hS.1.2.2.2.2.2.2.2.2.2.2
  refine Ct_of (ls := [.ref dv, .int x]) (by decide) (gcat_cons rfl (gcat_cons rfl gcat_nil)) (Nat.le_of_ble_eq_true rfl) rfl ?_
  refine G_aload_n dDV_place_0 rfl ?_
  refine G_getRs fDV_34 dDV_place_1 hS.1.1 hS.1.2.1 ?_
  refine G_iload_n dDV_place_4 rfl ?_
  refine G_callV (As := [.int x]) (rest := []) gDV_place_LA_isEdge lDV_81.1 lDV_81.2.1 lDV_81.2.2.1 lDV_81.2.2.2 dDV_place_5 rfl (Nat.le_of_ble_eq_true rfl) hLa.1 ⟨by decide, by decide⟩ (cLA_isEdge hLa hL) ?_
  rintro _ _ _ _ ⟨rfl, rfl, rfl, rfl⟩
  refine G_st (st' := [.int (if isEd nb x then 1 else 0)]) rfl ?_
  refine G_if_eq dDV_place_8 (fun h1 => ?_) (fun h1 => ?_)
  · refine G_iconst (v := 0) dDV_place_23 (by decide) ?_
    exact G_ireturn dDV_place_24 rfl rfl (by decide) (by decide) ⟨rfl, rfl, rfl, by unfold plcC; rw [if_neg (if01.mp h1)]⟩
  · have hb : isEd nb x := by
      by_cases c : isEd nb x
      · exact c
      · exact absurd (if01.mpr c) h1
    obtain ⟨j, hj, rfl⟩ := isEd_of hn6 hb
    refine G_aload_n dDV_place_11 rfl ?_
    refine G_getRs fDV_34 dDV_place_12 hS.1.1 hS.1.2.1 ?_
    refine G_getRs fDV_90 dDV_place_15 hLa.1 hLa.2.1 ?_
    refine G_iload_n dDV_place_18 rfl ?_
    refine G_ialdN dDV_place_19 hLa.2.2.2.2.1 hLa.2.2.2.2.2.1 (by decide) (by omega) ?_
    rw [hP j (by omega)]
    refine G_goto dDV_place_20 ?_
    exact G_ireturn dDV_place_24 rfl rfl (by decide) (by decide) ⟨rfl, rfl, rfl, by unfold plcC; rw [if_pos hb, ixI_n (by omega)]⟩
abbrev isCn (x : Int32) : Prop := ¬ x < 0 ∧ ¬ 16 ≤ x
def errC (cs : Nat → Option K5) (pl : Nat → Int32) (x : Int32) : Int32 := if isCn x then (match cs (ixI x) with
  | some κ => erI κ.2.2.1 (pl κ.1) (pl κ.2.1) κ.2.2.2.1
  | none => -1) else -1
theorem C_error {E : gE} {T : gT} {gi : gI} {gr : gR} {dv nb : Nat} {bx cx od : Nat → Nat} {par : Nat → Option Nat} {B : Nat → BS} {fo pr : Option Nat} {w h : Int32} {pl : Nat → Int32} {cs : Nat → Option K5} {D : Nat → Bool} {F : Nat → Int32} {x : Int32} (hI : CInv T gi gr dv nb bx cx od par B fo pr w h pl cs D F) : Ct E mDV_error [.ref dv, .int x] T gi gr (fun T' gi' gr' v => T' = T ∧ gi' = gi ∧ gr' = gr ∧ v = some (.int (errC cs pl x))) := by
  obtain ⟨hS, hB, hF, hL, hP, hC, hBd, hD, hM, hA⟩ := id hI
  have hLa := hS.1.2.2.2.2.2.2.2.2.2.2
  refine Ct_of (ls := [.ref dv, .int x, .long 0]) (by decide) (gcat_cons rfl (gcat_cons rfl gcat_nil)) (Nat.le_of_ble_eq_true rfl) rfl ?_
  have no : ∀ r : Option Nat, r = none → errC cs pl x = -1 → G E mDV_error 8 [.ref dv, .int x, .long 0] [va_rf r] T gi gr 0 0 (fun T' gi' gr' v => T' = T ∧ gi' = gi ∧ gr' = gr ∧ v = some (.int (errC cs pl x))) := by
    intro r e0 e1
    subst e0
    refine G_astore_nN (ls' := [.ref dv, .int x, .null]) dDV_error_8 (by decide) rfl ?_
    refine G_aload_nN dDV_error_9 rfl ?_
    refine G_ifnonnullN dDV_error_10 ?_
    refine G_iconst (v := -1) dDV_error_13 (by decide) ?_
    refine G_goto dDV_error_14 ?_
    exact G_ireturn dDV_error_28 rfl rfl (by decide) (by decide) ⟨rfl, rfl, rfl, by rw [e1]⟩
  refine G_aload_n dDV_error_0 rfl ?_
  refine G_getRs fDV_34 dDV_error_1 hS.1.1 hS.1.2.1 ?_
  refine G_iload_n dDV_error_4 rfl ?_
  refine G_callV (As := [.int x]) (rest := []) gDV_error_LA_constraintAt lDV_73.1 lDV_73.2.1 lDV_73.2.2.1 lDV_73.2.2.2 dDV_error_5 rfl (Nat.le_of_ble_eq_true rfl) hLa.1 ⟨by decide, by decide⟩ (cLA_constraintAt hLa) ?_
  rintro _ _ _ _ ⟨rfl, rfl, rfl, r, rfl, hr⟩
  refine G_st (st' := [va_rf r]) rfl ?_
  rcases hr with ⟨j, hj, rfl, hr⟩ | ⟨hx, hr⟩
  · have hc : isCn (nI j) := ⟨nI_pos (by omega), nI_ge (b := 16) hj (by decide)⟩
    cases hcs : cs j with
    | none => exact no _ (hr.trans ((hC j hj).1 hcs)) (by unfold errC; rw [if_pos hc, ixI_n (by omega), hcs])
    | some κ =>
      obtain ⟨c1, c2, c3, c4, c5⟩ := (hC j hj).2 κ hcs
      have e : r = some (cx j) := hr.trans c1
      subst e
      refine G_astore_n (ls' := [.ref dv, .int (nI j), .ref (cx j)]) dDV_error_8 (by decide) rfl ?_
      refine G_aload_n dDV_error_9 rfl ?_
      refine G_ifnonnull dDV_error_10 ?_
      refine G_aload_n dDV_error_17 rfl ?_
      refine G_aload_n dDV_error_18 rfl ?_
      refine G_getRs fDV_34 dDV_error_19 hS.1.1 hS.1.2.1 ?_
      refine G_getRs fDV_90 dDV_error_22 hLa.1 hLa.2.1 ?_
      refine G_callV (As := [.ref (dv + 6 + 1)]) (rest := []) gDV_error_CN_errorIn lDV_94.1 lDV_94.2.1 lDV_94.2.2.1 lDV_94.2.2.2 dDV_error_25 rfl (Nat.le_of_ble_eq_true rfl) c2 ⟨by decide, by decide⟩ (cCN_errorIn c2 c3 c4 ⟨hLa.2.2.2.2.1, hLa.2.2.2.2.2.1⟩) ?_
      rintro _ _ _ _ ⟨rfl, rfl, rfl, rfl⟩
      refine G_st (st' := [.int (erI κ.2.2.1 (pl κ.1) (pl κ.2.1) κ.2.2.2.1)]) (by rw [hP _ c4.1, hP _ c4.2.1]; rfl) ?_
      exact G_ireturn dDV_error_28 rfl rfl (by decide) (by decide) ⟨rfl, rfl, rfl, by unfold errC; rw [if_pos hc, ixI_n (by omega), hcs]⟩
  · exact no _ hr (by unfold errC; rw [if_neg (fun z => hx.elim z.1 z.2)])
abbrev onSc (x y : Int32) : Prop := ¬ x < 0 ∧ ¬ 24 ≤ x ∧ ¬ y < 0 ∧ ¬ 16 ≤ y
def pixC (F : Nat → Int32) (x y : Int32) : Int32 := if onSc x y then F (ixI y * 24 + ixI x) else -1
theorem C_pixel {E : gE} {T : gT} {gi : gI} {gr : gR} {dv nb : Nat} {bx cx od : Nat → Nat} {par : Nat → Option Nat} {B : Nat → BS} {fo pr : Option Nat} {w h : Int32} {pl : Nat → Int32} {cs : Nat → Option K5} {D : Nat → Bool} {F : Nat → Int32} {x y : Int32} (hI : CInv T gi gr dv nb bx cx od par B fo pr w h pl cs D F) : Ct E mDV_pixel [.ref dv, .int x, .int y] T gi gr (fun T' gi' gr' v => T' = T ∧ gi' = gi ∧ gr' = gr ∧ v = some (.int (pixC F x y))) := by
  obtain ⟨hS, hB, hF, hL, hP, hC, hBd, hD, hM, hA⟩ := id hI
  refine Ct_of (ls := [.ref dv, .int x, .int y, .long 0]) (by decide) (gcat_cons rfl (gcat_cons rfl (gcat_cons rfl gcat_nil))) (Nat.le_of_ble_eq_true rfl) rfl ?_
  have no : ¬ onSc x y → G E mDV_pixel 24 [.ref dv, .int x, .int y, .long 0] [] T gi gr 0 0 (fun T' gi' gr' v => T' = T ∧ gi' = gi ∧ gr' = gr ∧ v = some (.int (pixC F x y))) := by
    intro hn
    refine G_iconst (v := 0) dDV_pixel_24 (by decide) ?_
    refine G_istore_n (ls' := [.ref dv, .int x, .int y, .int 0]) dDV_pixel_25 (by decide) rfl ?_
    refine G_iload_n dDV_pixel_26 rfl ?_
    refine G_if_eq dDV_pixel_27 (fun _ => ?_) (fun z => absurd rfl z)
    refine G_iconst (v := -1) dDV_pixel_42 (by decide) ?_
    exact G_ireturn dDV_pixel_43 rfl rfl (by decide) (by decide) ⟨rfl, rfl, rfl, by unfold pixC; rw [if_neg hn]⟩
  refine G_iload_n dDV_pixel_0 rfl ?_
  refine G_if_lt dDV_pixel_1 (fun h1 => no (fun z => z.1 h1)) (fun h1 => ?_)
  refine G_iload_n dDV_pixel_4 rfl ?_
  refine G_bipush (v := 24) dDV_pixel_5 (by decide) ?_
  refine G_icmp_ge dDV_pixel_7 (fun h2 => no (fun z => z.2.1 h2)) (fun h2 => ?_)
  refine G_iload_n dDV_pixel_10 rfl ?_
  refine G_if_lt dDV_pixel_11 (fun h3 => no (fun z => z.2.2.1 h3)) (fun h3 => ?_)
  refine G_iload_n dDV_pixel_14 rfl ?_
  refine G_bipush (v := 16) dDV_pixel_15 (by decide) ?_
  refine G_icmp_ge dDV_pixel_17 (fun h4 => no (fun z => z.2.2.2 h4)) (fun h4 => ?_)
  have hon : onSc x y := ⟨h1, h2, h3, h4⟩
  obtain ⟨i, hi, rfl, -⟩ := pk_mu (L := 24) h1 h2 (by decide)
  obtain ⟨j, hj, rfl, -⟩ := pk_mu (L := 16) h3 h4 (by decide)
  refine G_iconst (v := 1) dDV_pixel_20 (by decide) ?_
  refine G_goto dDV_pixel_21 ?_
  refine G_istore_n (ls' := [.ref dv, .int (nI i), .int (nI j), .int 1]) dDV_pixel_25 (by decide) rfl ?_
  refine G_iload_n dDV_pixel_26 rfl ?_
  refine G_if_eq dDV_pixel_27 (fun z => absurd z (by decide)) (fun _ => ?_)
  refine G_aload_n dDV_pixel_30 rfl ?_
  refine G_getRs fDV_12 dDV_pixel_31 hS.1.1 hS.1.2.2.1 ?_
  refine G_iload_n dDV_pixel_34 rfl ?_
  refine G_iload_n dDV_pixel_35 rfl ?_
  refine G_callV (As := [.int (nI i), .int (nI j)]) (rest := []) gDV_pixel_SC_frameAt lDV_168.1 lDV_168.2.1 lDV_168.2.2.1 lDV_168.2.2.2 dDV_pixel_36 rfl (Nat.le_of_ble_eq_true rfl) hS.1.2.2.2.2.2.2.2.2.2.1.1 ⟨by decide, by decide⟩ (cSC_frameAt hS.1.2.2.2.2.2.2.2.2.2.1 hM hi hj) ?_
  rintro _ _ _ _ ⟨rfl, rfl, rfl, rfl⟩
  refine G_st (st' := [.int (F (j * 24 + i))]) rfl ?_
  refine G_goto dDV_pixel_39 ?_
  exact G_ireturn dDV_pixel_43 rfl rfl (by decide) (by decide) ⟨rfl, rfl, rfl, by unfold pixC; rw [if_pos hon, ixI_n (by omega), ixI_n (by omega)]⟩
end
section
theorem bI_inj {a b : Bool} : bI a = bI b ↔ a = b := by cases a <;> cases b <;> simp [bI]
def stH (β : BS) (x : Bool) : BS := (β.1, β.2.1, β.2.2.1, x, β.2.2.2.2)
abbrev hdC (nb : Nat) (B : Nat → BS) (x : Int32) (on : Bool) : Prop := isIn nb x ∧ ¬ (B (ixI x)).2.2.2.1 = on
theorem C_hide {E : gE} {T : gT} {gi : gI} {gr : gR} {dv nb : Nat} {bx cx od : Nat → Nat} {par : Nat → Option Nat} {B : Nat → BS} {fo pr : Option Nat} {w h : Int32} {pl : Nat → Int32} {cs : Nat → Option K5} {D : Nat → Bool} {F : Nat → Int32} {x : Int32} {on : Bool} (hI : CInv T gi gr dv nb bx cx od par B fo pr w h pl cs D F) : Ct E mDV_hide [.ref dv, .int x, .int (bI on)] T gi gr (fun T' gi' gr' v => T' = T ∧ CFr T T' gi gi' gr gr' dv ∧ (hdC nb B x on ∧ v = some (.int 1) ∧ CInv T' gi' gr' dv nb bx cx od par (scS par pl (gup B (ixI x) (stH (B (ixI x)) on)) nb fo pr D).1 (attP (scB par pl (gup B (ixI x) (stH (B (ixI x)) on)) nb) fo) (attP (scB par pl (gup B (ixI x) (stH (B (ixI x)) on)) nb) pr) w h pl cs (scS par pl (gup B (ixI x) (stH (B (ixI x)) on)) nb fo pr D).2 F ∨ ¬ hdC nb B x on ∧ v = some (.int 0) ∧ CInv T' gi' gr' dv nb bx cx od par B fo pr w h pl cs D F)) := by
  obtain ⟨hS, hB, hF, hL, hP, hC, hBd, hD, hM, hA⟩ := id hI
  have hn6 := hS.2.1.2
  have no : ¬ hdC nb B x on → G E mDV_hide 21 [.ref dv, .int x, .int (bI on)] [] T gi gr 0 0 (fun T' gi' gr' v => T' = T ∧ CFr T T' gi gi' gr gr' dv ∧ (hdC nb B x on ∧ v = some (.int 1) ∧ CInv T' gi' gr' dv nb bx cx od par (scS par pl (gup B (ixI x) (stH (B (ixI x)) on)) nb fo pr D).1 (attP (scB par pl (gup B (ixI x) (stH (B (ixI x)) on)) nb) fo) (attP (scB par pl (gup B (ixI x) (stH (B (ixI x)) on)) nb) pr) w h pl cs (scS par pl (gup B (ixI x) (stH (B (ixI x)) on)) nb fo pr D).2 F ∨ ¬ hdC nb B x on ∧ v = some (.int 0) ∧ CInv T' gi' gr' dv nb bx cx od par B fo pr w h pl cs D F)) := by
    intro hn
    refine G_iconst (v := 0) dDV_hide_21 (by decide) ?_
    exact G_ireturn dDV_hide_22 rfl (nr_z (by decide)) (by decide) (by decide) ⟨rfl, CFr.rf, Or.inr ⟨hn, rfl, hI⟩⟩
  refine Ct_of (ls := [.ref dv, .int x, .int (bI on)]) (by decide) (gcat_cons rfl (gcat_cons rfl (gcat_cons rfl gcat_nil))) (Nat.le_of_ble_eq_true rfl) rfl ?_
  refine G_aload_n dDV_hide_0 rfl ?_
  refine G_iload_n dDV_hide_1 rfl ?_
  refine G_callV (As := [.int x]) (rest := []) gDV_hide_DV_isInnerBox lDV_98.1 lDV_98.2.1 lDV_98.2.2.1 lDV_98.2.2.2 dDV_hide_2 rfl (Nat.le_of_ble_eq_true rfl) hS.1.1 ⟨by decide, by decide⟩ (cDV_isInnerBox hS hB) ?_
  rintro _ _ _ _ ⟨rfl, rfl, rfl, rfl⟩
  refine G_st (st' := [.int (if isIn nb x then 1 else 0)]) rfl ?_
  refine G_if_eq dDV_hide_5 (fun h1 => no (fun z => (if01.mp h1) z.1)) (fun h1 => ?_)
  have hin : isIn nb x := by
    by_cases c : isIn nb x
    · exact c
    · exact absurd (if01.mpr c) h1
  obtain ⟨j, hj0, hj, rfl⟩ := isIn_of hn6 hin
  rw [ixI_n (by omega)] at no ⊢
  refine G_aload_n dDV_hide_8 rfl ?_
  refine G_getRs fDV_18 dDV_hide_9 hS.1.1 hS.1.2.2.2.1 ?_
  refine G_iload_n dDV_hide_12 rfl ?_
  refine G_aaldsN 2 dDV_hide_13 (by decide) hS.1.2.2.2.2.2.1 hS.1.2.2.2.2.2.2.1 (by decide) (by omega) (hS.2.2.1 j hj).1 ?_
  refine G_getI fDV_101 dDV_hide_14 (hS.2.2.1 j hj).2.1.1 ?_
  rw [(hB.2 j hj).2.2.2.2.1]
  refine G_iload_n dDV_hide_17 rfl ?_
  refine G_icmp_ne dDV_hide_18 (fun h2 => ?_) (fun h2 => no (fun z => z.2 (by rw [ixI_n (by omega)]; exact bI_inj.mp h2)))
  refine G_aload_n dDV_hide_23 rfl ?_
  refine G_getRs fDV_18 dDV_hide_24 hS.1.1 hS.1.2.2.2.1 ?_
  refine G_iload_n dDV_hide_27 rfl ?_
  refine G_aaldsN 2 dDV_hide_28 (by decide) hS.1.2.2.2.2.2.1 hS.1.2.2.2.2.2.2.1 (by decide) (by omega) (hS.2.2.1 j hj).1 ?_
  refine G_iload_n dDV_hide_29 rfl ?_
  refine G_putI wDV_101 (Or.inl rfl) dDV_hide_30 (hS.2.2.1 j hj).2.1.1 (nr_z (bI_01 _)) (ft_z (bI_01 _)) ?_
  have hge := (hS.2.2.1 j hj).2.2.2
  have hx := hI.ch (gi' := gu _ (bx j) 7 (bI on)) (B' := gup B j (stH (B j) on)) (D' := D) (F' := F) (fun a g1 _ _ => gu_off (by have := g1 j hj; omega)) (fun _ _ => rfl) (fun _ _ => rfl) (DvB_hid hS hj hB) hF (fun k hk => by rw [gu_off (by omega)]; exact hD k hk) (fun k hk => by rw [gu_off (by omega)]; exact hM k hk)
  refine G_aload_n dDV_hide_33 rfl ?_
  refine G_callV (As := []) (rest := []) gDV_hide_DV_showChanges lDV_42.1 lDV_42.2.1 lDV_42.2.2.1 lDV_42.2.2.2 dDV_hide_34 rfl (Nat.le_of_ble_eq_true rfl) hS.1.1 ⟨by decide, by decide⟩ (C_show hx.1) ?_
  rintro _ _ _ _ ⟨rfl, rfl, hI2, hf2⟩
  refine G_st (st' := []) rfl ?_
  refine G_iconst (v := 1) dDV_hide_37 (by decide) ?_
  exact G_ireturn dDV_hide_38 rfl (nr_z (by decide)) (by decide) (by decide) ⟨rfl, hx.2.tr hf2, Or.inl ⟨⟨hin, by rw [ixI_n (by omega)]; exact fun z => h2 (by rw [z])⟩, rfl, hI2⟩⟩
theorem mvP_lt {od : Nat → Nat} {pos nb i : Nat} (h : ∀ k, k < nb → od k < nb) (hi : i < nb) : ∀ k, k < nb → mvP od pos nb i k < nb := by
  intro k hk
  unfold mvP
  split
  · exact h k hk
  · split
    · exact h _ (by assumption)
    · exact hi
theorem mvP_inj {od : Nat → Nat} {pos nb i : Nat} (hj : ∀ k l, k < nb → l < nb → od k = od l → k = l) (hpos : pos < nb) (hi : od pos = i) : ∀ k l, k < nb → l < nb → mvP od pos nb i k = mvP od pos nb i l → k = l := by
  intro k l hk hl e
  unfold mvP at e
  by_cases a : k < pos
  · rw [if_pos a] at e
    by_cases b : l < pos
    · rw [if_pos b] at e; exact hj k l hk hl e
    · rw [if_neg b] at e
      by_cases c : l + 1 < nb
      · rw [if_pos c] at e; have := hj k (l + 1) hk c e; omega
      · rw [if_neg c, ← hi] at e; have := hj k pos hk hpos e; omega
  · rw [if_neg a] at e
    by_cases d : k + 1 < nb
    · rw [if_pos d] at e
      by_cases b : l < pos
      · rw [if_pos b] at e; have := hj (k + 1) l d hl e; omega
      · rw [if_neg b] at e
        by_cases c : l + 1 < nb
        · rw [if_pos c] at e; have := hj (k + 1) (l + 1) d c e; omega
        · rw [if_neg c, ← hi] at e; have := hj (k + 1) pos d hpos e; omega
    · rw [if_neg d] at e
      by_cases b : l < pos
      · rw [if_pos b, ← hi] at e; have := hj pos l hpos hl e; omega
      · rw [if_neg b] at e
        by_cases c : l + 1 < nb
        · rw [if_pos c, ← hi] at e; have := hj pos (l + 1) hpos c e; omega
        · omega
theorem CInv.od {T : gT} {gi gi' : gI} {gr gr' : gR} {dv nb : Nat} {bx cx od : Nat → Nat} {par : Nat → Option Nat} {B : Nat → BS} {fo pr : Option Nat} {w h : Int32} {pl : Nat → Int32} {cs : Nat → Option K5} {D : Nat → Bool} {F : Nat → Int32} {od' : Nat → Nat} {D' : Nat → Bool} (hI : CInv T gi gr dv nb bx cx od par B fo pr w h pl cs D F) (h1 : ∀ a, a ≠ dv + 5 → gr' a = gr a) (h2 : ∀ k, k < nb → od' k < nb ∧ gr' (dv + 5) k = some (bx (od' k))) (h3 : ∀ k l, k < nb → l < nb → od' k = od' l → k = l) (h4 : ∀ a, a ≠ dv + 3 → gi' a = gi a) (hD : DmIs gi' (dv + 1) D') : CInv T gi' gr' dv nb bx cx od' par B fo pr w h pl cs D' F ∧ CFr T T gi gi' gr gr' dv := by
  obtain ⟨hS, hB, hF, hL, hP, hC, ⟨S, ec, q1, q2, q3⟩, -, hM, hA⟩ := hI
  obtain ⟨c0, c1, c2, c3, c4, c5, c6, c7⟩ := hS
  have hge := fun j (hj : j < nb) => (c2 j hj).2.2.2
  refine ⟨⟨⟨DvOk.gr c0 h1, c1, fun i hi => ?_, c3, c4, c5, h2, h3⟩, hB.row (h4 _ (by omega)) (fun i hi => ?_), ⟨by rw [h1 _ (by omega)]; exact hF.1, by rw [h1 _ (by omega)]; exact hF.2.1, hF.2.2⟩, ?_, fun j hj => ?_, fun i hi => ?_, ⟨S, ec, ?_, ?_, fun i j hi hj => ?_⟩, hD, fun j hj => ?_, hA⟩, Nat.le_refl _, fun a g1 g2 => ⟨rfl, rfl, h4 a (by omega), h1 a (by omega)⟩⟩
  · obtain ⟨d1, ⟨e1, e2, e3, e4⟩, d3, d4⟩ := c2 i hi
    exact ⟨by rw [h1 _ (by omega)]; exact d1, ⟨e1, by rw [h1 _ (by omega)]; exact e2, by rw [h1 _ (by omega)]; exact e3, e4⟩, by rw [h1 _ (by omega)]; exact d3, d4⟩
  · have := hge i hi
    exact ⟨h4 _ (by omega), h4 _ (by omega), h4 _ (by omega)⟩
  · unfold LaIs; rw [h4 _ (by omega)]; exact hL
  · rw [h4 _ (by omega)]; exact hP j hj
  · refine ⟨fun e => by rw [h1 _ (by omega)]; exact (hC i hi).1 e, fun κ hκ => ?_⟩
    obtain ⟨k1, k2, k3, k4, k5⟩ := (hC i hi).2 κ hκ
    have ha := hA.2.2.2 i hi (by rw [hκ]; exact fun z => by cases z)
    exact ⟨by rw [h1 _ (by omega)]; exact k1, k2, k3.row (h4 _ (by omega)), k4, k5⟩
  · rw [h4 _ (by omega)]; exact q1
  · rw [h4 _ (by omega)]; exact q2
  · rw [h4 _ (by omega)]; exact q3 i j hi hj
  · rw [h4 _ (by omega)]; exact hM j hj
abbrev rsC (nb : Nat) (od : Nat → Nat) (par : Nat → Option Nat) (x : Int32) : Prop := isIn nb x ∧ ¬ lsP od par (ixI x) nb = ixI x
theorem C_raise {E : gE} {T : gT} {gi : gI} {gr : gR} {dv nb : Nat} {bx cx od : Nat → Nat} {par : Nat → Option Nat} {B : Nat → BS} {fo pr : Option Nat} {w h : Int32} {pl : Nat → Int32} {cs : Nat → Option K5} {D : Nat → Bool} {F : Nat → Int32} {x : Int32} (hI : CInv T gi gr dv nb bx cx od par B fo pr w h pl cs D F) (hsur : ∀ j, j < nb → ∃ pos, pos < nb ∧ od pos = j) : Ct E mDV_raise [.ref dv, .int x] T gi gr (fun T' gi' gr' v => T' = T ∧ CFr T T' gi gi' gr gr' dv ∧ (rsC nb od par x ∧ v = some (.int 1) ∧ (∃ pos, pos < nb ∧ od pos = ixI x ∧ CInv T' gi' gr' dv nb bx cx (mvP od pos nb (ixI x)) par B fo pr w h pl cs (dmA D (B (ixI x)).2.2.2.2.2.1 384) F) ∨ ¬ rsC nb od par x ∧ v = some (.int 0) ∧ CInv T' gi' gr' dv nb bx cx od par B fo pr w h pl cs D F)) := by
  obtain ⟨hS, hB, hF, hL, hP, hC, hBd, hD, hM, hA⟩ := id hI
  have hn6 := hS.2.1.2
  have no : ¬ rsC nb od par x → G E mDV_raise 21 [.ref dv, .int x] [] T gi gr 0 0 (fun T' gi' gr' v => T' = T ∧ CFr T T' gi gi' gr gr' dv ∧ (rsC nb od par x ∧ v = some (.int 1) ∧ (∃ pos, pos < nb ∧ od pos = ixI x ∧ CInv T' gi' gr' dv nb bx cx (mvP od pos nb (ixI x)) par B fo pr w h pl cs (dmA D (B (ixI x)).2.2.2.2.2.1 384) F) ∨ ¬ rsC nb od par x ∧ v = some (.int 0) ∧ CInv T' gi' gr' dv nb bx cx od par B fo pr w h pl cs D F)) := by
    intro hn
    refine G_iconst (v := 0) dDV_raise_21 (by decide) ?_
    exact G_ireturn dDV_raise_22 rfl (nr_z (by decide)) (by decide) (by decide) ⟨rfl, CFr.rf, Or.inr ⟨hn, rfl, hI⟩⟩
  refine Ct_of (ls := [.ref dv, .int x]) (by decide) (gcat_cons rfl (gcat_cons rfl gcat_nil)) (Nat.le_of_ble_eq_true rfl) rfl ?_
  refine G_aload_n dDV_raise_0 rfl ?_
  refine G_iload_n dDV_raise_1 rfl ?_
  refine G_callV (As := [.int x]) (rest := []) gDV_raise_DV_isInnerBox lDV_98.1 lDV_98.2.1 lDV_98.2.2.1 lDV_98.2.2.2 dDV_raise_2 rfl (Nat.le_of_ble_eq_true rfl) hS.1.1 ⟨by decide, by decide⟩ (cDV_isInnerBox hS hB) ?_
  rintro _ _ _ _ ⟨rfl, rfl, rfl, rfl⟩
  refine G_st (st' := [.int (if isIn nb x then 1 else 0)]) rfl ?_
  refine G_if_eq dDV_raise_5 (fun h1 => no (fun z => (if01.mp h1) z.1)) (fun h1 => ?_)
  have hin : isIn nb x := by
    by_cases c : isIn nb x
    · exact c
    · exact absurd (if01.mpr c) h1
  obtain ⟨j, hj0, hj, rfl⟩ := isIn_of hn6 hin
  rw [ixI_n (by omega)] at no ⊢
  refine G_aload_n dDV_raise_8 rfl ?_
  refine G_aload_n dDV_raise_9 rfl ?_
  refine G_getRs fDV_18 dDV_raise_10 hS.1.1 hS.1.2.2.2.1 ?_
  refine G_iload_n dDV_raise_13 rfl ?_
  refine G_aaldsN 2 dDV_raise_14 (by decide) hS.1.2.2.2.2.2.1 hS.1.2.2.2.2.2.2.1 (by decide) (by omega) (hS.2.2.1 j hj).1 ?_
  refine G_callV (As := [.ref (bx j)]) (rest := []) gDV_raise_DV_isLastOfItsParent lDV_105.1 lDV_105.2.1 lDV_105.2.2.1 lDV_105.2.2.2 dDV_raise_15 rfl (Nat.le_of_ble_eq_true rfl) hS.1.1 ⟨by decide, by decide⟩ (cDV_isLastOfItsParent hS hB hj) ?_
  rintro _ _ _ _ ⟨rfl, rfl, rfl, rfl⟩
  refine G_st (st' := [.int (if lsP od par j nb = j then 1 else 0)]) rfl ?_
  refine G_if_eq dDV_raise_18 (fun h2 => ?_) (fun h2 => no (fun z => z.2 (by rw [ixI_n (by omega)]; by_cases c : lsP od par j nb = j; exact c; exact absurd (if01.mpr c) h2)))
  obtain ⟨pos, hpos, hodp⟩ := hsur j hj
  refine G_aload_n dDV_raise_23 rfl ?_
  refine G_aload_n dDV_raise_24 rfl ?_
  refine G_getRs fDV_18 dDV_raise_25 hS.1.1 hS.1.2.2.2.1 ?_
  refine G_iload_n dDV_raise_28 rfl ?_
  refine G_aaldsN 2 dDV_raise_29 (by decide) hS.1.2.2.2.2.2.1 hS.1.2.2.2.2.2.2.1 (by decide) (by omega) (hS.2.2.1 j hj).1 ?_
  refine G_callV (As := [.ref (bx j)]) (rest := []) gDV_raise_DV_bringToFront lDV_109.1 lDV_109.2.1 lDV_109.2.2.1 lDV_109.2.2.2 dDV_raise_30 rfl (Nat.le_of_ble_eq_true rfl) hS.1.1 ⟨by decide, by decide⟩ (cDV_bringToFront hS hB hpos hodp) ?_
  rintro _ _ r1 _ ⟨rfl, rfl, rfl, e1, e2⟩
  refine G_st (st' := []) rfl ?_
  have hx := hI.od (gr' := r1) (od' := mvP od pos nb j) (D' := D) e1 (fun k hk => ⟨mvP_lt (fun k hk => (hS.2.2.2.2.2.2.1 k hk).1) hj k hk, e2 k hk⟩) (mvP_inj hS.2.2.2.2.2.2.2 hpos hodp) (fun _ _ => rfl) hD
  obtain ⟨hS1, hB1, -⟩ := id hx.1
  refine G_aload_n dDV_raise_33 rfl ?_
  refine G_getRs fDV_12 dDV_raise_34 hS1.1.1 hS1.1.2.2.1 ?_
  refine G_aload_n dDV_raise_37 rfl ?_
  refine G_getRs fDV_18 dDV_raise_38 hS1.1.1 hS1.1.2.2.2.1 ?_
  refine G_iload_n dDV_raise_41 rfl ?_
  refine G_aaldsN 2 dDV_raise_42 (by decide) hS1.1.2.2.2.2.2.1 hS1.1.2.2.2.2.2.2.1 (by decide) (by omega) (hS1.2.2.1 j hj).1 ?_
  refine G_getRs fDV_113 dDV_raise_43 (hS1.2.2.1 j hj).2.1.1 (hS1.2.2.1 j hj).2.1.2.1 ?_
  refine G_callV (As := [.ref (bx j + 1)]) (rest := []) gDV_raise_SC_damageArea lDV_117.1 lDV_117.2.1 lDV_117.2.2.1 lDV_117.2.2.2 dDV_raise_46 rfl (Nat.le_of_ble_eq_true rfl) hS1.1.2.2.2.2.2.2.2.2.2.1.1 ⟨by decide, by decide⟩ (cSC_damageArea hS1.1.2.2.2.2.2.2.2.2.2.1 (hS1.2.2.1 j hj).2.1.2.2.2.1 (by have := (hS1.2.2.1 j hj).2.2.2; omega) (hB1.2 j hj).2.2.2.2.2.2.1 hD) ?_
  rintro _ g2 _ _ ⟨rfl, rfl, rfl, hD2, hO2⟩
  refine G_st (st' := []) rfl ?_
  refine G_iconst (v := 1) dDV_raise_49 (by decide) ?_
  have hy := hx.1.od (gi' := g2) (od' := mvP od pos nb j) (fun _ _ => rfl) (fun k hk => hS1.2.2.2.2.2.2.1 k hk) hS1.2.2.2.2.2.2.2 (fun a ha => hO2 a (by omega)) hD2
  exact G_ireturn dDV_raise_50 rfl (nr_z (by decide)) (by decide) (by decide) ⟨rfl, hx.2.tr hy.2, Or.inl ⟨⟨hin, by rw [ixI_n (by omega)]; exact if01.mp h2⟩, rfl, pos, hpos, hodp, hy.1⟩⟩
end
section
theorem same4 {T : gT} {gi : gI} {gr : gR} {x : Option Value} {P : gT → gI → gR → Option Value → Prop} (h : P T gi gr x) : ∀ T' gi' gr' v, (T' = T ∧ gi' = gi ∧ gr' = gr ∧ v = x) → P T' gi' gr' v := by
  rintro _ _ _ _ ⟨rfl, rfl, rfl, rfl⟩
  exact h
theorem C_fop {T : gT} {gi : gI} {gr gr' : gR} {dv nb : Nat} {bx cx od : Nat → Nat} {par : Nat → Option Nat} {B : Nat → BS} {fo pr : Option Nat} {w h : Int32} {pl : Nat → Int32} {cs : Nat → Option K5} {D : Nat → Bool} {F : Nat → Int32} {fo' pr' : Option Nat} (hI : CInv T gi gr dv nb bx cx od par B fo pr w h pl cs D F) (h2 : ∀ a, a ≠ dv → gr' a = gr a) (h3 : ∀ k, k < 5 → gr' dv k = gr dv k) (hF : DvF gr' dv nb bx fo' pr') : CInv T gi gr' dv nb bx cx od par B fo' pr' w h pl cs D F ∧ CFr T T gi gi gr gr' dv := hI.ch (fun _ _ _ _ => rfl) h2 h3 hI.2.1 hF hI.2.2.2.2.2.2.2.1 hI.2.2.2.2.2.2.2.2.1
abbrev prC (pr : Option Nat) : Prop := pr = none
theorem C_press {E : gE} {T : gT} {gi : gI} {gr : gR} {dv nb : Nat} {bx cx od : Nat → Nat} {par : Nat → Option Nat} {B : Nat → BS} {fo pr : Option Nat} {w h : Int32} {pl : Nat → Int32} {cs : Nat → Option K5} {D : Nat → Bool} {F : Nat → Int32} {x y : Int32} (hI : CInv T gi gr dv nb bx cx od par B fo pr w h pl cs D F) : Ct E mDV_press [.ref dv, .int x, .int y] T gi gr (fun T' gi' gr' v => T' = T ∧ CFr T T' gi gi' gr gr' dv ∧ (pr = none ∧ v = some (.int (noI (hitP od par B nb x y))) ∧ CInv T' gi' gr' dv nb bx cx od par (scS par pl B nb (attP B (hitP od par B nb x y)) (attP B (hitP od par B nb x y)) D).1 (attP (scB par pl B nb) (attP B (hitP od par B nb x y))) (attP (scB par pl B nb) (attP B (hitP od par B nb x y))) w h pl cs (scS par pl B nb (attP B (hitP od par B nb x y)) (attP B (hitP od par B nb x y)) D).2 F ∨ ¬ pr = none ∧ v = some (.int (-2)) ∧ CInv T' gi' gr' dv nb bx cx od par B fo pr w h pl cs D F)) := by
  obtain ⟨hS, hB, hF, hL, hP, hC, hBd, hD, hM, hA⟩ := id hI
  have hlt := hitP_lt (B := B) (x := x) (y := y) hS
  refine Ct_of (ls := [.ref dv, .int x, .int y, .long 0]) (by decide) (gcat_cons rfl (gcat_cons rfl (gcat_cons rfl gcat_nil))) (Nat.le_of_ble_eq_true rfl) rfl ?_
  refine G_aload_n dDV_press_0 rfl ?_
  refine G_getR fDV_129 dDV_press_1 hS.1.1 ?_
  rw [hF.2.1]
  cases pr with
  | some i =>
    refine G_st (st' := [.ref (bx i)]) rfl ?_
    refine G_ifnull dDV_press_4 ?_
    refine G_bipush (v := (-2)) dDV_press_7 (by decide) ?_
    exact G_ireturn dDV_press_9 rfl rfl (by decide) (by decide) ⟨rfl, CFr.rf, Or.inr ⟨(fun z => by cases z), rfl, hI⟩⟩
  | none =>
    refine G_st (st' := [.null]) rfl ?_
    refine G_ifnullN dDV_press_4 ?_
    refine G_aload_n dDV_press_10 rfl ?_
    refine G_iload_n dDV_press_11 rfl ?_
    refine G_iload_n dDV_press_12 rfl ?_
    refine G_callV (As := [.int x, .int y]) (rest := []) gDV_press_DV_frontBox lDV_121.1 lDV_121.2.1 lDV_121.2.2.1 lDV_121.2.2.2 dDV_press_13 rfl (Nat.le_of_ble_eq_true rfl) hS.1.1 ⟨by decide, by decide⟩ (cDV_frontBox hS hB) ?_
    refine same4 ?_
    generalize hitP od par B nb x y = u at hlt ⊢
    refine G_st (st' := [va_rf (u.map bx)]) rfl ?_
    refine G_astore_nq (ls' := [.ref dv, .int x, .int y, va_rf (u.map bx)]) dDV_press_16 (by decide) rfl ?_
    have fin : ∀ r, r = (attP B u).map bx → G E mDV_press 34 [.ref dv, .int x, .int y, va_rf (u.map bx)] [va_rf r, .ref dv] T gi gr 0 0 (fun T' gi' gr' v => T' = T ∧ CFr T T' gi gi' gr gr' dv ∧ ((none : Option Nat) = none ∧ v = some (.int (noI u)) ∧ CInv T' gi' gr' dv nb bx cx od par (scS par pl B nb (attP B u) (attP B u) D).1 (attP (scB par pl B nb) (attP B u)) (attP (scB par pl B nb) (attP B u)) w h pl cs (scS par pl B nb (attP B u) (attP B u) D).2 F ∨ ¬ (none : Option Nat) = none ∧ v = some (.int (-2)) ∧ CInv T' gi' gr' dv nb bx cx od par B fo none w h pl cs D F)) := by
      rintro r rfl
      refine G_putR (r := (attP B u).map bx) rfl wDV_137 (Or.inl rfl) dDV_press_34 hS.1.1 (nr_o _) (ft_o _) ?_
      refine G_aload_n dDV_press_37 rfl ?_
      refine G_aload_n dDV_press_38 rfl ?_
      refine G_getR fDV_137 dDV_press_39 hS.1.1 ?_
      rw [gu_same]
      refine G_putR (r := (attP B u).map bx) rfl wDV_129 (Or.inl rfl) dDV_press_42 hS.1.1 (nr_o _) (ft_o _) ?_
      refine G_aload_n dDV_press_45 rfl ?_
      have hx := C_fop hI (gr' := gu (gu gr dv 5 ((attP B u).map bx)) dv 6 ((attP B u).map bx)) (fo' := attP B u) (pr' := attP B u) (fun a ha => by rw [gu_off ha, gu_off ha]) (fun k hk => by rw [gu_ne (by omega), gu_ne (by omega)]) ⟨by rw [gu_ne (by omega), gu_same], gu_same, attP_lt hlt, attP_lt hlt⟩
      refine G_callV (As := []) (rest := []) gDV_press_DV_showChanges lDV_42.1 lDV_42.2.1 lDV_42.2.2.1 lDV_42.2.2.2 dDV_press_46 rfl (Nat.le_of_ble_eq_true rfl) hS.1.1 ⟨by decide, by decide⟩ (C_show hx.1) ?_
      rintro _ _ _ _ ⟨rfl, rfl, hI2, hf2⟩
      refine G_st (st' := []) rfl ?_
      refine G_aload_nq dDV_press_49 rfl ?_
      refine G_callS (As := [va_rf (u.map bx)]) (rest := []) gDV_press_DV_numberOf lDV_125.1 lDV_125.2 dDV_press_50 rfl (Nat.le_of_ble_eq_true rfl) ⟨by decide, by decide⟩ (cDV_numberOf hI2.1 hI2.2.1 hlt) ?_
      refine same4 ?_
      refine G_st (st' := [.int (noI u)]) rfl ?_
      exact G_ireturn dDV_press_53 rfl rfl (by decide) (by decide) ⟨rfl, hx.2.tr hf2, Or.inl ⟨rfl, rfl, hI2⟩⟩
    refine G_aload_n dDV_press_17 rfl ?_
    refine G_aload_nq dDV_press_18 rfl ?_
    cases u with
    | none =>
      refine G_st (st' := [.null, .ref dv]) rfl ?_
      refine G_ifnullN dDV_press_19 ?_
      refine G_null dDV_press_33 ?_
      exact fin none rfl
    | some i =>
      have hi := hlt i rfl
      refine G_st (st' := [.ref (bx i), .ref dv]) rfl ?_
      refine G_ifnull dDV_press_19 ?_
      refine G_aload_n (a := bx i) dDV_press_22 rfl ?_
      refine G_callV (As := []) (rest := [.ref dv]) gDV_press_BX_canHaveAttention lDV_133.1 lDV_133.2.1 lDV_133.2.2.1 lDV_133.2.2.2 dDV_press_23 rfl (Nat.le_of_ble_eq_true rfl) (hS.2.2.1 i hi).2.1.1 ⟨by decide, by decide⟩ (cBX_canHaveAttention (hS.2.2.1 i hi).2.1 (hB.2 i hi).2.1 (hB.2 i hi).2.2.2.2.2.2.1) ?_
      refine same4 ?_
      refine G_st (st' := [.int (if chA (B i).1 (B i).2.2.2.2.2.1 then 1 else 0), .ref dv]) rfl ?_
      refine G_if_eq dDV_press_26 (fun h1 => ?_) (fun h1 => ?_)
      · refine G_null dDV_press_33 ?_
        exact fin none (by unfold attP; dsimp only; rw [if_neg (if01.mp h1)]; rfl)
      · refine G_aload_n (a := bx i) dDV_press_29 rfl ?_
        refine G_goto dDV_press_30 ?_
        exact fin (some (bx i)) (by unfold attP; dsimp only; rw [if_pos (by by_cases c : chA (B i).1 (B i).2.2.2.2.2.1; exact c; exact absurd (if01.mpr c) h1)]; rfl)
def rlB (par : Nat → Option Nat) (B : Nat → BS) (pr u : Option Nat) : Nat → BS := match pr with
  | some i => if u = some i then atB par i B else B
  | none => B
def rlO (pr u : Option Nat) : Option Nat := if u = pr then pr else none
theorem C_release {E : gE} {T : gT} {gi : gI} {gr : gR} {dv nb : Nat} {bx cx od : Nat → Nat} {par : Nat → Option Nat} {B : Nat → BS} {fo pr : Option Nat} {w h : Int32} {pl : Nat → Int32} {cs : Nat → Option K5} {D : Nat → Bool} {F : Nat → Int32} {x y : Int32} (hI : CInv T gi gr dv nb bx cx od par B fo pr w h pl cs D F) : Ct E mDV_release [.ref dv, .int x, .int y] T gi gr (fun T' gi' gr' v => T' = T ∧ CFr T T' gi gi' gr gr' dv ∧ (¬ pr = none ∧ v = some (.int (noI (rlO pr (hitP od par B nb x y)))) ∧ CInv T' gi' gr' dv nb bx cx od par (scS par pl (rlB par B pr (hitP od par B nb x y)) nb fo none D).1 (attP (scB par pl (rlB par B pr (hitP od par B nb x y)) nb) fo) (attP (scB par pl (rlB par B pr (hitP od par B nb x y)) nb) none) w h pl cs (scS par pl (rlB par B pr (hitP od par B nb x y)) nb fo none D).2 F ∨ pr = none ∧ v = some (.int (-2)) ∧ CInv T' gi' gr' dv nb bx cx od par B fo pr w h pl cs D F)) := by
  obtain ⟨hS, hB, hF, hL, hP, hC, hBd, hD, hM, hA⟩ := id hI
  have hlt := hitP_lt (B := B) (x := x) (y := y) hS
  refine Ct_of (ls := [.ref dv, .int x, .int y, .long 0]) (by decide) (gcat_cons rfl (gcat_cons rfl (gcat_cons rfl gcat_nil))) (Nat.le_of_ble_eq_true rfl) rfl ?_
  refine G_aload_n dDV_release_0 rfl ?_
  refine G_getR fDV_129 dDV_release_1 hS.1.1 ?_
  rw [hF.2.1]
  cases pr with
  | none =>
    refine G_st (st' := [.null]) rfl ?_
    refine G_ifnonnullN dDV_release_4 ?_
    refine G_bipush (v := (-2)) dDV_release_7 (by decide) ?_
    exact G_ireturn dDV_release_9 rfl rfl (by decide) (by decide) ⟨rfl, CFr.rf, Or.inr ⟨rfl, rfl, hI⟩⟩
  | some i =>
    have hi := hF.2.2.2 i rfl
    refine G_st (st' := [.ref (bx i)]) rfl ?_
    refine G_ifnonnull dDV_release_4 ?_
    refine G_aload_n dDV_release_10 rfl ?_
    refine G_iload_n dDV_release_11 rfl ?_
    refine G_iload_n dDV_release_12 rfl ?_
    refine G_callV (As := [.int x, .int y]) (rest := []) gDV_release_DV_frontBox lDV_121.1 lDV_121.2.1 lDV_121.2.2.1 lDV_121.2.2.2 dDV_release_13 rfl (Nat.le_of_ble_eq_true rfl) hS.1.1 ⟨by decide, by decide⟩ (cDV_frontBox hS hB) ?_
    refine same4 ?_
    generalize hitP od par B nb x y = u at hlt ⊢
    refine G_st (st' := [va_rf (u.map bx)]) rfl ?_
    refine G_aload_n dDV_release_16 rfl ?_
    refine G_getRs fDV_129 dDV_release_17 hS.1.1 hF.2.1 ?_
    have hx := C_fop hI (gr' := gu gr dv 6 none) (fo' := fo) (pr' := none) (fun a ha => by rw [gu_off ha]) (fun k hk => by rw [gu_ne (by omega)]) ⟨by rw [gu_ne (by omega)]; exact hF.1, gu_same, hF.2.2.1, fun i h => by cases h⟩
    obtain ⟨hS1, hB1, hF1, hL1, hP1, hC1, hBd1, hD1, hM1, hA1⟩ := id hx.1
    refine G_acmp_ne (rx := u.map bx) (ry := some (bx i)) rfl rfl dDV_release_20 (fun h1 => ?_) (fun h1 => ?_)
    · have hu : ¬ u = some i := fun z => h1 (by rw [z]; rfl)
      refine G_null dDV_release_30 ?_
      refine G_astore_nN (ls' := [.ref dv, .int x, .int y, .null]) dDV_release_31 (by decide) rfl ?_
      refine G_aload_n dDV_release_32 rfl ?_
      refine G_null dDV_release_33 ?_
      refine G_putR (r := none) rfl wDV_129 (Or.inl rfl) dDV_release_34 hS.1.1 (nr_o _) (ft_o _) ?_
      refine G_aload_nN dDV_release_37 rfl ?_
      refine G_ifnullN dDV_release_38 ?_
      refine G_aload_n dDV_release_45 rfl ?_
      refine G_callV (As := []) (rest := []) gDV_release_DV_showChanges lDV_42.1 lDV_42.2.1 lDV_42.2.2.1 lDV_42.2.2.2 dDV_release_46 rfl (Nat.le_of_ble_eq_true rfl) hS.1.1 ⟨by decide, by decide⟩ (C_show hx.1) ?_
      rintro _ _ _ _ ⟨rfl, rfl, hI2, hf2⟩
      refine G_st (st' := []) rfl ?_
      refine G_aload_nN dDV_release_49 rfl ?_
      refine G_callS (As := [va_rf ((none : Option Nat).map bx)]) (rest := []) gDV_release_DV_numberOf lDV_125.1 lDV_125.2 dDV_release_50 rfl (Nat.le_of_ble_eq_true rfl) ⟨by decide, by decide⟩ (cDV_numberOf (o := none) hI2.1 hI2.2.1 (fun _ z => by cases z)) ?_
      refine same4 ?_
      refine G_st (st' := [.int (noI none)]) rfl ?_
      exact G_ireturn dDV_release_53 rfl rfl (by decide) (by decide) ⟨rfl, hx.2.tr hf2, Or.inl ⟨(fun z => by cases z), by unfold rlO; rw [if_neg hu], by unfold rlB; dsimp only; rw [if_neg hu]; exact hI2⟩⟩
    · have hu : u = some i := (hS.injO hlt (b := some i) (fun j z => by cases z; exact hi)).mp h1
      refine G_aload_n dDV_release_23 rfl ?_
      refine G_getRs fDV_129 dDV_release_24 hS.1.1 hF.2.1 ?_
      refine G_goto dDV_release_27 ?_
      refine G_astore_n (ls' := [.ref dv, .int x, .int y, .ref (bx i)]) dDV_release_31 (by decide) rfl ?_
      refine G_aload_n dDV_release_32 rfl ?_
      refine G_null dDV_release_33 ?_
      refine G_putR (r := none) rfl wDV_129 (Or.inl rfl) dDV_release_34 hS.1.1 (nr_o _) (ft_o _) ?_
      refine G_aload_n dDV_release_37 rfl ?_
      refine G_ifnull dDV_release_38 ?_
      refine G_aload_n dDV_release_41 rfl ?_
      refine G_callS (As := [.ref (bx i)]) (rest := []) gDV_release_DV_activate lDV_140.1 lDV_140.2 dDV_release_42 rfl (Nat.le_of_ble_eq_true rfl) ⟨by decide, by decide⟩ (cDV_activate hS1 hB1 hi) ?_
      rintro _ g2 _ _ ⟨rfl, rfl, rfl, hB2, hO2⟩
      refine G_st (st' := []) rfl ?_
      have hge := fun j (hj : j < nb) => (hS.2.2.1 j hj).2.2.2
      have hy := hx.1.ch (gi' := g2) (D' := D) (F' := F) (fun a g1 _ _ => hO2 a (fun j hj => by have := g1 j hj; omega)) (fun _ _ => rfl) (fun _ _ => rfl) hB2 hF1 (fun k hk => by rw [hO2 _ (fun j hj => by have := hge j hj; omega)]; exact hD1 k hk) (fun k hk => by rw [hO2 _ (fun j hj => by have := hge j hj; omega)]; exact hM1 k hk)
      refine G_aload_n dDV_release_45 rfl ?_
      refine G_callV (As := []) (rest := []) gDV_release_DV_showChanges lDV_42.1 lDV_42.2.1 lDV_42.2.2.1 lDV_42.2.2.2 dDV_release_46 rfl (Nat.le_of_ble_eq_true rfl) hS.1.1 ⟨by decide, by decide⟩ (C_show hy.1) ?_
      rintro _ _ _ _ ⟨rfl, rfl, hI2, hf2⟩
      refine G_st (st' := []) rfl ?_
      refine G_aload_n dDV_release_49 rfl ?_
      refine G_callS (As := [va_rf ((some i).map bx)]) (rest := []) gDV_release_DV_numberOf lDV_125.1 lDV_125.2 dDV_release_50 rfl (Nat.le_of_ble_eq_true rfl) ⟨by decide, by decide⟩ (cDV_numberOf (o := some i) hI2.1 hI2.2.1 (fun j z => by cases z; exact hi)) ?_
      refine same4 ?_
      refine G_st (st' := [.int (noI (some i))]) rfl ?_
      exact G_ireturn dDV_release_53 rfl rfl (by decide) (by decide) ⟨rfl, hx.2.tr (hy.2.tr hf2), Or.inl ⟨(fun z => by cases z), by unfold rlO; rw [if_pos hu], by unfold rlB; dsimp only; rw [if_pos hu]; exact hI2⟩⟩
def kyB (par : Nat → Option Nat) (B : Nat → BS) (fo : Option Nat) : Nat → BS := match fo with
  | some i => atB par i B
  | none => B
theorem C_key {E : gE} {T : gT} {gi : gI} {gr : gR} {dv nb : Nat} {bx cx od : Nat → Nat} {par : Nat → Option Nat} {B : Nat → BS} {fo pr : Option Nat} {w h : Int32} {pl : Nat → Int32} {cs : Nat → Option K5} {D : Nat → Bool} {F : Nat → Int32} (hI : CInv T gi gr dv nb bx cx od par B fo pr w h pl cs D F) : Ct E mDV_key [.ref dv] T gi gr (fun T' gi' gr' v => T' = T ∧ CFr T T' gi gi' gr gr' dv ∧ (¬ fo = none ∧ v = some (.int (noI (attP (scB par pl (kyB par B fo) nb) fo))) ∧ CInv T' gi' gr' dv nb bx cx od par (scS par pl (kyB par B fo) nb fo pr D).1 (attP (scB par pl (kyB par B fo) nb) fo) (attP (scB par pl (kyB par B fo) nb) pr) w h pl cs (scS par pl (kyB par B fo) nb fo pr D).2 F ∨ fo = none ∧ v = some (.int (-1)) ∧ CInv T' gi' gr' dv nb bx cx od par B fo pr w h pl cs D F)) := by
  obtain ⟨hS, hB, hF, hL, hP, hC, hBd, hD, hM, hA⟩ := id hI
  refine Ct_of (ls := [.ref dv]) (by decide) (gcat_cons rfl gcat_nil) (Nat.le_of_ble_eq_true rfl) rfl ?_
  refine G_aload_n dDV_key_0 rfl ?_
  refine G_getR fDV_137 dDV_key_1 hS.1.1 ?_
  rw [hF.1]
  cases fo with
  | none =>
    refine G_st (st' := [.null]) rfl ?_
    refine G_ifnullN dDV_key_4 ?_
    refine G_aload_n dDV_key_18 rfl ?_
    refine G_getR fDV_137 dDV_key_19 hS.1.1 ?_
    rw [hF.1]
    refine G_callS (As := [va_rf ((none : Option Nat).map bx)]) (rest := []) gDV_key_DV_numberOf lDV_125.1 lDV_125.2 dDV_key_22 rfl (Nat.le_of_ble_eq_true rfl) ⟨by decide, by decide⟩ (cDV_numberOf (o := none) hS hB (fun _ z => by cases z)) ?_
    refine same4 ?_
    refine G_st (st' := [.int (noI none)]) rfl ?_
    exact G_ireturn dDV_key_25 rfl rfl (by decide) (by decide) ⟨rfl, CFr.rf, Or.inr ⟨rfl, rfl, hI⟩⟩
  | some i =>
    have hi := hF.2.2.1 i rfl
    refine G_st (st' := [.ref (bx i)]) rfl ?_
    refine G_ifnull dDV_key_4 ?_
    refine G_aload_n dDV_key_7 rfl ?_
    refine G_getRs fDV_137 dDV_key_8 hS.1.1 hF.1 ?_
    refine G_callS (As := [.ref (bx i)]) (rest := []) gDV_key_DV_activate lDV_140.1 lDV_140.2 dDV_key_11 rfl (Nat.le_of_ble_eq_true rfl) ⟨by decide, by decide⟩ (cDV_activate hS hB hi) ?_
    rintro _ g2 _ _ ⟨rfl, rfl, rfl, hB2, hO2⟩
    refine G_st (st' := []) rfl ?_
    have hge := fun j (hj : j < nb) => (hS.2.2.1 j hj).2.2.2
    have hy := hI.ch (gi' := g2) (D' := D) (F' := F) (fun a g1 _ _ => hO2 a (fun j hj => by have := g1 j hj; omega)) (fun _ _ => rfl) (fun _ _ => rfl) hB2 hF (fun k hk => by rw [hO2 _ (fun j hj => by have := hge j hj; omega)]; exact hD k hk) (fun k hk => by rw [hO2 _ (fun j hj => by have := hge j hj; omega)]; exact hM k hk)
    refine G_aload_n dDV_key_14 rfl ?_
    refine G_callV (As := []) (rest := []) gDV_key_DV_showChanges lDV_42.1 lDV_42.2.1 lDV_42.2.2.1 lDV_42.2.2.2 dDV_key_15 rfl (Nat.le_of_ble_eq_true rfl) hS.1.1 ⟨by decide, by decide⟩ (C_show hy.1) ?_
    rintro _ _ _ _ ⟨rfl, rfl, hI2, hf2⟩
    refine G_st (st' := []) rfl ?_
    refine G_aload_n dDV_key_18 rfl ?_
    refine G_getR fDV_137 dDV_key_19 hS.1.1 ?_
    rw [hI2.2.2.1.1]
    refine G_callS (As := [va_rf ((attP (scB par pl (atB par i B) nb) (some i)).map bx)]) (rest := []) gDV_key_DV_numberOf lDV_125.1 lDV_125.2 dDV_key_22 rfl (Nat.le_of_ble_eq_true rfl) ⟨by decide, by decide⟩ (cDV_numberOf hI2.1 hI2.2.1 hI2.2.2.1.2.2.1) ?_
    refine same4 ?_
    refine G_st (st' := [.int (noI (attP (scB par pl (atB par i B) nb) (some i)))]) rfl ?_
    exact G_ireturn dDV_key_25 rfl rfl (by decide) (by decide) ⟨rfl, hy.2.tr hf2, Or.inl ⟨(fun z => by cases z), rfl, hI2⟩⟩
end
section
theorem MetF_ofW {l : Launch} {y : MethodName} {ws ws' : List Cond} {rm : Room} {Pc : Array Value → State → Prop} {Qc : Array Value → State → Outcome → State → Prop} {mc ms : Nat} {free : Addr → Prop} {cc : ByteArray} {maxL : Nat} {ret : Option FieldType}
    (hy : plainFor y = true) (hw : ws = Cond.code y cc maxL ret :: ws')
    (body : ∀ p e s m args below meth c s₁, BodyLoose p l y (headSpec ws rm) cc maxL ret e s m args below meth c s₁ → c.maxLocals = maxL → Pc args s → W p l e (headSpec ws rm).room s m args below meth c s.heap [] 0 0 (MQ below Qc args s mc ms free) (entryFrame m args maxL)) : Met l y ws rm Pc Qc mc ms free := by
  refine MetFree.of_bodySF (code := cc) (maxLocals := maxL) (ret := ret) hy ?_ ?_
  · intro args s m h hn
    obtain ⟨meth, c, h1, h2, h3, h4, h5, h6, -, -⟩ := Cond.code_spec hn (atoms_spec (ws := ws) h _ (by rw [hw]; exact List.mem_cons_self))
    exact ⟨meth, c, h1, h2, h3, h4, h5, h6⟩
  · intro p e s m args below meth c s₁ B hml hP _
    have hh0 : s₁.heap = s.heap := by rw [B.state]; rfl
    obtain ⟨t, a1, o, b1, b2, b3⟩ := body p e s m args below meth c s₁ B hml hP s₁ hh0 (Stand.of_body B)
    exact ⟨t, o, a1, b1, b2, ⟨b3.1, b3.2⟩⟩
theorem Ct_ofF {E : gE} {X : gX} {As ls : List Value} {T : gT} {gi : gI} {gr : gR} {Q : gQ} (hpl : plainFor X.1 = true) (hcat : ∀ v ∈ As, v.category = 1) (hl : As.length ≤ X.2.2.1) (hls : As ++ List.replicate (X.2.2.1 - As.length) (.long 0) = ls) (hG : G E X 0 ls [] T gi gr 0 0 Q) : Ct E X As T gi gr Q := by
  subst hls
  refine MetF_ofW (l := E.1) (cc := X.2.1) (maxL := X.2.2.1) (ret := X.2.2.2.1) hpl rfl ?_
  intro p e s m args below meth c s₁ B hml hv
  obtain ⟨rfl, hW, hK⟩ := hv
  have hts := atoms_spec (ws := gws X) B.pre
  rw [lg_entry_eq]
  have hlocks := B.notSynchronized
  refine hG p e s m _ below meth c _ ⟨B.exec, B.bytes, hml, B.returns, hlocks, findClass_of_methodNamed B.named, fun w hw => hts w (List.mem_cons_of_mem _ hw), (name_of_methodNamed B.named B.method).1, hK⟩ ?_ s.heap [] _ (gL_entry hcat hl) hW (fun q hq => by cases hq)
  intro T' gi' gr' v H' locs' lsA pc' hq hw hf hrt
  have fin : ∀ t : State, t.heap = H' → s.WarmedH t.vm → ∃ (T' : gT) (gi' : gI) (gr' : gR) (v' : Option Value), (Outcome.returned v) = .returned v' ∧ Q T' gi' gr' v' ∧ gW E T' gi' gr' t t.heap ∧ gK E t := fun t ht hwm => ⟨T', gi', gr', v, rfl, hq, by rw [ht]; exact gW_moved hwm.alike hw, gK_warm hwm hK⟩
  have hret := B.returns
  cases v with
  | none => exact W.vret B.exec B.bytes (by rw [hret]; exact hrt.2) fin hf hrt.1
  | some v =>
    cases v with
    | int x =>
      obtain ⟨h1, ty, h2, h3⟩ := hrt
      exact W.zret B.exec B.bytes (by rw [hret]; exact h2) h3 fin hf h1
    | null =>
      obtain ⟨h1, h2, C, h3⟩ := hrt
      exact W.aret B.exec B.bytes (by rw [hret]; exact h3) (Or.inl ⟨C, rfl⟩) h2 fin hf h1
    | ref a =>
      obtain ⟨h1, h2, C, h3⟩ := hrt
      exact W.aret B.exec B.bytes (by rw [hret]; exact h3) (Or.inl ⟨C, rfl⟩) h2 fin hf h1
    | long x => obtain ⟨h1, h2, C, h3⟩ := hrt; rcases h2 with h2 | ⟨a, h2⟩ <;> cases h2
    | float x => obtain ⟨h1, h2, C, h3⟩ := hrt; rcases h2 with h2 | ⟨a, h2⟩ <;> cases h2
    | double x => obtain ⟨h1, h2, C, h3⟩ := hrt; rcases h2 with h2 | ⟨a, h2⟩ <;> cases h2
    | retAddr x => obtain ⟨h1, h2, C, h3⟩ := hrt; rcases h2 with h2 | ⟨a, h2⟩ <;> cases h2
def fmI (x y : Int32) : Int32 := if 0 ≤ x ^^^ y then x - x / y * y else if x - x / y * y = 0 then x - x / y * y else x - x / y * y + y
theorem cJM_floorMod {E : gE} {T : gT} {gi : gI} {gr : gR} {x y : Int32} (hy : ¬ y = 0) : Ct E mJM_floorMod [.int x, .int y] T gi gr (fun T' gi' gr' v => T' = T ∧ gi' = gi ∧ gr' = gr ∧ v = some (.int (fmI x y))) := by
  refine Ct_ofF (ls := [.int x, .int y, .long 0]) (by decide +kernel) (gcat_cons rfl (gcat_cons rfl gcat_nil)) (Nat.le_of_ble_eq_true rfl) rfl ?_
  refine G_iload_n dJM_floorMod_0 rfl ?_
  refine G_iload_n dJM_floorMod_1 rfl ?_
  refine G_irem dJM_floorMod_2 hy ?_
  refine G_istore_n (ls' := [.int x, .int y, .int (x - x / y * y)]) dJM_floorMod_3 (by decide) rfl ?_
  refine G_iload_n dJM_floorMod_4 rfl ?_
  refine G_iload_n dJM_floorMod_5 rfl ?_
  refine G_ixor dJM_floorMod_6 ?_
  refine G_if_ge dJM_floorMod_7 (fun h1 => ?_) (fun h1 => ?_)
  · refine G_iload_n dJM_floorMod_18 rfl ?_
    exact G_ireturn dJM_floorMod_19 rfl rfl (by decide) (by decide) ⟨rfl, rfl, rfl, by unfold fmI; rw [if_pos h1]⟩
  refine G_iload_n dJM_floorMod_10 rfl ?_
  refine G_if_eq dJM_floorMod_11 (fun h2 => ?_) (fun h2 => ?_)
  · refine G_iload_n dJM_floorMod_18 rfl ?_
    exact G_ireturn dJM_floorMod_19 rfl rfl (by decide) (by decide) ⟨rfl, rfl, rfl, by unfold fmI; rw [if_neg h1, if_pos h2]⟩
  refine G_iload_n dJM_floorMod_14 rfl ?_
  refine G_iload_n dJM_floorMod_15 rfl ?_
  refine G_iadd dJM_floorMod_16 ?_
  exact G_ireturn dJM_floorMod_17 rfl rfl (by decide) (by decide) ⟨rfl, rfl, rfl, by unfold fmI; rw [if_neg h1, if_neg h2]⟩
def stA0 (back : Bool) (fo : Option Nat) (nb : Nat) : Int32 := match fo with
  | some f => nI f
  | none => if back = true then nI nb else -1
def stPc (back : Bool) : Int32 := if back = true then -1 else 1
def stX (back : Bool) (fo : Option Nat) (nb i : Nat) : Nat := (fmI (stA0 back fo nb + nI i * stPc back) (nI nb)).toNatClampNeg
def stOk1 (back : Bool) (fo : Option Nat) (nb i : Nat) : Bool := decide (stX back fo nb i < nb) && decide (fmI (stA0 back fo nb + nI i * stPc back) (nI nb) = nI (stX back fo nb i))
def stOk (nb i f : Nat) : Bool := !(decide (1 ≤ i) && decide (i ≤ nb)) || ((!decide (f < nb) || (stOk1 true (some f) nb i && stOk1 false (some f) nb i)) && stOk1 true none nb i && stOk1 false none nb i)
theorem stX_dec : ∀ nb, nb < 7 → ∀ i, i < 7 → ∀ f, f < 7 → stOk nb i f = true := by
  decide +kernel
theorem stX_ok {back : Bool} {fo : Option Nat} {nb i : Nat} (h6 : nb ≤ 6) (hf : ∀ j, fo = some j → j < nb) (h1 : 1 ≤ i) (h2 : i ≤ nb) : stX back fo nb i < nb ∧ fmI (stA0 back fo nb + nI i * stPc back) (nI nb) = nI (stX back fo nb i) := by
  cases fo with
  | none =>
    have h := stX_dec nb (by omega) i (by omega) 0 (by omega)
    simp only [stOk, stOk1, decide_eq_true h1, decide_eq_true h2, Bool.and_true, Bool.not_true, Bool.false_or, Bool.and_eq_true, decide_eq_true_eq] at h
    cases back with
    | true => exact h.1.2
    | false => exact h.2
  | some f =>
    have hf' := hf f rfl
    have h := stX_dec nb (by omega) i (by omega) f (by omega)
    simp only [stOk, stOk1, decide_eq_true h1, decide_eq_true h2, decide_eq_true hf', Bool.and_true, Bool.not_true, Bool.false_or, Bool.and_eq_true, decide_eq_true_eq] at h
    cases back with
    | true => exact h.1.1.1
    | false => exact h.1.1.2
abbrev atB1 (B : Nat → BS) (i : Nat) : Prop := chA (B i).1 (B i).2.2.2.2.2.1
def stS (A : Nat → Prop) [DecidablePred A] (ix : Nat → Nat) : Nat → Nat → Option Nat
  | 0, _ => none
  | n + 1, i => if A (ix i) then some (ix i) else stS A ix n (i + 1)
def stF (B : Nat → BS) (nb : Nat) (fo : Option Nat) (back : Bool) : Option Nat := match stS (atB1 B) (stX back fo nb) nb 1 with
  | some j => some j
  | none => fo
theorem stS_lt {A : Nat → Prop} [DecidablePred A] {ix : Nat → Nat} {nb : Nat} (h : ∀ i, 1 ≤ i → i ≤ nb → ix i < nb) : ∀ n i, 1 ≤ i → i + n ≤ nb + 1 → ∀ j, stS A ix n i = some j → j < nb
  | 0, _, _, _, j, hj => by cases hj
  | n + 1, i, h1, h2, j, hj => by
    unfold stS at hj
    split at hj
    · cases hj; exact h i h1 (by omega)
    · exact stS_lt h n (i + 1) (by omega) (by omega) j hj
theorem stF_lt {B : Nat → BS} {nb : Nat} {fo : Option Nat} {back : Bool} (h6 : nb ≤ 6) (hf : ∀ j, fo = some j → j < nb) : ∀ j, stF B nb fo back = some j → j < nb := by
  intro j hj
  unfold stF at hj
  cases hh : stS (atB1 B) (stX back fo nb) nb 1 with
  | none => rw [hh] at hj; exact hf j hj
  | some k => rw [hh] at hj; cases hj; exact stS_lt (fun i h1 h2 => (stX_ok h6 hf h1 h2).1) nb 1 (by omega) (by omega) j hh
theorem st_loop {E : gE} {T : gT} {gi : gI} {gr : gR} {dv nb : Nat} {bx cx od : Nat → Nat} {par : Nat → Option Nat} {B : Nat → BS} {fo pr : Option Nat} {w h : Int32} {pl : Nat → Int32} {cs : Nat → Option K5} {D : Nat → Bool} {F : Nat → Int32} {back : Bool} {Q : gQ} (hI : CInv T gi gr dv nb bx cx od par B fo pr w h pl cs D F) (kx : ∀ (gr' : gR) (ls : List Value), CInv T gi gr' dv nb bx cx od par B (stF B nb fo back) pr w h pl cs D F → CFr T T gi gi gr gr' dv → ls[0]? = some (.ref dv) → G E mDV_step 93 ls [] T gi gr' 0 0 Q) : ∀ (n i : Nat) (v5 : Value), 1 ≤ i → i + n = nb + 1 → stS (atB1 B) (stX back fo nb) nb 1 = stS (atB1 B) (stX back fo nb) n i → G E mDV_step 41 [.ref dv, .int (bI back), .int (stPc back), .int (stA0 back fo nb), .int (nI i), v5] [] T gi gr 0 0 Q := by
  obtain ⟨hS, hB, hF, hL, hP, hC, hBd, hD, hM, hA⟩ := id hI
  have hn6 := hS.2.1.2
  have hfl := stF_lt (B := B) (back := back) hn6 hF.2.2.1
  intro n
  induction n with
  | zero =>
    intro i v5 h1 h2 h3
    refine G_iload dDV_step_41 rfl ?_
    refine G_aload_n dDV_step_43 rfl ?_
    refine G_getI fDV_45 dDV_step_44 hS.1.1 ?_
    rw [hB.1]
    have : i = nb + 1 := by omega
    subst this
    refine G_icmp_gt dDV_step_47 (fun _ => kx gr _ ?_ CFr.rf rfl) (fun z => absurd (nI_lt (a := nb) (b := nb + 1) (by omega) (by omega)) z)
    unfold stF
    rw [h3]
    exact hI
  | succ n ih =>
    intro i v5 h1 h2 h3
    have hx := stX_ok (back := back) hn6 hF.2.2.1 h1 (by omega)
    have hj := hx.1
    refine G_iload dDV_step_41 rfl ?_
    refine G_aload_n dDV_step_43 rfl ?_
    refine G_getI fDV_45 dDV_step_44 hS.1.1 ?_
    rw [hB.1]
    refine G_icmp_gt dDV_step_47 (fun z => absurd z (nI_nlt (by omega) (by omega))) (fun _ => ?_)
    refine G_aload_n dDV_step_50 rfl ?_
    refine G_getRs fDV_18 dDV_step_51 hS.1.1 hS.1.2.2.2.1 ?_
    refine G_iload_n dDV_step_54 rfl ?_
    refine G_iload dDV_step_55 rfl ?_
    refine G_iload_n dDV_step_57 rfl ?_
    refine G_imul dDV_step_58 ?_
    refine G_iadd dDV_step_59 ?_
    refine G_aload_n dDV_step_60 rfl ?_
    refine G_getI fDV_45 dDV_step_61 hS.1.1 ?_
    rw [hB.1]
    refine G_callS (As := [.int (stA0 back fo nb + nI i * stPc back), .int (nI nb)]) (rest := [.ref (dv + 4)]) gDV_step_JM_floorMod lDV_146.1 lDV_146.2 dDV_step_64 rfl (Nat.le_of_ble_eq_true rfl) ⟨by decide, by decide⟩ (cJM_floorMod (fun z => by have := (nI_z (by omega)).mp z; omega)) ?_
    refine same4 ?_
    refine G_st (st' := [.int (nI (stX back fo nb i)), .ref (dv + 4)]) (by rw [hx.2]; rfl) ?_
    generalize hje : stX back fo nb i = j at hj ⊢
    refine G_aaldsN 2 dDV_step_67 (by decide) hS.1.2.2.2.2.2.1 hS.1.2.2.2.2.2.2.1 (by decide) (by omega) (hS.2.2.1 j hj).1 ?_
    refine G_astore (ls' := [.ref dv, .int (bI back), .int (stPc back), .int (stA0 back fo nb), .int (nI i), .ref (bx j)]) dDV_step_68 (by decide) rfl ?_
    refine G_aload dDV_step_70 rfl ?_
    refine G_callV (As := []) (rest := []) gDV_step_BX_canHaveAttention lDV_133.1 lDV_133.2.1 lDV_133.2.2.1 lDV_133.2.2.2 dDV_step_72 rfl (Nat.le_of_ble_eq_true rfl) (hS.2.2.1 j hj).2.1.1 ⟨by decide, by decide⟩ (cBX_canHaveAttention (hS.2.2.1 j hj).2.1 (hB.2 j hj).2.1 (hB.2 j hj).2.2.2.2.2.2.1) ?_
    refine same4 ?_
    refine G_st (st' := [.int (if atB1 B j then 1 else 0)]) rfl ?_
    refine G_if_eq dDV_step_75 (fun h4 => ?_) (fun h4 => ?_)
    · refine G_iinc (ls' := [.ref dv, .int (bI back), .int (stPc back), .int (stA0 back fo nb), .int (nI (i + 1)), .ref (bx j)]) dDV_step_87 rfl (nI_inc i) (by decide) rfl ?_
      refine G_goto dDV_step_90 ?_
      exact ih (i + 1) _ (by omega) (by omega) (by rw [h3]; conv => lhs; unfold stS; rw [hje, if_neg (if01.mp h4)])
    · refine G_aload_n dDV_step_78 rfl ?_
      refine G_aload dDV_step_79 rfl ?_
      refine G_putR (r := some (bx j)) rfl wDV_137 (Or.inl rfl) dDV_step_81 hS.1.1 (nr_o _) (ft_o _) ?_
      refine G_goto dDV_step_84 ?_
      have hst : stF B nb fo back = some j := by unfold stF; rw [h3]; conv => lhs; unfold stS; rw [hje, if_pos (by by_cases c : atB1 B j; exact c; exact absurd (if01.mpr c) h4)]
      have hy := C_fop hI (gr' := gu gr dv 5 (some (bx j))) (fo' := some j) (pr' := pr) (fun a ha => by rw [gu_off ha]) (fun k hk => by rw [gu_ne (by omega)]) ⟨gu_same, by rw [gu_ne (by omega)]; exact hF.2.1, fun k z => by cases z; exact hj, hF.2.2.2⟩
      exact kx _ _ (by rw [hst]; exact hy.1) hy.2 rfl
theorem C_step {E : gE} {T : gT} {gi : gI} {gr : gR} {dv nb : Nat} {bx cx od : Nat → Nat} {par : Nat → Option Nat} {B : Nat → BS} {fo pr : Option Nat} {w h : Int32} {pl : Nat → Int32} {cs : Nat → Option K5} {D : Nat → Bool} {F : Nat → Int32} {back : Bool} (hI : CInv T gi gr dv nb bx cx od par B fo pr w h pl cs D F) : Ct E mDV_step [.ref dv, .int (bI back)] T gi gr (fun T' gi' gr' v => T' = T ∧ CFr T T' gi gi' gr gr' dv ∧ v = some (.int (noI (attP (scB par pl B nb) (stF B nb fo back)))) ∧ CInv T' gi' gr' dv nb bx cx od par (scS par pl B nb (stF B nb fo back) pr D).1 (attP (scB par pl B nb) (stF B nb fo back)) (attP (scB par pl B nb) pr) w h pl cs (scS par pl B nb (stF B nb fo back) pr D).2 F) := by
  obtain ⟨hS, hB, hF, hL, hP, hC, hBd, hD, hM, hA⟩ := id hI
  refine Ct_of (ls := [.ref dv, .int (bI back), .long 0, .long 0, .long 0, .long 0]) (by decide) (gcat_cons rfl (gcat_cons rfl gcat_nil)) (Nat.le_of_ble_eq_true rfl) rfl ?_
  have main : ∀ v5, G E mDV_step 41 [.ref dv, .int (bI back), .int (stPc back), .int (stA0 back fo nb), .int (nI 1), v5] [] T gi gr 0 0 (fun T' gi' gr' v => T' = T ∧ CFr T T' gi gi' gr gr' dv ∧ v = some (.int (noI (attP (scB par pl B nb) (stF B nb fo back)))) ∧ CInv T' gi' gr' dv nb bx cx od par (scS par pl B nb (stF B nb fo back) pr D).1 (attP (scB par pl B nb) (stF B nb fo back)) (attP (scB par pl B nb) pr) w h pl cs (scS par pl B nb (stF B nb fo back) pr D).2 F) := by
    intro v5
    refine st_loop hI (fun gr' ls hI1 hf1 hls => ?_) nb 1 v5 (by omega) (by omega) rfl
    refine G_aload_n dDV_step_93 hls ?_
    refine G_callV (As := []) (rest := []) gDV_step_DV_showChanges lDV_42.1 lDV_42.2.1 lDV_42.2.2.1 lDV_42.2.2.2 dDV_step_94 rfl (Nat.le_of_ble_eq_true rfl) hS.1.1 ⟨by decide, by decide⟩ (C_show hI1) ?_
    rintro _ _ _ _ ⟨rfl, rfl, hI2, hf2⟩
    refine G_st (st' := []) rfl ?_
    refine G_aload_n dDV_step_97 hls ?_
    refine G_getR fDV_137 dDV_step_98 hI2.1.1.1 ?_
    rw [hI2.2.2.1.1]
    refine G_callS (As := [va_rf ((attP (scB par pl B nb) (stF B nb fo back)).map bx)]) (rest := []) gDV_step_DV_numberOf lDV_125.1 lDV_125.2 dDV_step_101 rfl (Nat.le_of_ble_eq_true rfl) ⟨by decide, by decide⟩ (cDV_numberOf hI2.1 hI2.2.1 hI2.2.2.1.2.2.1) ?_
    refine same4 ?_
    refine G_st (st' := [.int (noI (attP (scB par pl B nb) (stF B nb fo back)))]) rfl ?_
    exact G_ireturn dDV_step_104 rfl rfl (by decide) (by decide) ⟨rfl, hf1.tr hf2, rfl, hI2⟩
  have mid : ∀ v3 : Int32, v3 = (if back = true then nI nb else -1) → G E mDV_step 22 [.ref dv, .int (bI back), .int (stPc back), .long 0, .long 0, .long 0] [.int v3] T gi gr 0 0 (fun T' gi' gr' v => T' = T ∧ CFr T T' gi gi' gr gr' dv ∧ v = some (.int (noI (attP (scB par pl B nb) (stF B nb fo back)))) ∧ CInv T' gi' gr' dv nb bx cx od par (scS par pl B nb (stF B nb fo back) pr D).1 (attP (scB par pl B nb) (stF B nb fo back)) (attP (scB par pl B nb) pr) w h pl cs (scS par pl B nb (stF B nb fo back) pr D).2 F) := by
    intro v3 e3
    refine G_istore_n (ls' := [.ref dv, .int (bI back), .int (stPc back), .int v3, .long 0, .long 0]) dDV_step_22 (by decide) rfl ?_
    refine G_aload_n dDV_step_23 rfl ?_
    refine G_getR fDV_137 dDV_step_24 hS.1.1 ?_
    rw [hF.1]
    cases fo with
    | none =>
      refine G_st (st' := [.null]) rfl ?_
      refine G_ifnullN dDV_step_27 ?_
      refine G_iconst (v := nI 1) dDV_step_38 (by decide) ?_
      refine G_istore (ls' := [.ref dv, .int (bI back), .int (stPc back), .int v3, .int (nI 1), .long 0]) dDV_step_39 (by decide) rfl ?_
      have e4 : v3 = stA0 back none nb := e3
      rw [e4]
      exact main _
    | some f =>
      have hf := hF.2.2.1 f rfl
      refine G_st (st' := [.ref (bx f)]) rfl ?_
      refine G_ifnull dDV_step_27 ?_
      refine G_aload_n dDV_step_30 rfl ?_
      refine G_getRs fDV_137 dDV_step_31 hS.1.1 hF.1 ?_
      refine G_getI fDV_143 dDV_step_34 (hS.2.2.1 f hf).2.1.1 ?_
      rw [(hB.2 f hf).1]
      refine G_istore_n (ls' := [.ref dv, .int (bI back), .int (stPc back), .int (nI f), .long 0, .long 0]) dDV_step_37 (by decide) rfl ?_
      refine G_iconst (v := nI 1) dDV_step_38 (by decide) ?_
      refine G_istore (ls' := [.ref dv, .int (bI back), .int (stPc back), .int (nI f), .int (nI 1), .long 0]) dDV_step_39 (by decide) rfl ?_
      exact main _
  have fst : ∀ v2 : Int32, v2 = stPc back → G E mDV_step 9 [.ref dv, .int (bI back), .long 0, .long 0, .long 0, .long 0] [.int v2] T gi gr 0 0 (fun T' gi' gr' v => T' = T ∧ CFr T T' gi gi' gr gr' dv ∧ v = some (.int (noI (attP (scB par pl B nb) (stF B nb fo back)))) ∧ CInv T' gi' gr' dv nb bx cx od par (scS par pl B nb (stF B nb fo back) pr D).1 (attP (scB par pl B nb) (stF B nb fo back)) (attP (scB par pl B nb) pr) w h pl cs (scS par pl B nb (stF B nb fo back) pr D).2 F) := by
    rintro _ rfl
    refine G_istore_n (ls' := [.ref dv, .int (bI back), .int (stPc back), .long 0, .long 0, .long 0]) dDV_step_9 (by decide) rfl ?_
    refine G_iload_n dDV_step_10 rfl ?_
    refine G_if_eq dDV_step_11 (fun h1 => ?_) (fun h1 => ?_)
    · refine G_iconst (v := (-1)) dDV_step_21 (by decide) ?_
      exact mid _ (by rw [if_neg (fun z => by rw [z] at h1; exact absurd h1 (by decide))])
    · refine G_aload_n dDV_step_14 rfl ?_
      refine G_getI fDV_45 dDV_step_15 hS.1.1 ?_
      rw [hB.1]
      refine G_goto dDV_step_18 ?_
      exact mid _ (by cases back with
        | true => rfl
        | false => exact absurd rfl h1)
  refine G_iload_n dDV_step_0 rfl ?_
  refine G_if_eq dDV_step_1 (fun h1 => ?_) (fun h1 => ?_)
  · refine G_iconst (v := 1) dDV_step_8 (by decide) ?_
    exact fst _ (by cases back with
      | true => exact absurd h1 (by decide)
      | false => rfl)
  · refine G_iconst (v := (-1)) dDV_step_4 (by decide) ?_
    refine G_goto dDV_step_5 ?_
    exact fst _ (by cases back with
      | true => rfl
      | false => exact absurd rfl h1)
end
section
def ptF (F : Nat → Int32) (D : Nat → Bool) (P : Nat → Int32) (z : Nat) : Nat → Int32 := fun j => if j < z ∧ D j = true then P j else F j
def ptD (D : Nat → Bool) (z : Nat) : Nat → Bool := fun j => if j < z then false else D j
def ptN (F : Nat → Int32) (D : Nat → Bool) (P : Nat → Int32) : Nat → Nat
  | 0 => 0
  | z + 1 => ptN F D P z + (if D z = true ∧ ¬ F z = P z then 1 else 0)
def ptP (od : Nat → Nat) (par : Nat → Option Nat) (B : Nat → BS) (nb : Nat) (j : Nat) : Int32 := picP od par B nb (nI (j % 24)) (nI (j / 24))
theorem ptN_le {F : Nat → Int32} {D : Nat → Bool} {P : Nat → Int32} : ∀ z, ptN F D P z ≤ z
  | 0 => Nat.le_refl _
  | z + 1 => by
    have := ptN_le (F := F) (D := D) (P := P) z
    unfold ptN
    split <;> omega
theorem ptD_at {D : Nat → Bool} {z : Nat} : ptD D z z = D z := by unfold ptD; rw [if_neg (Nat.lt_irrefl _)]
theorem ptF_at {F : Nat → Int32} {D : Nat → Bool} {P : Nat → Int32} {z : Nat} : ptF F D P z z = F z := by unfold ptF; rw [if_neg (fun h => Nat.lt_irrefl _ h.1)]
theorem ptD_sk {D : Nat → Bool} {z : Nat} (h : D z = false) : ptD D (z + 1) = ptD D z := by
  funext j
  unfold ptD
  by_cases e : j = z
  · subst e; rw [if_pos (by omega), if_neg (by omega), h]
  · by_cases c : j < z
    · rw [if_pos (by omega), if_pos c]
    · rw [if_neg (by omega), if_neg c]
theorem ptF_sk {F : Nat → Int32} {D : Nat → Bool} {P : Nat → Int32} {z : Nat} (h : D z = false) : ptF F D P (z + 1) = ptF F D P z := by
  funext j
  unfold ptF
  by_cases e : j = z
  · subst e; rw [if_neg (fun z => by rw [h] at z; exact absurd z.2 (by decide)), if_neg (fun z => Nat.lt_irrefl _ z.1)]
  · by_cases c : j < z ∧ D j = true
    · rw [if_pos ⟨by omega, c.2⟩, if_pos c]
    · rw [if_neg (fun k => c ⟨by omega, k.2⟩), if_neg c]
theorem ptD_pt {D : Nat → Bool} {z : Nat} : gup (ptD D z) z false = ptD D (z + 1) := by
  funext j
  unfold ptD
  by_cases e : j = z
  · subst e; rw [gup_same, if_pos (by omega)]
  · rw [gup_ne e]
    by_cases c : j < z
    · rw [if_pos c, if_pos (by omega)]
    · rw [if_neg c, if_neg (by omega)]
theorem ptF_pt {F : Nat → Int32} {D : Nat → Bool} {P : Nat → Int32} {z : Nat} (h : D z = true) : gup (ptF F D P z) z (P z) = ptF F D P (z + 1) := by
  funext j
  unfold ptF
  by_cases e : j = z
  · subst e; rw [gup_same, if_pos ⟨by omega, h⟩]
  · rw [gup_ne e]
    by_cases c : j < z ∧ D j = true
    · rw [if_pos c, if_pos ⟨by omega, c.2⟩]
    · rw [if_neg c, if_neg (fun k => c ⟨by omega, k.2⟩)]
theorem ptN_sk {F : Nat → Int32} {D : Nat → Bool} {P : Nat → Int32} {z : Nat} (h : ¬ (D z = true ∧ ¬ F z = P z)) : ptN F D P z = ptN F D P (z + 1) := by
  show ptN F D P z = ptN F D P z + (if D z = true ∧ ¬ F z = P z then 1 else 0)
  rw [if_neg h]; rfl
theorem pt_div {x y : Nat} (h : x < 24) : (y * 24 + x) % 24 = x ∧ (y * 24 + x) / 24 = y := by omega
theorem pa_in {E : gE} {T : gT} {g0 : gI} {gr : gR} {dv nb : Nat} {bx cx od : Nat → Nat} {par : Nat → Option Nat} {B : Nat → BS} {fo pr : Option Nat} {w h : Int32} {pl : Nat → Int32} {cs : Nat → Option K5} {D : Nat → Bool} {F : Nat → Int32} {y : Nat} {Q : gQ} (hy : y < 16) (kx : ∀ gi : gI, CInv T gi gr dv nb bx cx od par B fo pr w h pl cs (ptD D (y * 24 + 24)) (ptF F D (ptP od par B nb) (y * 24 + 24)) → CFr T T g0 gi gr gr dv → G E mDV_paint 57 [.ref dv, .int (nI (ptN F D (ptP od par B nb) (y * 24 + 24))), .int (nI y), .int (nI 24)] [] T gi gr 0 0 Q) : ∀ (n x : Nat), x + n = 24 → ∀ gi : gI, CInv T gi gr dv nb bx cx od par B fo pr w h pl cs (ptD D (y * 24 + x)) (ptF F D (ptP od par B nb) (y * 24 + x)) → CFr T T g0 gi gr gr dv → G E mDV_paint 12 [.ref dv, .int (nI (ptN F D (ptP od par B nb) (y * 24 + x))), .int (nI y), .int (nI x)] [] T gi gr 0 0 Q := by
  intro n
  induction n with
  | zero =>
    intro x hx gi hI hf
    have : x = 24 := by omega
    subst this
    refine G_iload_n dDV_paint_12 rfl ?_
    refine G_bipush (v := 24) dDV_paint_13 (by decide) ?_
    exact G_icmp_ge dDV_paint_15 (fun _ => kx gi hI hf) (fun z => absurd (by decide +kernel) z)
  | succ n ih =>
    intro x hx gi hI hf
    obtain ⟨hS, hB, hF, hL, hP, hC, hBd, hD, hM, hA⟩ := id hI
    have hx24 : x < 24 := by omega
    have hpt := pt_div (y := y) hx24
    have hpp : picP od par B nb (nI x) (nI y) = ptP od par B nb (y * 24 + x) := by unfold ptP; rw [hpt.1, hpt.2]
    have hge := fun j (hj : j < nb) => (hS.2.2.1 j hj).2.2.2
    have nxt : ∀ (c : Nat) (gi : gI), c = ptN F D (ptP od par B nb) (y * 24 + (x + 1)) → CInv T gi gr dv nb bx cx od par B fo pr w h pl cs (ptD D (y * 24 + (x + 1))) (ptF F D (ptP od par B nb) (y * 24 + (x + 1))) → CFr T T g0 gi gr gr dv → G E mDV_paint 51 [.ref dv, .int (nI c), .int (nI y), .int (nI x)] [] T gi gr 0 0 Q := by
      rintro c gi rfl h1 h2
      refine G_iinc (ls' := [.ref dv, .int (nI (ptN F D (ptP od par B nb) (y * 24 + (x + 1)))), .int (nI y), .int (nI (x + 1))]) dDV_paint_51 rfl (nI_inc x) (by decide) rfl ?_
      refine G_goto dDV_paint_54 ?_
      exact ih (x + 1) (by omega) gi h1 h2
    refine G_iload_n dDV_paint_12 rfl ?_
    refine G_bipush (v := 24) dDV_paint_13 (by decide) ?_
    refine G_icmp_ge dDV_paint_15 (fun z => absurd z (nI_ge (b := 24) hx24 (by decide))) (fun _ => ?_)
    refine G_aload_n dDV_paint_18 rfl ?_
    refine G_getRs fDV_12 dDV_paint_19 hS.1.1 hS.1.2.2.1 ?_
    refine G_iload_n dDV_paint_22 rfl ?_
    refine G_iload_n dDV_paint_23 rfl ?_
    refine G_callV (As := [.int (nI x), .int (nI y)]) (rest := []) gDV_paint_SC_isDamaged lDV_158.1 lDV_158.2.1 lDV_158.2.2.1 lDV_158.2.2.2 dDV_paint_24 rfl (Nat.le_of_ble_eq_true rfl) hS.1.2.2.2.2.2.2.2.2.2.1.1 ⟨by decide, by decide⟩ (cSC_isDamaged hS.1.2.2.2.2.2.2.2.2.2.1 hD hx24 hy) ?_
    refine same4 ?_
    refine G_st (st' := [.int (bI (D (y * 24 + x)))]) (by rw [ptD_at]; rfl) ?_
    refine G_if_eq dDV_paint_27 (fun h1 => ?_) (fun h1 => ?_)
    · have hd : D (y * 24 + x) = false := by cases hc : D (y * 24 + x) with
        | true => rw [hc] at h1; exact absurd h1 (by decide)
        | false => rfl
      exact nxt _ gi (by rw [← Nat.add_assoc]; exact ptN_sk (fun z => by rw [hd] at z; exact absurd z.1 (by decide))) (by rw [← Nat.add_assoc, ptD_sk hd, ptF_sk hd]; exact hI) hf
    · have hd : D (y * 24 + x) = true := by cases hc : D (y * 24 + x) with
        | true => rfl
        | false => rw [hc] at h1; exact absurd rfl h1
      refine G_aload_n dDV_paint_30 rfl ?_
      refine G_getRs fDV_12 dDV_paint_31 hS.1.1 hS.1.2.2.1 ?_
      refine G_iload_n dDV_paint_34 rfl ?_
      refine G_iload_n dDV_paint_35 rfl ?_
      refine G_aload_n dDV_paint_36 rfl ?_
      refine G_iload_n dDV_paint_37 rfl ?_
      refine G_iload_n dDV_paint_38 rfl ?_
      refine G_callV (As := [.int (nI x), .int (nI y)]) (rest := [.int (nI y), .int (nI x), .ref (dv + 1)]) gDV_paint_DV_pictureAt lDV_161.1 lDV_161.2.1 lDV_161.2.2.1 lDV_161.2.2.2 dDV_paint_39 rfl (Nat.le_of_ble_eq_true rfl) hS.1.1 ⟨by decide, by decide⟩ (cDV_pictureAt hS hB) ?_
      refine same4 ?_
      refine G_st (st' := [.int (ptP od par B nb (y * 24 + x)), .int (nI y), .int (nI x), .ref (dv + 1)]) (by rw [hpp]; rfl) ?_
      refine G_callV (As := [.int (nI x), .int (nI y), .int (ptP od par B nb (y * 24 + x))]) (rest := []) gDV_paint_SC_repair lDV_164.1 lDV_164.2.1 lDV_164.2.2.1 lDV_164.2.2.2 dDV_paint_42 rfl (Nat.le_of_ble_eq_true rfl) hS.1.2.2.2.2.2.2.2.2.2.1.1 ⟨by decide, by decide⟩ (cSC_repair hS.1.2.2.2.2.2.2.2.2.2.1 hM hD hx24 hy) ?_
      rintro T1 g2 r1 _ ⟨e1, e2, rfl, hM2, hD2, hO2⟩
      subst e1
      subst e2
      refine G_st (st' := [.int (if F (y * 24 + x) = ptP od par B nb (y * 24 + x) then 0 else 1)]) (by rw [ptF_at]; rfl) ?_
      rw [ptD_pt] at hD2
      rw [ptF_pt hd] at hM2
      have hy2 := hI.ch (gi' := g2) (fun a _ e1 e2 => hO2 a (by omega) (by omega)) (fun _ _ => rfl) (fun _ _ => rfl) (hB.row (hO2 _ (by omega) (by omega)) (fun i hi => by have := hge i hi; exact ⟨hO2 _ (by omega) (by omega), hO2 _ (by omega) (by omega), hO2 _ (by omega) (by omega)⟩)) hF hD2 hM2
      refine G_if_eq dDV_paint_45 (fun h2 => ?_) (fun h2 => ?_)
      · have he : F (y * 24 + x) = ptP od par B nb (y * 24 + x) := by
          by_cases c : F (y * 24 + x) = ptP od par B nb (y * 24 + x)
          · exact c
          · rw [if_neg c] at h2; exact absurd h2 (by decide)
        exact nxt _ g2 (by rw [← Nat.add_assoc]; exact ptN_sk (fun z => z.2 he)) hy2.1 (hf.tr hy2.2)
      · have he : ¬ F (y * 24 + x) = ptP od par B nb (y * 24 + x) := fun c => h2 (by rw [if_pos c])
        refine G_iinc (ls' := [.ref dv, .int (nI (ptN F D (ptP od par B nb) (y * 24 + x) + 1)), .int (nI y), .int (nI x)]) dDV_paint_48 rfl (nI_inc _) (by decide) rfl ?_
        exact nxt _ g2 (by rw [← Nat.add_assoc]; conv => rhs; unfold ptN; rw [if_pos ⟨hd, he⟩]) hy2.1 (hf.tr hy2.2)
theorem pa_out {E : gE} {T : gT} {g0 : gI} {gr : gR} {dv nb : Nat} {bx cx od : Nat → Nat} {par : Nat → Option Nat} {B : Nat → BS} {fo pr : Option Nat} {w h : Int32} {pl : Nat → Int32} {cs : Nat → Option K5} {D : Nat → Bool} {F : Nat → Int32} {Q : gQ} (kx : ∀ gi : gI, CInv T gi gr dv nb bx cx od par B fo pr w h pl cs (ptD D 384) (ptF F D (ptP od par B nb) 384) → CFr T T g0 gi gr gr dv → Q T gi gr (some (.int (nI (ptN F D (ptP od par B nb) 384))))) : ∀ (n y : Nat), y + n = 16 → ∀ (gi : gI) (v3 : Value), CInv T gi gr dv nb bx cx od par B fo pr w h pl cs (ptD D (y * 24)) (ptF F D (ptP od par B nb) (y * 24)) → CFr T T g0 gi gr gr dv → G E mDV_paint 4 [.ref dv, .int (nI (ptN F D (ptP od par B nb) (y * 24))), .int (nI y), v3] [] T gi gr 0 0 Q := by
  intro n
  induction n with
  | zero =>
    intro y hy gi v3 hI hf
    have : y = 16 := by omega
    subst this
    refine G_iload_n dDV_paint_4 rfl ?_
    refine G_bipush (v := 16) dDV_paint_5 (by decide) ?_
    refine G_icmp_ge dDV_paint_7 (fun _ => ?_) (fun z => absurd (by decide +kernel) z)
    refine G_iload_n dDV_paint_63 rfl ?_
    exact G_ireturn dDV_paint_64 rfl rfl (by decide) (by decide) (kx gi hI hf)
  | succ n ih =>
    intro y hy gi v3 hI hf
    have hy16 : y < 16 := by omega
    refine G_iload_n dDV_paint_4 rfl ?_
    refine G_bipush (v := 16) dDV_paint_5 (by decide) ?_
    refine G_icmp_ge dDV_paint_7 (fun z => absurd z (nI_ge (b := 16) hy16 (by decide))) (fun _ => ?_)
    refine G_iconst (v := nI 0) dDV_paint_10 (by decide +kernel) ?_
    refine G_istore_n (ls' := [.ref dv, .int (nI (ptN F D (ptP od par B nb) (y * 24))), .int (nI y), .int (nI 0)]) dDV_paint_11 (by decide) rfl ?_
    refine pa_in hy16 (fun gi hI hf => ?_) 24 0 (by omega) gi hI hf
    refine G_iinc (ls' := [.ref dv, .int (nI (ptN F D (ptP od par B nb) (y * 24 + 24))), .int (nI (y + 1)), .int (nI 24)]) dDV_paint_57 rfl (nI_inc y) (by decide) rfl ?_
    refine G_goto dDV_paint_60 ?_
    have e : y * 24 + 24 = (y + 1) * 24 := by omega
    rw [e] at hI ⊢
    exact ih (y + 1) (by omega) gi _ hI hf
theorem ptD_0 {D : Nat → Bool} : ptD D (0 * 24) = D := by funext j; unfold ptD; rw [if_neg (by omega)]
theorem ptF_0 {F : Nat → Int32} {D : Nat → Bool} {P : Nat → Int32} : ptF F D P (0 * 24) = F := by funext j; unfold ptF; rw [if_neg (by omega)]
theorem C_paint {E : gE} {T : gT} {gi : gI} {gr : gR} {dv nb : Nat} {bx cx od : Nat → Nat} {par : Nat → Option Nat} {B : Nat → BS} {fo pr : Option Nat} {w h : Int32} {pl : Nat → Int32} {cs : Nat → Option K5} {D : Nat → Bool} {F : Nat → Int32} (hI : CInv T gi gr dv nb bx cx od par B fo pr w h pl cs D F) : Ct E mDV_paint [.ref dv] T gi gr (fun T' gi' gr' v => T' = T ∧ CFr T T' gi gi' gr gr' dv ∧ v = some (.int (nI (ptN F D (ptP od par B nb) 384))) ∧ CInv T' gi' gr' dv nb bx cx od par B fo pr w h pl cs (ptD D 384) (ptF F D (ptP od par B nb) 384)) := by
  refine Ct_of (ls := [.ref dv, .long 0, .long 0, .long 0]) (by decide) (gcat_cons rfl gcat_nil) (Nat.le_of_ble_eq_true rfl) rfl ?_
  refine G_iconst (v := nI 0) dDV_paint_0 (by decide +kernel) ?_
  refine G_istore_n (ls' := [.ref dv, .int (nI 0), .long 0, .long 0]) dDV_paint_1 (by decide) rfl ?_
  refine G_iconst (v := nI 0) dDV_paint_2 (by decide +kernel) ?_
  refine G_istore_n (ls' := [.ref dv, .int (nI 0), .int (nI 0), .long 0]) dDV_paint_3 (by decide) rfl ?_
  refine pa_out (F := F) (D := D) (B := B) (od := od) (par := par) (nb := nb) (g0 := gi) (fun gi' h1 h2 => ⟨rfl, h2, rfl, h1⟩) 16 0 (by omega) gi _ (by rw [ptD_0, ptF_0]; exact hI) CFr.rf
end
