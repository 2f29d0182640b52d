section
-- ===== PART A: goes FIRST, ahead of the names: the tables' words, and 'selects' of the private methods out of them =====
/-- a private method of a class that the tables say can be made, by its rows of tables_1 -/
def lw_okq (q : MethodName × Nat) : Prop := (q.1.cls ≠ "java/lang/invoke/MethodHandle" ∧ q.1.cls ≠ "java/lang/invoke/VarHandle") ∧ Cond.instantiable q.1.cls q.2 ∈ tables_1 ∧ Cond.privateMethod q.1 ∈ tables_1 ∧ Cond.instanceMethod q.1 ∈ tables_1
theorem lw_p0 : lw_okq (⟨"ClusterImage", "makeProcess", "(II)I"⟩, 11) := ⟨⟨by decide +kernel, by decide +kernel⟩, List.mem_of_getElem? (i := 9) (by decide +kernel), List.mem_of_getElem? (i := 138) (by decide +kernel), List.mem_of_getElem? (i := 139) (by decide +kernel)⟩
theorem lw_p1 : lw_okq (⟨"ClusterImage", "joinLine", "(LClusterImage$Proc;)V"⟩, 11) := ⟨⟨by decide +kernel, by decide +kernel⟩, List.mem_of_getElem? (i := 9) (by decide +kernel), List.mem_of_getElem? (i := 189) (by decide +kernel), List.mem_of_getElem? (i := 190) (by decide +kernel)⟩
theorem lw_p2 : lw_okq (⟨"ClusterImage", "runFirst", "(LClusterImage$Proc;)V"⟩, 11) := ⟨⟨by decide +kernel, by decide +kernel⟩, List.mem_of_getElem? (i := 9) (by decide +kernel), List.mem_of_getElem? (i := 201) (by decide +kernel), List.mem_of_getElem? (i := 202) (by decide +kernel)⟩
theorem lw_p3 : lw_okq (⟨"ClusterImage", "endProcess", "(LClusterImage$Proc;I)V"⟩, 11) := ⟨⟨by decide +kernel, by decide +kernel⟩, List.mem_of_getElem? (i := 9) (by decide +kernel), List.mem_of_getElem? (i := 205) (by decide +kernel), List.mem_of_getElem? (i := 206) (by decide +kernel)⟩
theorem lw_p4 : lw_okq (⟨"ClusterImage", "leaveLine", "(LClusterImage$Proc;I)V"⟩, 11) := ⟨⟨by decide +kernel, by decide +kernel⟩, List.mem_of_getElem? (i := 9) (by decide +kernel), List.mem_of_getElem? (i := 209) (by decide +kernel), List.mem_of_getElem? (i := 210) (by decide +kernel)⟩
theorem lw_p5 : lw_okq (⟨"ClusterImage", "blockOn", "(LClusterImage$Proc;II)V"⟩, 11) := ⟨⟨by decide +kernel, by decide +kernel⟩, List.mem_of_getElem? (i := 9) (by decide +kernel), List.mem_of_getElem? (i := 226) (by decide +kernel), List.mem_of_getElem? (i := 227) (by decide +kernel)⟩
theorem lw_p6 : lw_okq (⟨"ClusterImage", "perform", "(LClusterImage$Proc;III)V"⟩, 11) := ⟨⟨by decide +kernel, by decide +kernel⟩, List.mem_of_getElem? (i := 9) (by decide +kernel), List.mem_of_getElem? (i := 230) (by decide +kernel), List.mem_of_getElem? (i := 231) (by decide +kernel)⟩
theorem lw_p7 : lw_okq (⟨"ClusterImage", "accessMemory", "(LClusterImage$Proc;III)V"⟩, 11) := ⟨⟨by decide +kernel, by decide +kernel⟩, List.mem_of_getElem? (i := 9) (by decide +kernel), List.mem_of_getElem? (i := 234) (by decide +kernel), List.mem_of_getElem? (i := 235) (by decide +kernel)⟩
theorem lw_p8 : lw_okq (⟨"ClusterImage", "usePage", "(LClusterImage$Page;I)V"⟩, 11) := ⟨⟨by decide +kernel, by decide +kernel⟩, List.mem_of_getElem? (i := 9) (by decide +kernel), List.mem_of_getElem? (i := 238) (by decide +kernel), List.mem_of_getElem? (i := 239) (by decide +kernel)⟩
theorem lw_p9 : lw_okq (⟨"ClusterImage", "waitFor", "(LClusterImage$Proc;I)V"⟩, 11) := ⟨⟨by decide +kernel, by decide +kernel⟩, List.mem_of_getElem? (i := 9) (by decide +kernel), List.mem_of_getElem? (i := 242) (by decide +kernel), List.mem_of_getElem? (i := 243) (by decide +kernel)⟩
theorem lw_p10 : lw_okq (⟨"ClusterImage", "isOther", "(LClusterImage$Proc;I)Z"⟩, 11) := ⟨⟨by decide +kernel, by decide +kernel⟩, List.mem_of_getElem? (i := 9) (by decide +kernel), List.mem_of_getElem? (i := 246) (by decide +kernel), List.mem_of_getElem? (i := 247) (by decide +kernel)⟩
theorem lw_p11 : lw_okq (⟨"ClusterImage", "killOther", "(LClusterImage$Proc;I)V"⟩, 11) := ⟨⟨by decide +kernel, by decide +kernel⟩, List.mem_of_getElem? (i := 9) (by decide +kernel), List.mem_of_getElem? (i := 250) (by decide +kernel), List.mem_of_getElem? (i := 251) (by decide +kernel)⟩
theorem lw_p12 : lw_okq (⟨"ClusterImage", "spendSlice", "(LClusterImage$Proc;Z)V"⟩, 11) := ⟨⟨by decide +kernel, by decide +kernel⟩, List.mem_of_getElem? (i := 9) (by decide +kernel), List.mem_of_getElem? (i := 254) (by decide +kernel), List.mem_of_getElem? (i := 255) (by decide +kernel)⟩
theorem lw_p13 : lw_okq (⟨"ClusterImage", "grantRequest", "(LClusterImage$Page;LClusterImage$Proc;)V"⟩, 11) := ⟨⟨by decide +kernel, by decide +kernel⟩, List.mem_of_getElem? (i := 9) (by decide +kernel), List.mem_of_getElem? (i := 262) (by decide +kernel), List.mem_of_getElem? (i := 263) (by decide +kernel)⟩
theorem lw_p14 : lw_okq (⟨"ClusterImage", "makeRoom", "(I)V"⟩, 11) := ⟨⟨by decide +kernel, by decide +kernel⟩, List.mem_of_getElem? (i := 9) (by decide +kernel), List.mem_of_getElem? (i := 266) (by decide +kernel), List.mem_of_getElem? (i := 267) (by decide +kernel)⟩
theorem lw_p15 : lw_okq (⟨"ClusterImage", "giveUp", "(LClusterImage$Page;I)V"⟩, 11) := ⟨⟨by decide +kernel, by decide +kernel⟩, List.mem_of_getElem? (i := 9) (by decide +kernel), List.mem_of_getElem? (i := 270) (by decide +kernel), List.mem_of_getElem? (i := 271) (by decide +kernel)⟩
def lw_privs_1 : List (MethodName × Nat) := [(⟨"ClusterImage", "makeProcess", "(II)I"⟩, 11), (⟨"ClusterImage", "joinLine", "(LClusterImage$Proc;)V"⟩, 11), (⟨"ClusterImage", "runFirst", "(LClusterImage$Proc;)V"⟩, 11), (⟨"ClusterImage", "endProcess", "(LClusterImage$Proc;I)V"⟩, 11), (⟨"ClusterImage", "leaveLine", "(LClusterImage$Proc;I)V"⟩, 11), (⟨"ClusterImage", "blockOn", "(LClusterImage$Proc;II)V"⟩, 11), (⟨"ClusterImage", "perform", "(LClusterImage$Proc;III)V"⟩, 11), (⟨"ClusterImage", "accessMemory", "(LClusterImage$Proc;III)V"⟩, 11), (⟨"ClusterImage", "usePage", "(LClusterImage$Page;I)V"⟩, 11), (⟨"ClusterImage", "waitFor", "(LClusterImage$Proc;I)V"⟩, 11), (⟨"ClusterImage", "isOther", "(LClusterImage$Proc;I)Z"⟩, 11), (⟨"ClusterImage", "killOther", "(LClusterImage$Proc;I)V"⟩, 11), (⟨"ClusterImage", "spendSlice", "(LClusterImage$Proc;Z)V"⟩, 11), (⟨"ClusterImage", "grantRequest", "(LClusterImage$Page;LClusterImage$Proc;)V"⟩, 11), (⟨"ClusterImage", "makeRoom", "(I)V"⟩, 11), (⟨"ClusterImage", "giveUp", "(LClusterImage$Page;I)V"⟩, 11)]
theorem lw_r1 : ∀ q ∈ lw_privs_1, lw_okq q := List.forall_mem_cons.mpr ⟨lw_p0, List.forall_mem_cons.mpr ⟨lw_p1, List.forall_mem_cons.mpr ⟨lw_p2, List.forall_mem_cons.mpr ⟨lw_p3, List.forall_mem_cons.mpr ⟨lw_p4, List.forall_mem_cons.mpr ⟨lw_p5, List.forall_mem_cons.mpr ⟨lw_p6, List.forall_mem_cons.mpr ⟨lw_p7, List.forall_mem_cons.mpr ⟨lw_p8, List.forall_mem_cons.mpr ⟨lw_p9, List.forall_mem_cons.mpr ⟨lw_p10, List.forall_mem_cons.mpr ⟨lw_p11, List.forall_mem_cons.mpr ⟨lw_p12, List.forall_mem_cons.mpr ⟨lw_p13, List.forall_mem_cons.mpr ⟨lw_p14, List.forall_mem_cons.mpr ⟨lw_p15, fun _ h => absurd h List.not_mem_nil⟩⟩⟩⟩⟩⟩⟩⟩⟩⟩⟩⟩⟩⟩⟩⟩
theorem lw_p16 : lw_okq (⟨"ClusterImage", "requestsStanding", "()I"⟩, 11) := ⟨⟨by decide +kernel, by decide +kernel⟩, List.mem_of_getElem? (i := 9) (by decide +kernel), List.mem_of_getElem? (i := 329) (by decide +kernel), List.mem_of_getElem? (i := 330) (by decide +kernel)⟩
theorem lw_p17 : lw_okq (⟨"ClusterImage", "processesReady", "()I"⟩, 11) := ⟨⟨by decide +kernel, by decide +kernel⟩, List.mem_of_getElem? (i := 9) (by decide +kernel), List.mem_of_getElem? (i := 333) (by decide +kernel), List.mem_of_getElem? (i := 334) (by decide +kernel)⟩
theorem lw_p18 : lw_okq (⟨"ClusterImageModel", "make", "(II)I"⟩, 28) := ⟨⟨by decide +kernel, by decide +kernel⟩, List.mem_of_getElem? (i := 337) (by decide +kernel), List.mem_of_getElem? (i := 440) (by decide +kernel), List.mem_of_getElem? (i := 441) (by decide +kernel)⟩
theorem lw_p19 : lw_okq (⟨"ClusterImageModel", "ready", "(I)V"⟩, 28) := ⟨⟨by decide +kernel, by decide +kernel⟩, List.mem_of_getElem? (i := 337) (by decide +kernel), List.mem_of_getElem? (i := 444) (by decide +kernel), List.mem_of_getElem? (i := 445) (by decide +kernel)⟩
theorem lw_p20 : lw_okq (⟨"ClusterImageModel", "tick", "()I"⟩, 28) := ⟨⟨by decide +kernel, by decide +kernel⟩, List.mem_of_getElem? (i := 337) (by decide +kernel), List.mem_of_getElem? (i := 448) (by decide +kernel), List.mem_of_getElem? (i := 449) (by decide +kernel)⟩
theorem lw_p21 : lw_okq (⟨"ClusterImageModel", "standing", "(II)I"⟩, 28) := ⟨⟨by decide +kernel, by decide +kernel⟩, List.mem_of_getElem? (i := 337) (by decide +kernel), List.mem_of_getElem? (i := 456) (by decide +kernel), List.mem_of_getElem? (i := 457) (by decide +kernel)⟩
theorem lw_p22 : lw_okq (⟨"ClusterImageModel", "end", "(II)V"⟩, 28) := ⟨⟨by decide +kernel, by decide +kernel⟩, List.mem_of_getElem? (i := 337) (by decide +kernel), List.mem_of_getElem? (i := 460) (by decide +kernel), List.mem_of_getElem? (i := 461) (by decide +kernel)⟩
theorem lw_p23 : lw_okq (⟨"ClusterImageModel", "fault", "(III)Z"⟩, 28) := ⟨⟨by decide +kernel, by decide +kernel⟩, List.mem_of_getElem? (i := 337) (by decide +kernel), List.mem_of_getElem? (i := 464) (by decide +kernel), List.mem_of_getElem? (i := 465) (by decide +kernel)⟩
theorem lw_p24 : lw_okq (⟨"ClusterImageModel", "perform", "(IIIII)Z"⟩, 28) := ⟨⟨by decide +kernel, by decide +kernel⟩, List.mem_of_getElem? (i := 337) (by decide +kernel), List.mem_of_getElem? (i := 468) (by decide +kernel), List.mem_of_getElem? (i := 469) (by decide +kernel)⟩
theorem lw_p25 : lw_okq (⟨"ClusterImageModel", "touch", "(IIII)V"⟩, 28) := ⟨⟨by decide +kernel, by decide +kernel⟩, List.mem_of_getElem? (i := 337) (by decide +kernel), List.mem_of_getElem? (i := 472) (by decide +kernel), List.mem_of_getElem? (i := 473) (by decide +kernel)⟩
theorem lw_p26 : lw_okq (⟨"ClusterImageModel", "noProcess", "(I)Z"⟩, 28) := ⟨⟨by decide +kernel, by decide +kernel⟩, List.mem_of_getElem? (i := 337) (by decide +kernel), List.mem_of_getElem? (i := 476) (by decide +kernel), List.mem_of_getElem? (i := 477) (by decide +kernel)⟩
theorem lw_p27 : lw_okq (⟨"ClusterImageModel", "ended", "(I)Z"⟩, 28) := ⟨⟨by decide +kernel, by decide +kernel⟩, List.mem_of_getElem? (i := 337) (by decide +kernel), List.mem_of_getElem? (i := 480) (by decide +kernel), List.mem_of_getElem? (i := 481) (by decide +kernel)⟩
theorem lw_p28 : lw_okq (⟨"ClusterImageModel", "firstAsking", "(I)I"⟩, 28) := ⟨⟨by decide +kernel, by decide +kernel⟩, List.mem_of_getElem? (i := 337) (by decide +kernel), List.mem_of_getElem? (i := 488) (by decide +kernel), List.mem_of_getElem? (i := 489) (by decide +kernel)⟩
theorem lw_p29 : lw_okq (⟨"ClusterImageModel", "held", "(I)I"⟩, 28) := ⟨⟨by decide +kernel, by decide +kernel⟩, List.mem_of_getElem? (i := 337) (by decide +kernel), List.mem_of_getElem? (i := 492) (by decide +kernel), List.mem_of_getElem? (i := 493) (by decide +kernel)⟩
theorem lw_p30 : lw_okq (⟨"ClusterImageModel", "giveUp", "(I)V"⟩, 28) := ⟨⟨by decide +kernel, by decide +kernel⟩, List.mem_of_getElem? (i := 337) (by decide +kernel), List.mem_of_getElem? (i := 496) (by decide +kernel), List.mem_of_getElem? (i := 497) (by decide +kernel)⟩
theorem lw_p31 : lw_okq (⟨"ClusterImageModel", "share", "(IIZ)V"⟩, 28) := ⟨⟨by decide +kernel, by decide +kernel⟩, List.mem_of_getElem? (i := 337) (by decide +kernel), List.mem_of_getElem? (i := 500) (by decide +kernel), List.mem_of_getElem? (i := 501) (by decide +kernel)⟩
def lw_privs_2 : List (MethodName × Nat) := [(⟨"ClusterImage", "requestsStanding", "()I"⟩, 11), (⟨"ClusterImage", "processesReady", "()I"⟩, 11), (⟨"ClusterImageModel", "make", "(II)I"⟩, 28), (⟨"ClusterImageModel", "ready", "(I)V"⟩, 28), (⟨"ClusterImageModel", "tick", "()I"⟩, 28), (⟨"ClusterImageModel", "standing", "(II)I"⟩, 28), (⟨"ClusterImageModel", "end", "(II)V"⟩, 28), (⟨"ClusterImageModel", "fault", "(III)Z"⟩, 28), (⟨"ClusterImageModel", "perform", "(IIIII)Z"⟩, 28), (⟨"ClusterImageModel", "touch", "(IIII)V"⟩, 28), (⟨"ClusterImageModel", "noProcess", "(I)Z"⟩, 28), (⟨"ClusterImageModel", "ended", "(I)Z"⟩, 28), (⟨"ClusterImageModel", "firstAsking", "(I)I"⟩, 28), (⟨"ClusterImageModel", "held", "(I)I"⟩, 28), (⟨"ClusterImageModel", "giveUp", "(I)V"⟩, 28), (⟨"ClusterImageModel", "share", "(IIZ)V"⟩, 28)]
theorem lw_r2 : ∀ q ∈ lw_privs_2, lw_okq q := List.forall_mem_cons.mpr ⟨lw_p16, List.forall_mem_cons.mpr ⟨lw_p17, List.forall_mem_cons.mpr ⟨lw_p18, List.forall_mem_cons.mpr ⟨lw_p19, List.forall_mem_cons.mpr ⟨lw_p20, List.forall_mem_cons.mpr ⟨lw_p21, List.forall_mem_cons.mpr ⟨lw_p22, List.forall_mem_cons.mpr ⟨lw_p23, List.forall_mem_cons.mpr ⟨lw_p24, List.forall_mem_cons.mpr ⟨lw_p25, List.forall_mem_cons.mpr ⟨lw_p26, List.forall_mem_cons.mpr ⟨lw_p27, List.forall_mem_cons.mpr ⟨lw_p28, List.forall_mem_cons.mpr ⟨lw_p29, List.forall_mem_cons.mpr ⟨lw_p30, List.forall_mem_cons.mpr ⟨lw_p31, fun _ h => absurd h List.not_mem_nil⟩⟩⟩⟩⟩⟩⟩⟩⟩⟩⟩⟩⟩⟩⟩⟩
def lw_privs : List (MethodName × Nat) := lw_privs_1 ++ (lw_privs_2)
def lw_tbl : List Cond := k2_sels lw_privs ++ tables_1
theorem lw_privs_ok : ∀ q ∈ lw_privs, lw_okq q := by
  show ∀ q ∈ lw_privs_1 ++ (lw_privs_2), lw_okq q
  exact List.forall_mem_append.mpr ⟨lw_r1, lw_r2⟩
end
section
/-- the words that a callee may be handed -/
def bigw : List Cond := lw_tbl.filter goodWord
theorem bg {w : Cond} (i : Nat) (h : lw_tbl[i]? = some w) (hg : goodWord w = true) : w ∈ bigw := List.mem_filter.mpr ⟨List.mem_of_getElem? h, hg⟩
theorem bg_in {w : Cond} (h : w ∈ bigw) : w ∈ lw_tbl := (List.mem_filter.mp h).1
def R_C : String := "ClusterImage"
def F_C : u_T := fun k => match k with
  | 0 => ("ClusterImage", "programs", "[LClusterImage$Program;", true)
  | 1 => ("ClusterImage", "processes", "[LClusterImage$Proc;", true)
  | 2 => ("ClusterImage", "lines", "[LClusterImage$Line;", true)
  | 3 => ("ClusterImage", "pages", "[LClusterImage$Page;", true)
  | 4 => ("ClusterImage", "memory", "[I", true)
  | 5 => ("ClusterImage", "made", "I", false)
  | 6 => ("ClusterImage", "uses", "I", false)
  | 7 => ("ClusterImage", "messages", "I", false)
  | 8 => ("ClusterImage", "faults", "I", false)
  | 9 => ("ClusterImage", "givenUp", "I", false)
  | _ => ("ClusterImage", "grants", "I", false)
def t_C : Nat → FieldType := fun k => match k with
  | 0 => .array (.object "ClusterImage$Program")
  | 1 => .array (.object "ClusterImage$Proc")
  | 2 => .array (.object "ClusterImage$Line")
  | 3 => .array (.object "ClusterImage$Page")
  | 4 => .array .int
  | 5 => .int
  | 6 => .int
  | 7 => .int
  | 8 => .int
  | 9 => .int
  | _ => .int
abbrev w_C : List Cond := u_ws R_C F_C 11
theorem n_C : ∀ a, a < 11 → ∀ b, b < 11 → a ≠ b → (F_C a).2.1 ≠ (F_C b).2.1 := by decide +kernel
theorem t_C_ok : ∀ k, k < 11 → parseFieldDescriptor (F_C k).2.2.1 = some (t_C k) := by decide +kernel
theorem i_C : ∀ w ∈ w_C, w ∈ bigw := by decide +kernel
abbrev ciC : Nat := 0
def R_Program : String := "ClusterImage$Program"
def F_Program : u_T := fun k => match k with
  | 0 => ("ClusterImage$Program", "ops", "[I", true)
  | 1 => ("ClusterImage$Program", "as", "[I", true)
  | 2 => ("ClusterImage$Program", "bs", "[I", true)
  | _ => ("ClusterImage$Program", "size", "I", false)
def t_Program : Nat → FieldType := fun k => match k with
  | 0 => .array .int
  | 1 => .array .int
  | 2 => .array .int
  | _ => .int
abbrev w_Program : List Cond := u_ws R_Program F_Program 4
theorem n_Program : ∀ a, a < 4 → ∀ b, b < 4 → a ≠ b → (F_Program a).2.1 ≠ (F_Program b).2.1 := by decide +kernel
theorem t_Program_ok : ∀ k, k < 4 → parseFieldDescriptor (F_Program k).2.2.1 = some (t_Program k) := by decide +kernel
theorem i_Program : ∀ w ∈ w_Program, w ∈ bigw := by decide +kernel
abbrev ciProgram : Nat := 1
def R_Proc : String := "ClusterImage$Proc"
def F_Proc : u_T := fun k => match k with
  | 0 => ("ClusterImage$Proc", "number", "I", true)
  | 1 => ("ClusterImage$Proc", "program", "I", true)
  | 2 => ("ClusterImage$Proc", "registers", "[I", true)
  | 3 => ("ClusterImage$Proc", "hints", "[I", true)
  | 4 => ("ClusterImage$Proc", "place", "I", false)
  | 5 => ("ClusterImage$Proc", "state", "I", false)
  | 6 => ("ClusterImage$Proc", "counter", "I", false)
  | 7 => ("ClusterImage$Proc", "slice", "I", false)
  | 8 => ("ClusterImage$Proc", "code", "I", false)
  | 9 => ("ClusterImage$Proc", "wantedPage", "I", false)
  | 10 => ("ClusterImage$Proc", "wantedRight", "I", false)
  | _ => ("ClusterImage$Proc", "awaited", "I", false)
def t_Proc : Nat → FieldType := fun k => match k with
  | 0 => .int
  | 1 => .int
  | 2 => .array .int
  | 3 => .array .int
  | 4 => .int
  | 5 => .int
  | 6 => .int
  | 7 => .int
  | 8 => .int
  | 9 => .int
  | 10 => .int
  | _ => .int
abbrev w_Proc : List Cond := u_ws R_Proc F_Proc 12
theorem n_Proc : ∀ a, a < 12 → ∀ b, b < 12 → a ≠ b → (F_Proc a).2.1 ≠ (F_Proc b).2.1 := by decide +kernel
theorem t_Proc_ok : ∀ k, k < 12 → parseFieldDescriptor (F_Proc k).2.2.1 = some (t_Proc k) := by decide +kernel
theorem i_Proc : ∀ w ∈ w_Proc, w ∈ bigw := by decide +kernel
abbrev ciProc : Nat := 2
def R_Line : String := "ClusterImage$Line"
def F_Line : u_T := fun k => match k with
  | 0 => ("ClusterImage$Line", "items", "[I", true)
  | _ => ("ClusterImage$Line", "size", "I", false)
def t_Line : Nat → FieldType := fun k => match k with
  | 0 => .array .int
  | _ => .int
abbrev w_Line : List Cond := u_ws R_Line F_Line 2
theorem n_Line : ∀ a, a < 2 → ∀ b, b < 2 → a ≠ b → (F_Line a).2.1 ≠ (F_Line b).2.1 := by decide +kernel
theorem t_Line_ok : ∀ k, k < 2 → parseFieldDescriptor (F_Line k).2.2.1 = some (t_Line k) := by decide +kernel
theorem i_Line : ∀ w ∈ w_Line, w ∈ bigw := by decide +kernel
abbrev ciLine : Nat := 3
def R_Page : String := "ClusterImage$Page"
def F_Page : u_T := fun k => match k with
  | 0 => ("ClusterImage$Page", "rights", "[I", true)
  | 1 => ("ClusterImage$Page", "lastUse", "[I", true)
  | 2 => ("ClusterImage$Page", "requests", "LClusterImage$Line;", true)
  | _ => ("ClusterImage$Page", "holder", "I", false)
def t_Page : Nat → FieldType := fun k => match k with
  | 0 => .array .int
  | 1 => .array .int
  | 2 => .object "ClusterImage$Line"
  | _ => .int
abbrev w_Page : List Cond := u_ws R_Page F_Page 4
theorem n_Page : ∀ a, a < 4 → ∀ b, b < 4 → a ≠ b → (F_Page a).2.1 ≠ (F_Page b).2.1 := by decide +kernel
theorem t_Page_ok : ∀ k, k < 4 → parseFieldDescriptor (F_Page k).2.2.1 = some (t_Page k) := by decide +kernel
theorem i_Page : ∀ w ∈ w_Page, w ∈ bigw := by decide +kernel
abbrev ciPage : Nat := 4
def R_M : String := "ClusterImageModel"
def F_M : u_T := fun k => match k with
  | 0 => ("ClusterImageModel", "ops", "[I", true)
  | 1 => ("ClusterImageModel", "as", "[I", true)
  | 2 => ("ClusterImageModel", "bs", "[I", true)
  | 3 => ("ClusterImageModel", "size", "[I", true)
  | 4 => ("ClusterImageModel", "program", "[I", true)
  | 5 => ("ClusterImageModel", "regs", "[I", true)
  | 6 => ("ClusterImageModel", "counter", "[I", true)
  | 7 => ("ClusterImageModel", "place", "[I", true)
  | 8 => ("ClusterImageModel", "state", "[I", true)
  | 9 => ("ClusterImageModel", "since", "[I", true)
  | 10 => ("ClusterImageModel", "slice", "[I", true)
  | 11 => ("ClusterImageModel", "code", "[I", true)
  | 12 => ("ClusterImageModel", "awaited", "[I", true)
  | 13 => ("ClusterImageModel", "page", "[I", true)
  | 14 => ("ClusterImageModel", "made", "I", false)
  | 15 => ("ClusterImageModel", "asked", "[I", true)
  | 16 => ("ClusterImageModel", "askedPage", "[I", true)
  | 17 => ("ClusterImageModel", "askedWrite", "[Z", true)
  | 18 => ("ClusterImageModel", "memory", "[I", true)
  | 19 => ("ClusterImageModel", "rights", "[I", true)
  | 20 => ("ClusterImageModel", "used", "[I", true)
  | 21 => ("ClusterImageModel", "owners", "[I", true)
  | 22 => ("ClusterImageModel", "hints", "[I", true)
  | 23 => ("ClusterImageModel", "moment", "I", false)
  | 24 => ("ClusterImageModel", "messages", "I", false)
  | 25 => ("ClusterImageModel", "faults", "I", false)
  | 26 => ("ClusterImageModel", "given", "I", false)
  | _ => ("ClusterImageModel", "grants", "I", false)
def t_M : Nat → FieldType := fun k => match k with
  | 0 => .array .int
  | 1 => .array .int
  | 2 => .array .int
  | 3 => .array .int
  | 4 => .array .int
  | 5 => .array .int
  | 6 => .array .int
  | 7 => .array .int
  | 8 => .array .int
  | 9 => .array .int
  | 10 => .array .int
  | 11 => .array .int
  | 12 => .array .int
  | 13 => .array .int
  | 14 => .int
  | 15 => .array .int
  | 16 => .array .int
  | 17 => .array .boolean
  | 18 => .array .int
  | 19 => .array .int
  | 20 => .array .int
  | 21 => .array .int
  | 22 => .array .int
  | 23 => .int
  | 24 => .int
  | 25 => .int
  | 26 => .int
  | _ => .int
abbrev w_M : List Cond := u_ws R_M F_M 28
theorem n_M : ∀ a, a < 28 → ∀ b, b < 28 → a ≠ b → (F_M a).2.1 ≠ (F_M b).2.1 := by decide +kernel
theorem t_M_ok : ∀ k, k < 28 → parseFieldDescriptor (F_M k).2.2.1 = some (t_M k) := by decide +kernel
theorem i_M : ∀ w ∈ w_M, w ∈ bigw := by decide +kernel
abbrev ciM : Nat := 5
def R_Math : String := "java/lang/Math"
abbrev classes : List vw_C := [(R_C, F_C, 11), (R_Program, F_Program, 4), (R_Proc, F_Proc, 12), (R_Line, F_Line, 2), (R_Page, F_Page, 4), (R_M, F_M, 28)]
def RL : String := "ClusterImageLaw"
abbrev b_C_init : ByteArray := prog_1_method_1_code
def y_C_init : MethodName := ⟨R_C, "<init>", "()V"⟩
abbrev ws_C_init : List Cond := .code y_C_init b_C_init 2 none   :: bigw
abbrev b_C_instr : ByteArray := prog_1_method_2_code
def y_C_instr : MethodName := ⟨R_C, "instr", "(IIII)I"⟩
abbrev ws_C_instr : List Cond := .code y_C_instr b_C_instr 6 (some .int)   :: bigw
abbrev b_C_spawn : ByteArray := prog_1_method_3_code
def y_C_spawn : MethodName := ⟨R_C, "spawn", "(II)I"⟩
abbrev ws_C_spawn : List Cond := .code y_C_spawn b_C_spawn 3 (some .int)   :: bigw
abbrev b_C_step : ByteArray := prog_1_method_4_code
def y_C_step : MethodName := ⟨R_C, "step", "(I)I"⟩
abbrev ws_C_step : List Cond := .code y_C_step b_C_step 3 (some .int)   :: bigw
abbrev b_C_serve : ByteArray := prog_1_method_5_code
def y_C_serve : MethodName := ⟨R_C, "serve", "(I)I"⟩
abbrev ws_C_serve : List Cond := .code y_C_serve b_C_serve 6 (some .int)   :: bigw
abbrev b_C_migrate : ByteArray := prog_1_method_6_code
def y_C_migrate : MethodName := ⟨R_C, "migrate", "(II)I"⟩
abbrev ws_C_migrate : List Cond := .code y_C_migrate b_C_migrate 5 (some .int)   :: bigw
abbrev b_C_find : ByteArray := prog_1_method_7_code
def y_C_find : MethodName := ⟨R_C, "find", "(II)I"⟩
abbrev ws_C_find : List Cond := .code y_C_find b_C_find 7 (some .int)   :: bigw
abbrev b_C_reg : ByteArray := prog_1_method_8_code
def y_C_reg : MethodName := ⟨R_C, "reg", "(II)J"⟩
abbrev ws_C_reg : List Cond := .code y_C_reg b_C_reg 3 (some .long)   :: bigw
abbrev b_C_info : ByteArray := prog_1_method_9_code
def y_C_info : MethodName := ⟨R_C, "info", "(II)J"⟩
abbrev ws_C_info : List Cond := .code y_C_info b_C_info 4 (some .long)   :: bigw
abbrev b_C_line : ByteArray := prog_1_method_10_code
def y_C_line : MethodName := ⟨R_C, "line", "(II)I"⟩
abbrev ws_C_line : List Cond := .code y_C_line b_C_line 3 (some .int)   :: bigw
abbrev b_C_word : ByteArray := prog_1_method_11_code
def y_C_word : MethodName := ⟨R_C, "word", "(I)J"⟩
abbrev ws_C_word : List Cond := .code y_C_word b_C_word 2 (some .long)   :: bigw
abbrev b_C_copy : ByteArray := prog_1_method_12_code
def y_C_copy : MethodName := ⟨R_C, "copy", "(II)J"⟩
abbrev ws_C_copy : List Cond := .code y_C_copy b_C_copy 3 (some .long)   :: bigw
abbrev b_C_right : ByteArray := prog_1_method_13_code
def y_C_right : MethodName := ⟨R_C, "right", "(II)I"⟩
abbrev ws_C_right : List Cond := .code y_C_right b_C_right 3 (some .int)   :: bigw
abbrev b_C_owner : ByteArray := prog_1_method_14_code
def y_C_owner : MethodName := ⟨R_C, "owner", "(I)I"⟩
abbrev ws_C_owner : List Cond := .code y_C_owner b_C_owner 2 (some .int)   :: bigw
abbrev b_C_count : ByteArray := prog_1_method_15_code
def y_C_count : MethodName := ⟨R_C, "count", "(I)I"⟩
abbrev ws_C_count : List Cond := .code y_C_count b_C_count 2 (some .int)   :: bigw
abbrev b_C_isIn : ByteArray := prog_1_method_16_code
def y_C_isIn : MethodName := ⟨R_C, "isIn", "(II)Z"⟩
abbrev ws_C_isIn : List Cond := .code y_C_isIn b_C_isIn 2 (some .boolean)   :: bigw
abbrev b_C_fitsOp : ByteArray := prog_1_method_17_code
def y_C_fitsOp : MethodName := ⟨R_C, "fitsOp", "(II)Z"⟩
abbrev ws_C_fitsOp : List Cond := .code y_C_fitsOp b_C_fitsOp 2 (some .boolean)   :: bigw
abbrev b_C_touchesMemory : ByteArray := prog_1_method_18_code
def y_C_touchesMemory : MethodName := ⟨R_C, "touchesMemory", "(I)Z"⟩
abbrev ws_C_touchesMemory : List Cond := .code y_C_touchesMemory b_C_touchesMemory 1 (some .boolean)   :: bigw
abbrev b_C_addressOf : ByteArray := prog_1_method_19_code
def y_C_addressOf : MethodName := ⟨R_C, "addressOf", "(I)I"⟩
abbrev ws_C_addressOf : List Cond := .code y_C_addressOf b_C_addressOf 1 (some .int)   :: bigw
abbrev b_C_requestsStanding : ByteArray := prog_1_method_20_code
def y_C_requestsStanding : MethodName := ⟨R_C, "requestsStanding", "()I"⟩
abbrev ws_C_requestsStanding : List Cond := .code y_C_requestsStanding b_C_requestsStanding 3 (some .int)   :: bigw
abbrev b_C_processesReady : ByteArray := prog_1_method_21_code
def y_C_processesReady : MethodName := ⟨R_C, "processesReady", "()I"⟩
abbrev ws_C_processesReady : List Cond := .code y_C_processesReady b_C_processesReady 3 (some .int)   :: bigw
abbrev b_C_makeProcess : ByteArray := prog_1_method_22_code
def y_C_makeProcess : MethodName := ⟨R_C, "makeProcess", "(II)I"⟩
abbrev ws_C_makeProcess : List Cond := .code y_C_makeProcess b_C_makeProcess 4 (some .int)   :: bigw
abbrev b_C_joinLine : ByteArray := prog_1_method_23_code
def y_C_joinLine : MethodName := ⟨R_C, "joinLine", "(LClusterImage$Proc;)V"⟩
abbrev ws_C_joinLine : List Cond := .code y_C_joinLine b_C_joinLine 2 none   :: bigw
abbrev b_C_leaveLine : ByteArray := prog_1_method_24_code
def y_C_leaveLine : MethodName := ⟨R_C, "leaveLine", "(LClusterImage$Proc;I)V"⟩
abbrev ws_C_leaveLine : List Cond := .code y_C_leaveLine b_C_leaveLine 3 none   :: bigw
abbrev b_C_endProcess : ByteArray := prog_1_method_25_code
def y_C_endProcess : MethodName := ⟨R_C, "endProcess", "(LClusterImage$Proc;I)V"⟩
abbrev ws_C_endProcess : List Cond := .code y_C_endProcess b_C_endProcess 5 none   :: bigw
abbrev b_C_runFirst : ByteArray := prog_1_method_26_code
def y_C_runFirst : MethodName := ⟨R_C, "runFirst", "(LClusterImage$Proc;)V"⟩
abbrev ws_C_runFirst : List Cond := .code y_C_runFirst b_C_runFirst 8 none   :: bigw
abbrev b_C_blockOn : ByteArray := prog_1_method_27_code
def y_C_blockOn : MethodName := ⟨R_C, "blockOn", "(LClusterImage$Proc;II)V"⟩
abbrev ws_C_blockOn : List Cond := .code y_C_blockOn b_C_blockOn 4 none   :: bigw
abbrev b_C_spendSlice : ByteArray := prog_1_method_28_code
def y_C_spendSlice : MethodName := ⟨R_C, "spendSlice", "(LClusterImage$Proc;Z)V"⟩
abbrev ws_C_spendSlice : List Cond := .code y_C_spendSlice b_C_spendSlice 3 none   :: bigw
abbrev b_C_perform : ByteArray := prog_1_method_29_code
def y_C_perform : MethodName := ⟨R_C, "perform", "(LClusterImage$Proc;III)V"⟩
abbrev ws_C_perform : List Cond := .code y_C_perform b_C_perform 7 none   :: bigw
abbrev b_C_accessMemory : ByteArray := prog_1_method_30_code
def y_C_accessMemory : MethodName := ⟨R_C, "accessMemory", "(LClusterImage$Proc;III)V"⟩
abbrev ws_C_accessMemory : List Cond := .code y_C_accessMemory b_C_accessMemory 7 none   :: bigw
abbrev b_C_isOther : ByteArray := prog_1_method_31_code
def y_C_isOther : MethodName := ⟨R_C, "isOther", "(LClusterImage$Proc;I)Z"⟩
abbrev ws_C_isOther : List Cond := .code y_C_isOther b_C_isOther 3 (some .boolean)   :: bigw
abbrev b_C_waitFor : ByteArray := prog_1_method_32_code
def y_C_waitFor : MethodName := ⟨R_C, "waitFor", "(LClusterImage$Proc;I)V"⟩
abbrev ws_C_waitFor : List Cond := .code y_C_waitFor b_C_waitFor 4 none   :: bigw
abbrev b_C_killOther : ByteArray := prog_1_method_33_code
def y_C_killOther : MethodName := ⟨R_C, "killOther", "(LClusterImage$Proc;I)V"⟩
abbrev ws_C_killOther : List Cond := .code y_C_killOther b_C_killOther 4 none   :: bigw
abbrev b_C_usePage : ByteArray := prog_1_method_34_code
def y_C_usePage : MethodName := ⟨R_C, "usePage", "(LClusterImage$Page;I)V"⟩
abbrev ws_C_usePage : List Cond := .code y_C_usePage b_C_usePage 3 none   :: bigw
abbrev b_C_grantRequest : ByteArray := prog_1_method_35_code
def y_C_grantRequest : MethodName := ⟨R_C, "grantRequest", "(LClusterImage$Page;LClusterImage$Proc;)V"⟩
abbrev ws_C_grantRequest : List Cond := .code y_C_grantRequest b_C_grantRequest 4 none   :: bigw
abbrev b_C_makeRoom : ByteArray := prog_1_method_36_code
def y_C_makeRoom : MethodName := ⟨R_C, "makeRoom", "(I)V"⟩
abbrev ws_C_makeRoom : List Cond := .code y_C_makeRoom b_C_makeRoom 6 none   :: bigw
abbrev b_C_giveUp : ByteArray := prog_1_method_37_code
def y_C_giveUp : MethodName := ⟨R_C, "giveUp", "(LClusterImage$Page;I)V"⟩
abbrev ws_C_giveUp : List Cond := .code y_C_giveUp b_C_giveUp 3 none   :: bigw
abbrev b_M_init : ByteArray := prog_7_method_1_code
def y_M_init : MethodName := ⟨R_M, "<init>", "()V"⟩
abbrev ws_M_init : List Cond := .code y_M_init b_M_init 1 none   :: bigw
abbrev b_M_tick : ByteArray := prog_7_method_2_code
def y_M_tick : MethodName := ⟨R_M, "tick", "()I"⟩
abbrev ws_M_tick : List Cond := .code y_M_tick b_M_tick 1 (some .int)   :: bigw
abbrev b_M_out : ByteArray := prog_7_method_3_code
def y_M_out : MethodName := ⟨R_M, "out", "(II)Z"⟩
abbrev ws_M_out : List Cond := .code y_M_out b_M_out 2 (some .boolean)   :: bigw
abbrev b_M_noProcess : ByteArray := prog_7_method_4_code
def y_M_noProcess : MethodName := ⟨R_M, "noProcess", "(I)Z"⟩
abbrev ws_M_noProcess : List Cond := .code y_M_noProcess b_M_noProcess 2 (some .boolean)   :: bigw
abbrev b_M_instr : ByteArray := prog_7_method_5_code
def y_M_instr : MethodName := ⟨R_M, "instr", "(IIII)I"⟩
abbrev ws_M_instr : List Cond := .code y_M_instr b_M_instr 7 (some .int)   :: bigw
abbrev b_M_ready : ByteArray := prog_7_method_6_code
def y_M_ready : MethodName := ⟨R_M, "ready", "(I)V"⟩
abbrev ws_M_ready : List Cond := .code y_M_ready b_M_ready 2 none   :: bigw
abbrev b_M_make : ByteArray := prog_7_method_7_code
def y_M_make : MethodName := ⟨R_M, "make", "(II)I"⟩
abbrev ws_M_make : List Cond := .code y_M_make b_M_make 5 (some .int)   :: bigw
abbrev b_M_spawn : ByteArray := prog_7_method_8_code
def y_M_spawn : MethodName := ⟨R_M, "spawn", "(II)I"⟩
abbrev ws_M_spawn : List Cond := .code y_M_spawn b_M_spawn 4 (some .int)   :: bigw
abbrev b_M_standing : ByteArray := prog_7_method_9_code
def y_M_standing : MethodName := ⟨R_M, "standing", "(II)I"⟩
abbrev ws_M_standing : List Cond := .code y_M_standing b_M_standing 6 (some .int)   :: bigw
abbrev b_M_end : ByteArray := prog_7_method_10_code
def y_M_end : MethodName := ⟨R_M, "end", "(II)V"⟩
abbrev ws_M_end : List Cond := .code y_M_end b_M_end 4 none   :: bigw
abbrev b_M_ended : ByteArray := prog_7_method_11_code
def y_M_ended : MethodName := ⟨R_M, "ended", "(I)Z"⟩
abbrev ws_M_ended : List Cond := .code y_M_ended b_M_ended 2 (some .boolean)   :: bigw
abbrev b_M_fault : ByteArray := prog_7_method_12_code
def y_M_fault : MethodName := ⟨R_M, "fault", "(III)Z"⟩
abbrev ws_M_fault : List Cond := .code y_M_fault b_M_fault 5 (some .boolean)   :: bigw
abbrev b_M_touch : ByteArray := prog_7_method_13_code
def y_M_touch : MethodName := ⟨R_M, "touch", "(IIII)V"⟩
abbrev ws_M_touch : List Cond := .code y_M_touch b_M_touch 7 none   :: bigw
abbrev b_M_perform : ByteArray := prog_7_method_14_code
def y_M_perform : MethodName := ⟨R_M, "perform", "(IIIII)Z"⟩
abbrev ws_M_perform : List Cond := .code y_M_perform b_M_perform 7 (some .boolean)   :: bigw
abbrev b_M_step : ByteArray := prog_7_method_15_code
def y_M_step : MethodName := ⟨R_M, "step", "(I)I"⟩
abbrev ws_M_step : List Cond := .code y_M_step b_M_step 8 (some .int)   :: bigw
abbrev b_M_firstAsking : ByteArray := prog_7_method_16_code
def y_M_firstAsking : MethodName := ⟨R_M, "firstAsking", "(I)I"⟩
abbrev ws_M_firstAsking : List Cond := .code y_M_firstAsking b_M_firstAsking 4 (some .int)   :: bigw
abbrev b_M_giveUp : ByteArray := prog_7_method_17_code
def y_M_giveUp : MethodName := ⟨R_M, "giveUp", "(I)V"⟩
abbrev ws_M_giveUp : List Cond := .code y_M_giveUp b_M_giveUp 4 none   :: bigw
abbrev b_M_held : ByteArray := prog_7_method_18_code
def y_M_held : MethodName := ⟨R_M, "held", "(I)I"⟩
abbrev ws_M_held : List Cond := .code y_M_held b_M_held 4 (some .int)   :: bigw
abbrev b_M_share : ByteArray := prog_7_method_19_code
def y_M_share : MethodName := ⟨R_M, "share", "(IIZ)V"⟩
abbrev ws_M_share : List Cond := .code y_M_share b_M_share 6 none   :: bigw
abbrev b_M_serve : ByteArray := prog_7_method_20_code
def y_M_serve : MethodName := ⟨R_M, "serve", "(I)I"⟩
abbrev ws_M_serve : List Cond := .code y_M_serve b_M_serve 5 (some .int)   :: bigw
abbrev b_M_migrate : ByteArray := prog_7_method_21_code
def y_M_migrate : MethodName := ⟨R_M, "migrate", "(II)I"⟩
abbrev ws_M_migrate : List Cond := .code y_M_migrate b_M_migrate 4 (some .int)   :: bigw
abbrev b_M_find : ByteArray := prog_7_method_22_code
def y_M_find : MethodName := ⟨R_M, "find", "(II)I"⟩
abbrev ws_M_find : List Cond := .code y_M_find b_M_find 6 (some .int)   :: bigw
abbrev b_M_reg : ByteArray := prog_7_method_23_code
def y_M_reg : MethodName := ⟨R_M, "reg", "(II)J"⟩
abbrev ws_M_reg : List Cond := .code y_M_reg b_M_reg 3 (some .long)   :: bigw
abbrev b_M_info : ByteArray := prog_7_method_24_code
def y_M_info : MethodName := ⟨R_M, "info", "(II)J"⟩
abbrev ws_M_info : List Cond := .code y_M_info b_M_info 3 (some .long)   :: bigw
abbrev b_M_line : ByteArray := prog_7_method_25_code
def y_M_line : MethodName := ⟨R_M, "line", "(II)I"⟩
abbrev ws_M_line : List Cond := .code y_M_line b_M_line 3 (some .int)   :: bigw
abbrev b_M_word : ByteArray := prog_7_method_26_code
def y_M_word : MethodName := ⟨R_M, "word", "(I)J"⟩
abbrev ws_M_word : List Cond := .code y_M_word b_M_word 2 (some .long)   :: bigw
abbrev b_M_copy : ByteArray := prog_7_method_27_code
def y_M_copy : MethodName := ⟨R_M, "copy", "(II)J"⟩
abbrev ws_M_copy : List Cond := .code y_M_copy b_M_copy 3 (some .long)   :: bigw
abbrev b_M_right : ByteArray := prog_7_method_28_code
def y_M_right : MethodName := ⟨R_M, "right", "(II)I"⟩
abbrev ws_M_right : List Cond := .code y_M_right b_M_right 3 (some .int)   :: bigw
abbrev b_M_owner : ByteArray := prog_7_method_29_code
def y_M_owner : MethodName := ⟨R_M, "owner", "(I)I"⟩
abbrev ws_M_owner : List Cond := .code y_M_owner b_M_owner 2 (some .int)   :: bigw
abbrev b_M_count : ByteArray := prog_7_method_30_code
def y_M_count : MethodName := ⟨R_M, "count", "(I)I"⟩
abbrev ws_M_count : List Cond := .code y_M_count b_M_count 5 (some .int)   :: bigw
abbrev b_Line_init : ByteArray := prog_2_method_1_code
def y_Line_init : MethodName := ⟨R_Line, "<init>", "()V"⟩
abbrev ws_Line_init : List Cond := .code y_Line_init b_Line_init 1 none   :: bigw
abbrev b_Line_append : ByteArray := prog_2_method_2_code
def y_Line_append : MethodName := ⟨R_Line, "append", "(I)V"⟩
abbrev ws_Line_append : List Cond := .code y_Line_append b_Line_append 2 none   :: bigw
abbrev b_Line_remove : ByteArray := prog_2_method_3_code
def y_Line_remove : MethodName := ⟨R_Line, "remove", "(I)V"⟩
abbrev ws_Line_remove : List Cond := .code y_Line_remove b_Line_remove 4 none   :: bigw
abbrev b_Page_init : ByteArray := prog_3_method_1_code
def y_Page_init : MethodName := ⟨R_Page, "<init>", "()V"⟩
abbrev ws_Page_init : List Cond := .code y_Page_init b_Page_init 1 none   :: bigw
abbrev b_Page_giveWrite : ByteArray := prog_3_method_2_code
def y_Page_giveWrite : MethodName := ⟨R_Page, "giveWrite", "(I)I"⟩
abbrev ws_Page_giveWrite : List Cond := .code y_Page_giveWrite b_Page_giveWrite 4 (some .int)   :: bigw
abbrev b_Page_giveRead : ByteArray := prog_3_method_3_code
def y_Page_giveRead : MethodName := ⟨R_Page, "giveRead", "(I)V"⟩
abbrev ws_Page_giveRead : List Cond := .code y_Page_giveRead b_Page_giveRead 3 none   :: bigw
abbrev b_Page_lowestWithRight : ByteArray := prog_3_method_4_code
def y_Page_lowestWithRight : MethodName := ⟨R_Page, "lowestWithRight", "()I"⟩
abbrev ws_Page_lowestWithRight : List Cond := .code y_Page_lowestWithRight b_Page_lowestWithRight 2 (some .int)   :: bigw
abbrev b_Proc_init : ByteArray := prog_4_method_1_code
def y_Proc_init : MethodName := ⟨R_Proc, "<init>", "(III)V"⟩
abbrev ws_Proc_init : List Cond := .code y_Proc_init b_Proc_init 5 none   :: bigw
abbrev b_Program_init : ByteArray := prog_5_method_1_code
def y_Program_init : MethodName := ⟨R_Program, "<init>", "()V"⟩
abbrev ws_Program_init : List Cond := .code y_Program_init b_Program_init 1 none   :: bigw
abbrev b_Program_add : ByteArray := prog_5_method_2_code
def y_Program_add : MethodName := ⟨R_Program, "add", "(III)V"⟩
abbrev ws_Program_add : List Cond := .code y_Program_add b_Program_add 4 none   :: bigw
abbrev b_Math_floorMod : ByteArray := prog_8_method_50_code
def y_Math_floorMod : MethodName := ⟨R_Math, "floorMod", "(II)I"⟩
abbrev ws_Math_floorMod : List Cond := .code y_Math_floorMod b_Math_floorMod 3 (some .int)   :: bigw
end
section
set_option maxRecDepth 20000 in
theorem kn_C : Cond.initialized R_C ∈ bigw := bg 33 rfl rfl
set_option maxRecDepth 20000 in
theorem kx_C : Cond.instantiable R_C 11 ∈ bigw := bg 41 rfl rfl
set_option maxRecDepth 20000 in
theorem kn_Program : Cond.initialized R_Program ∈ bigw := bg 34 rfl rfl
set_option maxRecDepth 20000 in
theorem kx_Program : Cond.instantiable R_Program 4 ∈ bigw := bg 56 rfl rfl
set_option maxRecDepth 20000 in
theorem kn_Proc : Cond.initialized R_Proc ∈ bigw := bg 38 rfl rfl
set_option maxRecDepth 20000 in
theorem kx_Proc : Cond.instantiable R_Proc 12 ∈ bigw := bg 173 rfl rfl
set_option maxRecDepth 20000 in
theorem kn_Line : Cond.initialized R_Line ∈ bigw := bg 35 rfl rfl
set_option maxRecDepth 20000 in
theorem kx_Line : Cond.instantiable R_Line 2 ∈ bigw := bg 79 rfl rfl
set_option maxRecDepth 20000 in
theorem kn_Page : Cond.initialized R_Page ∈ bigw := bg 36 rfl rfl
set_option maxRecDepth 20000 in
theorem kx_Page : Cond.instantiable R_Page 4 ∈ bigw := bg 93 rfl rfl
set_option maxRecDepth 20000 in
theorem kn_M : Cond.initialized R_M ∈ bigw := bg 37 rfl rfl
set_option maxRecDepth 20000 in
theorem kx_M : Cond.instantiable R_M 28 ∈ bigw := bg 369 rfl rfl
set_option maxRecDepth 20000 in
theorem kn_Math : Cond.initialized R_Math ∈ bigw := bg 39 rfl rfl
set_option maxRecDepth 20000 in
theorem ko_i : Cond.instanceMethod objectInit ∈ bigw := bg 46 rfl rfl
set_option maxRecDepth 20000 in
theorem ko_c : Cond.code objectInit ⟨#[0xb1]⟩ 1 none ∈ bigw := bg 47 rfl rfl
set_option maxRecDepth 20000 in
theorem kc_C_init : Cond.code y_C_init b_C_init 2 none ∈ bigw := bg 44 rfl rfl
set_option maxRecDepth 20000 in
theorem kh_C_init : y_C_init.cls ≠ "java/lang/invoke/MethodHandle" ∧ y_C_init.cls ≠ "java/lang/invoke/VarHandle" ∧ (parseMethodDescriptor y_C_init.desc).map (fun d => d.parameters.length) = some 0 := by decide +kernel
set_option maxRecDepth 20000 in
theorem ki_C_init : Cond.instanceMethod y_C_init ∈ bigw := bg 43 rfl rfl
set_option maxRecDepth 20000 in
theorem kc_C_instr : Cond.code y_C_instr b_C_instr 6 (some .int) ∈ bigw := bg 154 rfl rfl
set_option maxRecDepth 20000 in
theorem kh_C_instr : y_C_instr.cls ≠ "java/lang/invoke/MethodHandle" ∧ y_C_instr.cls ≠ "java/lang/invoke/VarHandle" ∧ (parseMethodDescriptor y_C_instr.desc).map (fun d => d.parameters.length) = some 4 := by decide +kernel
set_option maxRecDepth 20000 in
theorem ki_C_instr : Cond.instanceMethod y_C_instr ∈ bigw := bg 152 rfl rfl
set_option maxRecDepth 20000 in
theorem ke_C_instr : Cond.selects R_C y_C_instr y_C_instr ∈ bigw := bg 153 rfl rfl
set_option maxRecDepth 20000 in
theorem kc_C_spawn : Cond.code y_C_spawn b_C_spawn 3 (some .int) ∈ bigw := bg 168 rfl rfl
set_option maxRecDepth 20000 in
theorem kh_C_spawn : y_C_spawn.cls ≠ "java/lang/invoke/MethodHandle" ∧ y_C_spawn.cls ≠ "java/lang/invoke/VarHandle" ∧ (parseMethodDescriptor y_C_spawn.desc).map (fun d => d.parameters.length) = some 2 := by decide +kernel
set_option maxRecDepth 20000 in
theorem ki_C_spawn : Cond.instanceMethod y_C_spawn ∈ bigw := bg 166 rfl rfl
set_option maxRecDepth 20000 in
theorem ke_C_spawn : Cond.selects R_C y_C_spawn y_C_spawn ∈ bigw := bg 167 rfl rfl
set_option maxRecDepth 20000 in
theorem kc_C_step : Cond.code y_C_step b_C_step 3 (some .int) ∈ bigw := bg 231 rfl rfl
set_option maxRecDepth 20000 in
theorem kh_C_step : y_C_step.cls ≠ "java/lang/invoke/MethodHandle" ∧ y_C_step.cls ≠ "java/lang/invoke/VarHandle" ∧ (parseMethodDescriptor y_C_step.desc).map (fun d => d.parameters.length) = some 1 := by decide +kernel
set_option maxRecDepth 20000 in
theorem ki_C_step : Cond.instanceMethod y_C_step ∈ bigw := bg 229 rfl rfl
set_option maxRecDepth 20000 in
theorem ke_C_step : Cond.selects R_C y_C_step y_C_step ∈ bigw := bg 230 rfl rfl
set_option maxRecDepth 20000 in
theorem kc_C_serve : Cond.code y_C_serve b_C_serve 6 (some .int) ∈ bigw := bg 292 rfl rfl
set_option maxRecDepth 20000 in
theorem kh_C_serve : y_C_serve.cls ≠ "java/lang/invoke/MethodHandle" ∧ y_C_serve.cls ≠ "java/lang/invoke/VarHandle" ∧ (parseMethodDescriptor y_C_serve.desc).map (fun d => d.parameters.length) = some 1 := by decide +kernel
set_option maxRecDepth 20000 in
theorem ki_C_serve : Cond.instanceMethod y_C_serve ∈ bigw := bg 290 rfl rfl
set_option maxRecDepth 20000 in
theorem ke_C_serve : Cond.selects R_C y_C_serve y_C_serve ∈ bigw := bg 291 rfl rfl
set_option maxRecDepth 20000 in
theorem kc_C_migrate : Cond.code y_C_migrate b_C_migrate 5 (some .int) ∈ bigw := bg 320 rfl rfl
set_option maxRecDepth 20000 in
theorem kh_C_migrate : y_C_migrate.cls ≠ "java/lang/invoke/MethodHandle" ∧ y_C_migrate.cls ≠ "java/lang/invoke/VarHandle" ∧ (parseMethodDescriptor y_C_migrate.desc).map (fun d => d.parameters.length) = some 2 := by decide +kernel
set_option maxRecDepth 20000 in
theorem ki_C_migrate : Cond.instanceMethod y_C_migrate ∈ bigw := bg 318 rfl rfl
set_option maxRecDepth 20000 in
theorem ke_C_migrate : Cond.selects R_C y_C_migrate y_C_migrate ∈ bigw := bg 319 rfl rfl
set_option maxRecDepth 20000 in
theorem kc_C_find : Cond.code y_C_find b_C_find 7 (some .int) ∈ bigw := bg 324 rfl rfl
set_option maxRecDepth 20000 in
theorem kh_C_find : y_C_find.cls ≠ "java/lang/invoke/MethodHandle" ∧ y_C_find.cls ≠ "java/lang/invoke/VarHandle" ∧ (parseMethodDescriptor y_C_find.desc).map (fun d => d.parameters.length) = some 2 := by decide +kernel
set_option maxRecDepth 20000 in
theorem ki_C_find : Cond.instanceMethod y_C_find ∈ bigw := bg 322 rfl rfl
set_option maxRecDepth 20000 in
theorem ke_C_find : Cond.selects R_C y_C_find y_C_find ∈ bigw := bg 323 rfl rfl
set_option maxRecDepth 20000 in
theorem kc_C_reg : Cond.code y_C_reg b_C_reg 3 (some .long) ∈ bigw := bg 328 rfl rfl
set_option maxRecDepth 20000 in
theorem kh_C_reg : y_C_reg.cls ≠ "java/lang/invoke/MethodHandle" ∧ y_C_reg.cls ≠ "java/lang/invoke/VarHandle" ∧ (parseMethodDescriptor y_C_reg.desc).map (fun d => d.parameters.length) = some 2 := by decide +kernel
set_option maxRecDepth 20000 in
theorem ki_C_reg : Cond.instanceMethod y_C_reg ∈ bigw := bg 326 rfl rfl
set_option maxRecDepth 20000 in
theorem ke_C_reg : Cond.selects R_C y_C_reg y_C_reg ∈ bigw := bg 327 rfl rfl
set_option maxRecDepth 20000 in
theorem kc_C_info : Cond.code y_C_info b_C_info 4 (some .long) ∈ bigw := bg 333 rfl rfl
set_option maxRecDepth 20000 in
theorem kh_C_info : y_C_info.cls ≠ "java/lang/invoke/MethodHandle" ∧ y_C_info.cls ≠ "java/lang/invoke/VarHandle" ∧ (parseMethodDescriptor y_C_info.desc).map (fun d => d.parameters.length) = some 2 := by decide +kernel
set_option maxRecDepth 20000 in
theorem ki_C_info : Cond.instanceMethod y_C_info ∈ bigw := bg 331 rfl rfl
set_option maxRecDepth 20000 in
theorem ke_C_info : Cond.selects R_C y_C_info y_C_info ∈ bigw := bg 332 rfl rfl
set_option maxRecDepth 20000 in
theorem kc_C_line : Cond.code y_C_line b_C_line 3 (some .int) ∈ bigw := bg 338 rfl rfl
set_option maxRecDepth 20000 in
theorem kh_C_line : y_C_line.cls ≠ "java/lang/invoke/MethodHandle" ∧ y_C_line.cls ≠ "java/lang/invoke/VarHandle" ∧ (parseMethodDescriptor y_C_line.desc).map (fun d => d.parameters.length) = some 2 := by decide +kernel
set_option maxRecDepth 20000 in
theorem ki_C_line : Cond.instanceMethod y_C_line ∈ bigw := bg 336 rfl rfl
set_option maxRecDepth 20000 in
theorem ke_C_line : Cond.selects R_C y_C_line y_C_line ∈ bigw := bg 337 rfl rfl
set_option maxRecDepth 20000 in
theorem kc_C_word : Cond.code y_C_word b_C_word 2 (some .long) ∈ bigw := bg 342 rfl rfl
set_option maxRecDepth 20000 in
theorem kh_C_word : y_C_word.cls ≠ "java/lang/invoke/MethodHandle" ∧ y_C_word.cls ≠ "java/lang/invoke/VarHandle" ∧ (parseMethodDescriptor y_C_word.desc).map (fun d => d.parameters.length) = some 1 := by decide +kernel
set_option maxRecDepth 20000 in
theorem ki_C_word : Cond.instanceMethod y_C_word ∈ bigw := bg 340 rfl rfl
set_option maxRecDepth 20000 in
theorem ke_C_word : Cond.selects R_C y_C_word y_C_word ∈ bigw := bg 341 rfl rfl
set_option maxRecDepth 20000 in
theorem kc_C_copy : Cond.code y_C_copy b_C_copy 3 (some .long) ∈ bigw := bg 346 rfl rfl
set_option maxRecDepth 20000 in
theorem kh_C_copy : y_C_copy.cls ≠ "java/lang/invoke/MethodHandle" ∧ y_C_copy.cls ≠ "java/lang/invoke/VarHandle" ∧ (parseMethodDescriptor y_C_copy.desc).map (fun d => d.parameters.length) = some 2 := by decide +kernel
set_option maxRecDepth 20000 in
theorem ki_C_copy : Cond.instanceMethod y_C_copy ∈ bigw := bg 344 rfl rfl
set_option maxRecDepth 20000 in
theorem ke_C_copy : Cond.selects R_C y_C_copy y_C_copy ∈ bigw := bg 345 rfl rfl
set_option maxRecDepth 20000 in
theorem kc_C_right : Cond.code y_C_right b_C_right 3 (some .int) ∈ bigw := bg 351 rfl rfl
set_option maxRecDepth 20000 in
theorem kh_C_right : y_C_right.cls ≠ "java/lang/invoke/MethodHandle" ∧ y_C_right.cls ≠ "java/lang/invoke/VarHandle" ∧ (parseMethodDescriptor y_C_right.desc).map (fun d => d.parameters.length) = some 2 := by decide +kernel
set_option maxRecDepth 20000 in
theorem ki_C_right : Cond.instanceMethod y_C_right ∈ bigw := bg 349 rfl rfl
set_option maxRecDepth 20000 in
theorem ke_C_right : Cond.selects R_C y_C_right y_C_right ∈ bigw := bg 350 rfl rfl
set_option maxRecDepth 20000 in
theorem kc_C_owner : Cond.code y_C_owner b_C_owner 2 (some .int) ∈ bigw := bg 355 rfl rfl
set_option maxRecDepth 20000 in
theorem kh_C_owner : y_C_owner.cls ≠ "java/lang/invoke/MethodHandle" ∧ y_C_owner.cls ≠ "java/lang/invoke/VarHandle" ∧ (parseMethodDescriptor y_C_owner.desc).map (fun d => d.parameters.length) = some 1 := by decide +kernel
set_option maxRecDepth 20000 in
theorem ki_C_owner : Cond.instanceMethod y_C_owner ∈ bigw := bg 353 rfl rfl
set_option maxRecDepth 20000 in
theorem ke_C_owner : Cond.selects R_C y_C_owner y_C_owner ∈ bigw := bg 354 rfl rfl
set_option maxRecDepth 20000 in
theorem kc_C_count : Cond.code y_C_count b_C_count 2 (some .int) ∈ bigw := bg 359 rfl rfl
set_option maxRecDepth 20000 in
theorem kh_C_count : y_C_count.cls ≠ "java/lang/invoke/MethodHandle" ∧ y_C_count.cls ≠ "java/lang/invoke/VarHandle" ∧ (parseMethodDescriptor y_C_count.desc).map (fun d => d.parameters.length) = some 1 := by decide +kernel
set_option maxRecDepth 20000 in
theorem ki_C_count : Cond.instanceMethod y_C_count ∈ bigw := bg 357 rfl rfl
set_option maxRecDepth 20000 in
theorem ke_C_count : Cond.selects R_C y_C_count y_C_count ∈ bigw := bg 358 rfl rfl
set_option maxRecDepth 20000 in
theorem kc_C_isIn : Cond.code y_C_isIn b_C_isIn 2 (some .boolean) ∈ bigw := bg 157 rfl rfl
set_option maxRecDepth 20000 in
theorem kh_C_isIn : y_C_isIn.cls ≠ "java/lang/invoke/MethodHandle" ∧ y_C_isIn.cls ≠ "java/lang/invoke/VarHandle" ∧ (parseMethodDescriptor y_C_isIn.desc).map (fun d => d.parameters.length) = some 2 := by decide +kernel
set_option maxRecDepth 20000 in
theorem ks_C_isIn : Cond.static y_C_isIn ∈ bigw := bg 156 rfl rfl
set_option maxRecDepth 20000 in
theorem kc_C_fitsOp : Cond.code y_C_fitsOp b_C_fitsOp 2 (some .boolean) ∈ bigw := bg 160 rfl rfl
set_option maxRecDepth 20000 in
theorem kh_C_fitsOp : y_C_fitsOp.cls ≠ "java/lang/invoke/MethodHandle" ∧ y_C_fitsOp.cls ≠ "java/lang/invoke/VarHandle" ∧ (parseMethodDescriptor y_C_fitsOp.desc).map (fun d => d.parameters.length) = some 2 := by decide +kernel
set_option maxRecDepth 20000 in
theorem ks_C_fitsOp : Cond.static y_C_fitsOp ∈ bigw := bg 159 rfl rfl
set_option maxRecDepth 20000 in
theorem kc_C_touchesMemory : Cond.code y_C_touchesMemory b_C_touchesMemory 1 (some .boolean) ∈ bigw := bg 250 rfl rfl
set_option maxRecDepth 20000 in
theorem kh_C_touchesMemory : y_C_touchesMemory.cls ≠ "java/lang/invoke/MethodHandle" ∧ y_C_touchesMemory.cls ≠ "java/lang/invoke/VarHandle" ∧ (parseMethodDescriptor y_C_touchesMemory.desc).map (fun d => d.parameters.length) = some 1 := by decide +kernel
set_option maxRecDepth 20000 in
theorem ks_C_touchesMemory : Cond.static y_C_touchesMemory ∈ bigw := bg 249 rfl rfl
set_option maxRecDepth 20000 in
theorem kc_C_addressOf : Cond.code y_C_addressOf b_C_addressOf 1 (some .int) ∈ bigw := bg 253 rfl rfl
set_option maxRecDepth 20000 in
theorem kh_C_addressOf : y_C_addressOf.cls ≠ "java/lang/invoke/MethodHandle" ∧ y_C_addressOf.cls ≠ "java/lang/invoke/VarHandle" ∧ (parseMethodDescriptor y_C_addressOf.desc).map (fun d => d.parameters.length) = some 1 := by decide +kernel
set_option maxRecDepth 20000 in
theorem ks_C_addressOf : Cond.static y_C_addressOf ∈ bigw := bg 252 rfl rfl
set_option maxRecDepth 20000 in
theorem kc_C_requestsStanding : Cond.code y_C_requestsStanding b_C_requestsStanding 3 (some .int) ∈ bigw := bg 363 rfl rfl
set_option maxRecDepth 20000 in
theorem kh_C_requestsStanding : y_C_requestsStanding.cls ≠ "java/lang/invoke/MethodHandle" ∧ y_C_requestsStanding.cls ≠ "java/lang/invoke/VarHandle" ∧ (parseMethodDescriptor y_C_requestsStanding.desc).map (fun d => d.parameters.length) = some 0 := by decide +kernel
set_option maxRecDepth 20000 in
theorem ki_C_requestsStanding : Cond.instanceMethod y_C_requestsStanding ∈ bigw := bg 362 rfl rfl
set_option maxRecDepth 20000 in
theorem ke_C_requestsStanding : Cond.selects R_C y_C_requestsStanding y_C_requestsStanding ∈ bigw := bg 16 rfl rfl
set_option maxRecDepth 20000 in
theorem kc_C_processesReady : Cond.code y_C_processesReady b_C_processesReady 3 (some .int) ∈ bigw := bg 367 rfl rfl
set_option maxRecDepth 20000 in
theorem kh_C_processesReady : y_C_processesReady.cls ≠ "java/lang/invoke/MethodHandle" ∧ y_C_processesReady.cls ≠ "java/lang/invoke/VarHandle" ∧ (parseMethodDescriptor y_C_processesReady.desc).map (fun d => d.parameters.length) = some 0 := by decide +kernel
set_option maxRecDepth 20000 in
theorem ki_C_processesReady : Cond.instanceMethod y_C_processesReady ∈ bigw := bg 366 rfl rfl
set_option maxRecDepth 20000 in
theorem ke_C_processesReady : Cond.selects R_C y_C_processesReady y_C_processesReady ∈ bigw := bg 17 rfl rfl
set_option maxRecDepth 20000 in
theorem kc_C_makeProcess : Cond.code y_C_makeProcess b_C_makeProcess 4 (some .int) ∈ bigw := bg 172 rfl rfl
set_option maxRecDepth 20000 in
theorem kh_C_makeProcess : y_C_makeProcess.cls ≠ "java/lang/invoke/MethodHandle" ∧ y_C_makeProcess.cls ≠ "java/lang/invoke/VarHandle" ∧ (parseMethodDescriptor y_C_makeProcess.desc).map (fun d => d.parameters.length) = some 2 := by decide +kernel
set_option maxRecDepth 20000 in
theorem ki_C_makeProcess : Cond.instanceMethod y_C_makeProcess ∈ bigw := bg 171 rfl rfl
set_option maxRecDepth 20000 in
theorem ke_C_makeProcess : Cond.selects R_C y_C_makeProcess y_C_makeProcess ∈ bigw := bg 0 rfl rfl
set_option maxRecDepth 20000 in
theorem kc_C_joinLine : Cond.code y_C_joinLine b_C_joinLine 2 none ∈ bigw := bg 223 rfl rfl
set_option maxRecDepth 20000 in
theorem kh_C_joinLine : y_C_joinLine.cls ≠ "java/lang/invoke/MethodHandle" ∧ y_C_joinLine.cls ≠ "java/lang/invoke/VarHandle" ∧ (parseMethodDescriptor y_C_joinLine.desc).map (fun d => d.parameters.length) = some 1 := by decide +kernel
set_option maxRecDepth 20000 in
theorem ki_C_joinLine : Cond.instanceMethod y_C_joinLine ∈ bigw := bg 222 rfl rfl
set_option maxRecDepth 20000 in
theorem ke_C_joinLine : Cond.selects R_C y_C_joinLine y_C_joinLine ∈ bigw := bg 1 rfl rfl
set_option maxRecDepth 20000 in
theorem kc_C_leaveLine : Cond.code y_C_leaveLine b_C_leaveLine 3 none ∈ bigw := bg 243 rfl rfl
set_option maxRecDepth 20000 in
theorem kh_C_leaveLine : y_C_leaveLine.cls ≠ "java/lang/invoke/MethodHandle" ∧ y_C_leaveLine.cls ≠ "java/lang/invoke/VarHandle" ∧ (parseMethodDescriptor y_C_leaveLine.desc).map (fun d => d.parameters.length) = some 2 := by decide +kernel
set_option maxRecDepth 20000 in
theorem ki_C_leaveLine : Cond.instanceMethod y_C_leaveLine ∈ bigw := bg 242 rfl rfl
set_option maxRecDepth 20000 in
theorem ke_C_leaveLine : Cond.selects R_C y_C_leaveLine y_C_leaveLine ∈ bigw := bg 4 rfl rfl
set_option maxRecDepth 20000 in
theorem kc_C_endProcess : Cond.code y_C_endProcess b_C_endProcess 5 none ∈ bigw := bg 239 rfl rfl
set_option maxRecDepth 20000 in
theorem kh_C_endProcess : y_C_endProcess.cls ≠ "java/lang/invoke/MethodHandle" ∧ y_C_endProcess.cls ≠ "java/lang/invoke/VarHandle" ∧ (parseMethodDescriptor y_C_endProcess.desc).map (fun d => d.parameters.length) = some 2 := by decide +kernel
set_option maxRecDepth 20000 in
theorem ki_C_endProcess : Cond.instanceMethod y_C_endProcess ∈ bigw := bg 238 rfl rfl
set_option maxRecDepth 20000 in
theorem ke_C_endProcess : Cond.selects R_C y_C_endProcess y_C_endProcess ∈ bigw := bg 3 rfl rfl
set_option maxRecDepth 20000 in
theorem kc_C_runFirst : Cond.code y_C_runFirst b_C_runFirst 8 none ∈ bigw := bg 235 rfl rfl
set_option maxRecDepth 20000 in
theorem kh_C_runFirst : y_C_runFirst.cls ≠ "java/lang/invoke/MethodHandle" ∧ y_C_runFirst.cls ≠ "java/lang/invoke/VarHandle" ∧ (parseMethodDescriptor y_C_runFirst.desc).map (fun d => d.parameters.length) = some 1 := by decide +kernel
set_option maxRecDepth 20000 in
theorem ki_C_runFirst : Cond.instanceMethod y_C_runFirst ∈ bigw := bg 234 rfl rfl
set_option maxRecDepth 20000 in
theorem ke_C_runFirst : Cond.selects R_C y_C_runFirst y_C_runFirst ∈ bigw := bg 2 rfl rfl
set_option maxRecDepth 20000 in
theorem kc_C_blockOn : Cond.code y_C_blockOn b_C_blockOn 4 none ∈ bigw := bg 260 rfl rfl
set_option maxRecDepth 20000 in
theorem kh_C_blockOn : y_C_blockOn.cls ≠ "java/lang/invoke/MethodHandle" ∧ y_C_blockOn.cls ≠ "java/lang/invoke/VarHandle" ∧ (parseMethodDescriptor y_C_blockOn.desc).map (fun d => d.parameters.length) = some 3 := by decide +kernel
set_option maxRecDepth 20000 in
theorem ki_C_blockOn : Cond.instanceMethod y_C_blockOn ∈ bigw := bg 259 rfl rfl
set_option maxRecDepth 20000 in
theorem ke_C_blockOn : Cond.selects R_C y_C_blockOn y_C_blockOn ∈ bigw := bg 5 rfl rfl
set_option maxRecDepth 20000 in
theorem kc_C_spendSlice : Cond.code y_C_spendSlice b_C_spendSlice 3 none ∈ bigw := bg 288 rfl rfl
set_option maxRecDepth 20000 in
theorem kh_C_spendSlice : y_C_spendSlice.cls ≠ "java/lang/invoke/MethodHandle" ∧ y_C_spendSlice.cls ≠ "java/lang/invoke/VarHandle" ∧ (parseMethodDescriptor y_C_spendSlice.desc).map (fun d => d.parameters.length) = some 2 := by decide +kernel
set_option maxRecDepth 20000 in
theorem ki_C_spendSlice : Cond.instanceMethod y_C_spendSlice ∈ bigw := bg 287 rfl rfl
set_option maxRecDepth 20000 in
theorem ke_C_spendSlice : Cond.selects R_C y_C_spendSlice y_C_spendSlice ∈ bigw := bg 12 rfl rfl
set_option maxRecDepth 20000 in
theorem kc_C_perform : Cond.code y_C_perform b_C_perform 7 none ∈ bigw := bg 264 rfl rfl
set_option maxRecDepth 20000 in
theorem kh_C_perform : y_C_perform.cls ≠ "java/lang/invoke/MethodHandle" ∧ y_C_perform.cls ≠ "java/lang/invoke/VarHandle" ∧ (parseMethodDescriptor y_C_perform.desc).map (fun d => d.parameters.length) = some 4 := by decide +kernel
set_option maxRecDepth 20000 in
theorem ki_C_perform : Cond.instanceMethod y_C_perform ∈ bigw := bg 263 rfl rfl
set_option maxRecDepth 20000 in
theorem ke_C_perform : Cond.selects R_C y_C_perform y_C_perform ∈ bigw := bg 6 rfl rfl
set_option maxRecDepth 20000 in
theorem kc_C_accessMemory : Cond.code y_C_accessMemory b_C_accessMemory 7 none ∈ bigw := bg 268 rfl rfl
set_option maxRecDepth 20000 in
theorem kh_C_accessMemory : y_C_accessMemory.cls ≠ "java/lang/invoke/MethodHandle" ∧ y_C_accessMemory.cls ≠ "java/lang/invoke/VarHandle" ∧ (parseMethodDescriptor y_C_accessMemory.desc).map (fun d => d.parameters.length) = some 4 := by decide +kernel
set_option maxRecDepth 20000 in
theorem ki_C_accessMemory : Cond.instanceMethod y_C_accessMemory ∈ bigw := bg 267 rfl rfl
set_option maxRecDepth 20000 in
theorem ke_C_accessMemory : Cond.selects R_C y_C_accessMemory y_C_accessMemory ∈ bigw := bg 7 rfl rfl
set_option maxRecDepth 20000 in
theorem kc_C_isOther : Cond.code y_C_isOther b_C_isOther 3 (some .boolean) ∈ bigw := bg 280 rfl rfl
set_option maxRecDepth 20000 in
theorem kh_C_isOther : y_C_isOther.cls ≠ "java/lang/invoke/MethodHandle" ∧ y_C_isOther.cls ≠ "java/lang/invoke/VarHandle" ∧ (parseMethodDescriptor y_C_isOther.desc).map (fun d => d.parameters.length) = some 2 := by decide +kernel
set_option maxRecDepth 20000 in
theorem ki_C_isOther : Cond.instanceMethod y_C_isOther ∈ bigw := bg 279 rfl rfl
set_option maxRecDepth 20000 in
theorem ke_C_isOther : Cond.selects R_C y_C_isOther y_C_isOther ∈ bigw := bg 10 rfl rfl
set_option maxRecDepth 20000 in
theorem kc_C_waitFor : Cond.code y_C_waitFor b_C_waitFor 4 none ∈ bigw := bg 276 rfl rfl
set_option maxRecDepth 20000 in
theorem kh_C_waitFor : y_C_waitFor.cls ≠ "java/lang/invoke/MethodHandle" ∧ y_C_waitFor.cls ≠ "java/lang/invoke/VarHandle" ∧ (parseMethodDescriptor y_C_waitFor.desc).map (fun d => d.parameters.length) = some 2 := by decide +kernel
set_option maxRecDepth 20000 in
theorem ki_C_waitFor : Cond.instanceMethod y_C_waitFor ∈ bigw := bg 275 rfl rfl
set_option maxRecDepth 20000 in
theorem ke_C_waitFor : Cond.selects R_C y_C_waitFor y_C_waitFor ∈ bigw := bg 9 rfl rfl
set_option maxRecDepth 20000 in
theorem kc_C_killOther : Cond.code y_C_killOther b_C_killOther 4 none ∈ bigw := bg 284 rfl rfl
set_option maxRecDepth 20000 in
theorem kh_C_killOther : y_C_killOther.cls ≠ "java/lang/invoke/MethodHandle" ∧ y_C_killOther.cls ≠ "java/lang/invoke/VarHandle" ∧ (parseMethodDescriptor y_C_killOther.desc).map (fun d => d.parameters.length) = some 2 := by decide +kernel
set_option maxRecDepth 20000 in
theorem ki_C_killOther : Cond.instanceMethod y_C_killOther ∈ bigw := bg 283 rfl rfl
set_option maxRecDepth 20000 in
theorem ke_C_killOther : Cond.selects R_C y_C_killOther y_C_killOther ∈ bigw := bg 11 rfl rfl
set_option maxRecDepth 20000 in
theorem kc_C_usePage : Cond.code y_C_usePage b_C_usePage 3 none ∈ bigw := bg 272 rfl rfl
set_option maxRecDepth 20000 in
theorem kh_C_usePage : y_C_usePage.cls ≠ "java/lang/invoke/MethodHandle" ∧ y_C_usePage.cls ≠ "java/lang/invoke/VarHandle" ∧ (parseMethodDescriptor y_C_usePage.desc).map (fun d => d.parameters.length) = some 2 := by decide +kernel
set_option maxRecDepth 20000 in
theorem ki_C_usePage : Cond.instanceMethod y_C_usePage ∈ bigw := bg 271 rfl rfl
set_option maxRecDepth 20000 in
theorem ke_C_usePage : Cond.selects R_C y_C_usePage y_C_usePage ∈ bigw := bg 8 rfl rfl
set_option maxRecDepth 20000 in
theorem kc_C_grantRequest : Cond.code y_C_grantRequest b_C_grantRequest 4 none ∈ bigw := bg 296 rfl rfl
set_option maxRecDepth 20000 in
theorem kh_C_grantRequest : y_C_grantRequest.cls ≠ "java/lang/invoke/MethodHandle" ∧ y_C_grantRequest.cls ≠ "java/lang/invoke/VarHandle" ∧ (parseMethodDescriptor y_C_grantRequest.desc).map (fun d => d.parameters.length) = some 2 := by decide +kernel
set_option maxRecDepth 20000 in
theorem ki_C_grantRequest : Cond.instanceMethod y_C_grantRequest ∈ bigw := bg 295 rfl rfl
set_option maxRecDepth 20000 in
theorem ke_C_grantRequest : Cond.selects R_C y_C_grantRequest y_C_grantRequest ∈ bigw := bg 13 rfl rfl
set_option maxRecDepth 20000 in
theorem kc_C_makeRoom : Cond.code y_C_makeRoom b_C_makeRoom 6 none ∈ bigw := bg 300 rfl rfl
set_option maxRecDepth 20000 in
theorem kh_C_makeRoom : y_C_makeRoom.cls ≠ "java/lang/invoke/MethodHandle" ∧ y_C_makeRoom.cls ≠ "java/lang/invoke/VarHandle" ∧ (parseMethodDescriptor y_C_makeRoom.desc).map (fun d => d.parameters.length) = some 1 := by decide +kernel
set_option maxRecDepth 20000 in
theorem ki_C_makeRoom : Cond.instanceMethod y_C_makeRoom ∈ bigw := bg 299 rfl rfl
set_option maxRecDepth 20000 in
theorem ke_C_makeRoom : Cond.selects R_C y_C_makeRoom y_C_makeRoom ∈ bigw := bg 14 rfl rfl
set_option maxRecDepth 20000 in
theorem kc_C_giveUp : Cond.code y_C_giveUp b_C_giveUp 3 none ∈ bigw := bg 304 rfl rfl
set_option maxRecDepth 20000 in
theorem kh_C_giveUp : y_C_giveUp.cls ≠ "java/lang/invoke/MethodHandle" ∧ y_C_giveUp.cls ≠ "java/lang/invoke/VarHandle" ∧ (parseMethodDescriptor y_C_giveUp.desc).map (fun d => d.parameters.length) = some 2 := by decide +kernel
set_option maxRecDepth 20000 in
theorem ki_C_giveUp : Cond.instanceMethod y_C_giveUp ∈ bigw := bg 303 rfl rfl
set_option maxRecDepth 20000 in
theorem ke_C_giveUp : Cond.selects R_C y_C_giveUp y_C_giveUp ∈ bigw := bg 15 rfl rfl
set_option maxRecDepth 20000 in
theorem kc_M_init : Cond.code y_M_init b_M_init 1 none ∈ bigw := bg 372 rfl rfl
set_option maxRecDepth 20000 in
theorem kh_M_init : y_M_init.cls ≠ "java/lang/invoke/MethodHandle" ∧ y_M_init.cls ≠ "java/lang/invoke/VarHandle" ∧ (parseMethodDescriptor y_M_init.desc).map (fun d => d.parameters.length) = some 0 := by decide +kernel
set_option maxRecDepth 20000 in
theorem ki_M_init : Cond.instanceMethod y_M_init ∈ bigw := bg 371 rfl rfl
set_option maxRecDepth 20000 in
theorem kc_M_tick : Cond.code y_M_tick b_M_tick 1 (some .int) ∈ bigw := bg 482 rfl rfl
set_option maxRecDepth 20000 in
theorem kh_M_tick : y_M_tick.cls ≠ "java/lang/invoke/MethodHandle" ∧ y_M_tick.cls ≠ "java/lang/invoke/VarHandle" ∧ (parseMethodDescriptor y_M_tick.desc).map (fun d => d.parameters.length) = some 0 := by decide +kernel
set_option maxRecDepth 20000 in
theorem ki_M_tick : Cond.instanceMethod y_M_tick ∈ bigw := bg 481 rfl rfl
set_option maxRecDepth 20000 in
theorem ke_M_tick : Cond.selects R_M y_M_tick y_M_tick ∈ bigw := bg 20 rfl rfl
set_option maxRecDepth 20000 in
theorem kc_M_out : Cond.code y_M_out b_M_out 2 (some .boolean) ∈ bigw := bg 466 rfl rfl
set_option maxRecDepth 20000 in
theorem kh_M_out : y_M_out.cls ≠ "java/lang/invoke/MethodHandle" ∧ y_M_out.cls ≠ "java/lang/invoke/VarHandle" ∧ (parseMethodDescriptor y_M_out.desc).map (fun d => d.parameters.length) = some 2 := by decide +kernel
set_option maxRecDepth 20000 in
theorem ks_M_out : Cond.static y_M_out ∈ bigw := bg 465 rfl rfl
set_option maxRecDepth 20000 in
theorem kc_M_noProcess : Cond.code y_M_noProcess b_M_noProcess 2 (some .boolean) ∈ bigw := bg 510 rfl rfl
set_option maxRecDepth 20000 in
theorem kh_M_noProcess : y_M_noProcess.cls ≠ "java/lang/invoke/MethodHandle" ∧ y_M_noProcess.cls ≠ "java/lang/invoke/VarHandle" ∧ (parseMethodDescriptor y_M_noProcess.desc).map (fun d => d.parameters.length) = some 1 := by decide +kernel
set_option maxRecDepth 20000 in
theorem ki_M_noProcess : Cond.instanceMethod y_M_noProcess ∈ bigw := bg 509 rfl rfl
set_option maxRecDepth 20000 in
theorem ke_M_noProcess : Cond.selects R_M y_M_noProcess y_M_noProcess ∈ bigw := bg 26 rfl rfl
set_option maxRecDepth 20000 in
theorem kc_M_instr : Cond.code y_M_instr b_M_instr 7 (some .int) ∈ bigw := bg 463 rfl rfl
set_option maxRecDepth 20000 in
theorem kh_M_instr : y_M_instr.cls ≠ "java/lang/invoke/MethodHandle" ∧ y_M_instr.cls ≠ "java/lang/invoke/VarHandle" ∧ (parseMethodDescriptor y_M_instr.desc).map (fun d => d.parameters.length) = some 4 := by decide +kernel
set_option maxRecDepth 20000 in
theorem ki_M_instr : Cond.instanceMethod y_M_instr ∈ bigw := bg 461 rfl rfl
set_option maxRecDepth 20000 in
theorem ke_M_instr : Cond.selects R_M y_M_instr y_M_instr ∈ bigw := bg 462 rfl rfl
set_option maxRecDepth 20000 in
theorem kc_M_ready : Cond.code y_M_ready b_M_ready 2 none ∈ bigw := bg 478 rfl rfl
set_option maxRecDepth 20000 in
theorem kh_M_ready : y_M_ready.cls ≠ "java/lang/invoke/MethodHandle" ∧ y_M_ready.cls ≠ "java/lang/invoke/VarHandle" ∧ (parseMethodDescriptor y_M_ready.desc).map (fun d => d.parameters.length) = some 1 := by decide +kernel
set_option maxRecDepth 20000 in
theorem ki_M_ready : Cond.instanceMethod y_M_ready ∈ bigw := bg 477 rfl rfl
set_option maxRecDepth 20000 in
theorem ke_M_ready : Cond.selects R_M y_M_ready y_M_ready ∈ bigw := bg 19 rfl rfl
set_option maxRecDepth 20000 in
theorem kc_M_make : Cond.code y_M_make b_M_make 5 (some .int) ∈ bigw := bg 474 rfl rfl
set_option maxRecDepth 20000 in
theorem kh_M_make : y_M_make.cls ≠ "java/lang/invoke/MethodHandle" ∧ y_M_make.cls ≠ "java/lang/invoke/VarHandle" ∧ (parseMethodDescriptor y_M_make.desc).map (fun d => d.parameters.length) = some 2 := by decide +kernel
set_option maxRecDepth 20000 in
theorem ki_M_make : Cond.instanceMethod y_M_make ∈ bigw := bg 473 rfl rfl
set_option maxRecDepth 20000 in
theorem ke_M_make : Cond.selects R_M y_M_make y_M_make ∈ bigw := bg 18 rfl rfl
set_option maxRecDepth 20000 in
theorem kc_M_spawn : Cond.code y_M_spawn b_M_spawn 4 (some .int) ∈ bigw := bg 470 rfl rfl
set_option maxRecDepth 20000 in
theorem kh_M_spawn : y_M_spawn.cls ≠ "java/lang/invoke/MethodHandle" ∧ y_M_spawn.cls ≠ "java/lang/invoke/VarHandle" ∧ (parseMethodDescriptor y_M_spawn.desc).map (fun d => d.parameters.length) = some 2 := by decide +kernel
set_option maxRecDepth 20000 in
theorem ki_M_spawn : Cond.instanceMethod y_M_spawn ∈ bigw := bg 468 rfl rfl
set_option maxRecDepth 20000 in
theorem ke_M_spawn : Cond.selects R_M y_M_spawn y_M_spawn ∈ bigw := bg 469 rfl rfl
set_option maxRecDepth 20000 in
theorem kc_M_standing : Cond.code y_M_standing b_M_standing 6 (some .int) ∈ bigw := bg 490 rfl rfl
set_option maxRecDepth 20000 in
theorem kh_M_standing : y_M_standing.cls ≠ "java/lang/invoke/MethodHandle" ∧ y_M_standing.cls ≠ "java/lang/invoke/VarHandle" ∧ (parseMethodDescriptor y_M_standing.desc).map (fun d => d.parameters.length) = some 2 := by decide +kernel
set_option maxRecDepth 20000 in
theorem ki_M_standing : Cond.instanceMethod y_M_standing ∈ bigw := bg 489 rfl rfl
set_option maxRecDepth 20000 in
theorem ke_M_standing : Cond.selects R_M y_M_standing y_M_standing ∈ bigw := bg 21 rfl rfl
set_option maxRecDepth 20000 in
theorem kc_M_end : Cond.code y_M_end b_M_end 4 none ∈ bigw := bg 494 rfl rfl
set_option maxRecDepth 20000 in
theorem kh_M_end : y_M_end.cls ≠ "java/lang/invoke/MethodHandle" ∧ y_M_end.cls ≠ "java/lang/invoke/VarHandle" ∧ (parseMethodDescriptor y_M_end.desc).map (fun d => d.parameters.length) = some 2 := by decide +kernel
set_option maxRecDepth 20000 in
theorem ki_M_end : Cond.instanceMethod y_M_end ∈ bigw := bg 493 rfl rfl
set_option maxRecDepth 20000 in
theorem ke_M_end : Cond.selects R_M y_M_end y_M_end ∈ bigw := bg 22 rfl rfl
set_option maxRecDepth 20000 in
theorem kc_M_ended : Cond.code y_M_ended b_M_ended 2 (some .boolean) ∈ bigw := bg 514 rfl rfl
set_option maxRecDepth 20000 in
theorem kh_M_ended : y_M_ended.cls ≠ "java/lang/invoke/MethodHandle" ∧ y_M_ended.cls ≠ "java/lang/invoke/VarHandle" ∧ (parseMethodDescriptor y_M_ended.desc).map (fun d => d.parameters.length) = some 1 := by decide +kernel
set_option maxRecDepth 20000 in
theorem ki_M_ended : Cond.instanceMethod y_M_ended ∈ bigw := bg 513 rfl rfl
set_option maxRecDepth 20000 in
theorem ke_M_ended : Cond.selects R_M y_M_ended y_M_ended ∈ bigw := bg 27 rfl rfl
set_option maxRecDepth 20000 in
theorem kc_M_fault : Cond.code y_M_fault b_M_fault 5 (some .boolean) ∈ bigw := bg 498 rfl rfl
set_option maxRecDepth 20000 in
theorem kh_M_fault : y_M_fault.cls ≠ "java/lang/invoke/MethodHandle" ∧ y_M_fault.cls ≠ "java/lang/invoke/VarHandle" ∧ (parseMethodDescriptor y_M_fault.desc).map (fun d => d.parameters.length) = some 3 := by decide +kernel
set_option maxRecDepth 20000 in
theorem ki_M_fault : Cond.instanceMethod y_M_fault ∈ bigw := bg 497 rfl rfl
set_option maxRecDepth 20000 in
theorem ke_M_fault : Cond.selects R_M y_M_fault y_M_fault ∈ bigw := bg 23 rfl rfl
set_option maxRecDepth 20000 in
theorem kc_M_touch : Cond.code y_M_touch b_M_touch 7 none ∈ bigw := bg 506 rfl rfl
set_option maxRecDepth 20000 in
theorem kh_M_touch : y_M_touch.cls ≠ "java/lang/invoke/MethodHandle" ∧ y_M_touch.cls ≠ "java/lang/invoke/VarHandle" ∧ (parseMethodDescriptor y_M_touch.desc).map (fun d => d.parameters.length) = some 4 := by decide +kernel
set_option maxRecDepth 20000 in
theorem ki_M_touch : Cond.instanceMethod y_M_touch ∈ bigw := bg 505 rfl rfl
set_option maxRecDepth 20000 in
theorem ke_M_touch : Cond.selects R_M y_M_touch y_M_touch ∈ bigw := bg 25 rfl rfl
set_option maxRecDepth 20000 in
theorem kc_M_perform : Cond.code y_M_perform b_M_perform 7 (some .boolean) ∈ bigw := bg 502 rfl rfl
set_option maxRecDepth 20000 in
theorem kh_M_perform : y_M_perform.cls ≠ "java/lang/invoke/MethodHandle" ∧ y_M_perform.cls ≠ "java/lang/invoke/VarHandle" ∧ (parseMethodDescriptor y_M_perform.desc).map (fun d => d.parameters.length) = some 5 := by decide +kernel
set_option maxRecDepth 20000 in
theorem ki_M_perform : Cond.instanceMethod y_M_perform ∈ bigw := bg 501 rfl rfl
set_option maxRecDepth 20000 in
theorem ke_M_perform : Cond.selects R_M y_M_perform y_M_perform ∈ bigw := bg 24 rfl rfl
set_option maxRecDepth 20000 in
theorem kc_M_step : Cond.code y_M_step b_M_step 8 (some .int) ∈ bigw := bg 486 rfl rfl
set_option maxRecDepth 20000 in
theorem kh_M_step : y_M_step.cls ≠ "java/lang/invoke/MethodHandle" ∧ y_M_step.cls ≠ "java/lang/invoke/VarHandle" ∧ (parseMethodDescriptor y_M_step.desc).map (fun d => d.parameters.length) = some 1 := by decide +kernel
set_option maxRecDepth 20000 in
theorem ki_M_step : Cond.instanceMethod y_M_step ∈ bigw := bg 484 rfl rfl
set_option maxRecDepth 20000 in
theorem ke_M_step : Cond.selects R_M y_M_step y_M_step ∈ bigw := bg 485 rfl rfl
set_option maxRecDepth 20000 in
theorem kc_M_firstAsking : Cond.code y_M_firstAsking b_M_firstAsking 4 (some .int) ∈ bigw := bg 522 rfl rfl
set_option maxRecDepth 20000 in
theorem kh_M_firstAsking : y_M_firstAsking.cls ≠ "java/lang/invoke/MethodHandle" ∧ y_M_firstAsking.cls ≠ "java/lang/invoke/VarHandle" ∧ (parseMethodDescriptor y_M_firstAsking.desc).map (fun d => d.parameters.length) = some 1 := by decide +kernel
set_option maxRecDepth 20000 in
theorem ki_M_firstAsking : Cond.instanceMethod y_M_firstAsking ∈ bigw := bg 521 rfl rfl
set_option maxRecDepth 20000 in
theorem ke_M_firstAsking : Cond.selects R_M y_M_firstAsking y_M_firstAsking ∈ bigw := bg 28 rfl rfl
set_option maxRecDepth 20000 in
theorem kc_M_giveUp : Cond.code y_M_giveUp b_M_giveUp 4 none ∈ bigw := bg 530 rfl rfl
set_option maxRecDepth 20000 in
theorem kh_M_giveUp : y_M_giveUp.cls ≠ "java/lang/invoke/MethodHandle" ∧ y_M_giveUp.cls ≠ "java/lang/invoke/VarHandle" ∧ (parseMethodDescriptor y_M_giveUp.desc).map (fun d => d.parameters.length) = some 1 := by decide +kernel
set_option maxRecDepth 20000 in
theorem ki_M_giveUp : Cond.instanceMethod y_M_giveUp ∈ bigw := bg 529 rfl rfl
set_option maxRecDepth 20000 in
theorem ke_M_giveUp : Cond.selects R_M y_M_giveUp y_M_giveUp ∈ bigw := bg 30 rfl rfl
set_option maxRecDepth 20000 in
theorem kc_M_held : Cond.code y_M_held b_M_held 4 (some .int) ∈ bigw := bg 526 rfl rfl
set_option maxRecDepth 20000 in
theorem kh_M_held : y_M_held.cls ≠ "java/lang/invoke/MethodHandle" ∧ y_M_held.cls ≠ "java/lang/invoke/VarHandle" ∧ (parseMethodDescriptor y_M_held.desc).map (fun d => d.parameters.length) = some 1 := by decide +kernel
set_option maxRecDepth 20000 in
theorem ki_M_held : Cond.instanceMethod y_M_held ∈ bigw := bg 525 rfl rfl
set_option maxRecDepth 20000 in
theorem ke_M_held : Cond.selects R_M y_M_held y_M_held ∈ bigw := bg 29 rfl rfl
set_option maxRecDepth 20000 in
theorem kc_M_share : Cond.code y_M_share b_M_share 6 none ∈ bigw := bg 534 rfl rfl
set_option maxRecDepth 20000 in
theorem kh_M_share : y_M_share.cls ≠ "java/lang/invoke/MethodHandle" ∧ y_M_share.cls ≠ "java/lang/invoke/VarHandle" ∧ (parseMethodDescriptor y_M_share.desc).map (fun d => d.parameters.length) = some 3 := by decide +kernel
set_option maxRecDepth 20000 in
theorem ki_M_share : Cond.instanceMethod y_M_share ∈ bigw := bg 533 rfl rfl
set_option maxRecDepth 20000 in
theorem ke_M_share : Cond.selects R_M y_M_share y_M_share ∈ bigw := bg 31 rfl rfl
set_option maxRecDepth 20000 in
theorem kc_M_serve : Cond.code y_M_serve b_M_serve 5 (some .int) ∈ bigw := bg 518 rfl rfl
set_option maxRecDepth 20000 in
theorem kh_M_serve : y_M_serve.cls ≠ "java/lang/invoke/MethodHandle" ∧ y_M_serve.cls ≠ "java/lang/invoke/VarHandle" ∧ (parseMethodDescriptor y_M_serve.desc).map (fun d => d.parameters.length) = some 1 := by decide +kernel
set_option maxRecDepth 20000 in
theorem ki_M_serve : Cond.instanceMethod y_M_serve ∈ bigw := bg 516 rfl rfl
set_option maxRecDepth 20000 in
theorem ke_M_serve : Cond.selects R_M y_M_serve y_M_serve ∈ bigw := bg 517 rfl rfl
set_option maxRecDepth 20000 in
theorem kc_M_migrate : Cond.code y_M_migrate b_M_migrate 4 (some .int) ∈ bigw := bg 538 rfl rfl
set_option maxRecDepth 20000 in
theorem kh_M_migrate : y_M_migrate.cls ≠ "java/lang/invoke/MethodHandle" ∧ y_M_migrate.cls ≠ "java/lang/invoke/VarHandle" ∧ (parseMethodDescriptor y_M_migrate.desc).map (fun d => d.parameters.length) = some 2 := by decide +kernel
set_option maxRecDepth 20000 in
theorem ki_M_migrate : Cond.instanceMethod y_M_migrate ∈ bigw := bg 536 rfl rfl
set_option maxRecDepth 20000 in
theorem ke_M_migrate : Cond.selects R_M y_M_migrate y_M_migrate ∈ bigw := bg 537 rfl rfl
set_option maxRecDepth 20000 in
theorem kc_M_find : Cond.code y_M_find b_M_find 6 (some .int) ∈ bigw := bg 542 rfl rfl
set_option maxRecDepth 20000 in
theorem kh_M_find : y_M_find.cls ≠ "java/lang/invoke/MethodHandle" ∧ y_M_find.cls ≠ "java/lang/invoke/VarHandle" ∧ (parseMethodDescriptor y_M_find.desc).map (fun d => d.parameters.length) = some 2 := by decide +kernel
set_option maxRecDepth 20000 in
theorem ki_M_find : Cond.instanceMethod y_M_find ∈ bigw := bg 540 rfl rfl
set_option maxRecDepth 20000 in
theorem ke_M_find : Cond.selects R_M y_M_find y_M_find ∈ bigw := bg 541 rfl rfl
set_option maxRecDepth 20000 in
theorem kc_M_reg : Cond.code y_M_reg b_M_reg 3 (some .long) ∈ bigw := bg 546 rfl rfl
set_option maxRecDepth 20000 in
theorem kh_M_reg : y_M_reg.cls ≠ "java/lang/invoke/MethodHandle" ∧ y_M_reg.cls ≠ "java/lang/invoke/VarHandle" ∧ (parseMethodDescriptor y_M_reg.desc).map (fun d => d.parameters.length) = some 2 := by decide +kernel
set_option maxRecDepth 20000 in
theorem ki_M_reg : Cond.instanceMethod y_M_reg ∈ bigw := bg 544 rfl rfl
set_option maxRecDepth 20000 in
theorem ke_M_reg : Cond.selects R_M y_M_reg y_M_reg ∈ bigw := bg 545 rfl rfl
set_option maxRecDepth 20000 in
theorem kc_M_info : Cond.code y_M_info b_M_info 3 (some .long) ∈ bigw := bg 551 rfl rfl
set_option maxRecDepth 20000 in
theorem kh_M_info : y_M_info.cls ≠ "java/lang/invoke/MethodHandle" ∧ y_M_info.cls ≠ "java/lang/invoke/VarHandle" ∧ (parseMethodDescriptor y_M_info.desc).map (fun d => d.parameters.length) = some 2 := by decide +kernel
set_option maxRecDepth 20000 in
theorem ki_M_info : Cond.instanceMethod y_M_info ∈ bigw := bg 549 rfl rfl
set_option maxRecDepth 20000 in
theorem ke_M_info : Cond.selects R_M y_M_info y_M_info ∈ bigw := bg 550 rfl rfl
set_option maxRecDepth 20000 in
theorem kc_M_line : Cond.code y_M_line b_M_line 3 (some .int) ∈ bigw := bg 555 rfl rfl
set_option maxRecDepth 20000 in
theorem kh_M_line : y_M_line.cls ≠ "java/lang/invoke/MethodHandle" ∧ y_M_line.cls ≠ "java/lang/invoke/VarHandle" ∧ (parseMethodDescriptor y_M_line.desc).map (fun d => d.parameters.length) = some 2 := by decide +kernel
set_option maxRecDepth 20000 in
theorem ki_M_line : Cond.instanceMethod y_M_line ∈ bigw := bg 553 rfl rfl
set_option maxRecDepth 20000 in
theorem ke_M_line : Cond.selects R_M y_M_line y_M_line ∈ bigw := bg 554 rfl rfl
set_option maxRecDepth 20000 in
theorem kc_M_word : Cond.code y_M_word b_M_word 2 (some .long) ∈ bigw := bg 559 rfl rfl
set_option maxRecDepth 20000 in
theorem kh_M_word : y_M_word.cls ≠ "java/lang/invoke/MethodHandle" ∧ y_M_word.cls ≠ "java/lang/invoke/VarHandle" ∧ (parseMethodDescriptor y_M_word.desc).map (fun d => d.parameters.length) = some 1 := by decide +kernel
set_option maxRecDepth 20000 in
theorem ki_M_word : Cond.instanceMethod y_M_word ∈ bigw := bg 557 rfl rfl
set_option maxRecDepth 20000 in
theorem ke_M_word : Cond.selects R_M y_M_word y_M_word ∈ bigw := bg 558 rfl rfl
set_option maxRecDepth 20000 in
theorem kc_M_copy : Cond.code y_M_copy b_M_copy 3 (some .long) ∈ bigw := bg 563 rfl rfl
set_option maxRecDepth 20000 in
theorem kh_M_copy : y_M_copy.cls ≠ "java/lang/invoke/MethodHandle" ∧ y_M_copy.cls ≠ "java/lang/invoke/VarHandle" ∧ (parseMethodDescriptor y_M_copy.desc).map (fun d => d.parameters.length) = some 2 := by decide +kernel
set_option maxRecDepth 20000 in
theorem ki_M_copy : Cond.instanceMethod y_M_copy ∈ bigw := bg 561 rfl rfl
set_option maxRecDepth 20000 in
theorem ke_M_copy : Cond.selects R_M y_M_copy y_M_copy ∈ bigw := bg 562 rfl rfl
set_option maxRecDepth 20000 in
theorem kc_M_right : Cond.code y_M_right b_M_right 3 (some .int) ∈ bigw := bg 567 rfl rfl
set_option maxRecDepth 20000 in
theorem kh_M_right : y_M_right.cls ≠ "java/lang/invoke/MethodHandle" ∧ y_M_right.cls ≠ "java/lang/invoke/VarHandle" ∧ (parseMethodDescriptor y_M_right.desc).map (fun d => d.parameters.length) = some 2 := by decide +kernel
set_option maxRecDepth 20000 in
theorem ki_M_right : Cond.instanceMethod y_M_right ∈ bigw := bg 565 rfl rfl
set_option maxRecDepth 20000 in
theorem ke_M_right : Cond.selects R_M y_M_right y_M_right ∈ bigw := bg 566 rfl rfl
set_option maxRecDepth 20000 in
theorem kc_M_owner : Cond.code y_M_owner b_M_owner 2 (some .int) ∈ bigw := bg 571 rfl rfl
set_option maxRecDepth 20000 in
theorem kh_M_owner : y_M_owner.cls ≠ "java/lang/invoke/MethodHandle" ∧ y_M_owner.cls ≠ "java/lang/invoke/VarHandle" ∧ (parseMethodDescriptor y_M_owner.desc).map (fun d => d.parameters.length) = some 1 := by decide +kernel
set_option maxRecDepth 20000 in
theorem ki_M_owner : Cond.instanceMethod y_M_owner ∈ bigw := bg 569 rfl rfl
set_option maxRecDepth 20000 in
theorem ke_M_owner : Cond.selects R_M y_M_owner y_M_owner ∈ bigw := bg 570 rfl rfl
set_option maxRecDepth 20000 in
theorem kc_M_count : Cond.code y_M_count b_M_count 5 (some .int) ∈ bigw := bg 575 rfl rfl
set_option maxRecDepth 20000 in
theorem kh_M_count : y_M_count.cls ≠ "java/lang/invoke/MethodHandle" ∧ y_M_count.cls ≠ "java/lang/invoke/VarHandle" ∧ (parseMethodDescriptor y_M_count.desc).map (fun d => d.parameters.length) = some 1 := by decide +kernel
set_option maxRecDepth 20000 in
theorem ki_M_count : Cond.instanceMethod y_M_count ∈ bigw := bg 573 rfl rfl
set_option maxRecDepth 20000 in
theorem ke_M_count : Cond.selects R_M y_M_count y_M_count ∈ bigw := bg 574 rfl rfl
set_option maxRecDepth 20000 in
theorem kc_Line_init : Cond.code y_Line_init b_Line_init 1 none ∈ bigw := bg 82 rfl rfl
set_option maxRecDepth 20000 in
theorem kh_Line_init : y_Line_init.cls ≠ "java/lang/invoke/MethodHandle" ∧ y_Line_init.cls ≠ "java/lang/invoke/VarHandle" ∧ (parseMethodDescriptor y_Line_init.desc).map (fun d => d.parameters.length) = some 0 := by decide +kernel
set_option maxRecDepth 20000 in
theorem ki_Line_init : Cond.instanceMethod y_Line_init ∈ bigw := bg 81 rfl rfl
set_option maxRecDepth 20000 in
theorem kc_Line_append : Cond.code y_Line_append b_Line_append 2 none ∈ bigw := bg 227 rfl rfl
set_option maxRecDepth 20000 in
theorem kh_Line_append : y_Line_append.cls ≠ "java/lang/invoke/MethodHandle" ∧ y_Line_append.cls ≠ "java/lang/invoke/VarHandle" ∧ (parseMethodDescriptor y_Line_append.desc).map (fun d => d.parameters.length) = some 1 := by decide +kernel
set_option maxRecDepth 20000 in
theorem ki_Line_append : Cond.instanceMethod y_Line_append ∈ bigw := bg 225 rfl rfl
set_option maxRecDepth 20000 in
theorem ke_Line_append : Cond.selects R_Line y_Line_append y_Line_append ∈ bigw := bg 226 rfl rfl
set_option maxRecDepth 20000 in
theorem kc_Line_remove : Cond.code y_Line_remove b_Line_remove 4 none ∈ bigw := bg 247 rfl rfl
set_option maxRecDepth 20000 in
theorem kh_Line_remove : y_Line_remove.cls ≠ "java/lang/invoke/MethodHandle" ∧ y_Line_remove.cls ≠ "java/lang/invoke/VarHandle" ∧ (parseMethodDescriptor y_Line_remove.desc).map (fun d => d.parameters.length) = some 1 := by decide +kernel
set_option maxRecDepth 20000 in
theorem ki_Line_remove : Cond.instanceMethod y_Line_remove ∈ bigw := bg 245 rfl rfl
set_option maxRecDepth 20000 in
theorem ke_Line_remove : Cond.selects R_Line y_Line_remove y_Line_remove ∈ bigw := bg 246 rfl rfl
set_option maxRecDepth 20000 in
theorem kc_Page_init : Cond.code y_Page_init b_Page_init 1 none ∈ bigw := bg 96 rfl rfl
set_option maxRecDepth 20000 in
theorem kh_Page_init : y_Page_init.cls ≠ "java/lang/invoke/MethodHandle" ∧ y_Page_init.cls ≠ "java/lang/invoke/VarHandle" ∧ (parseMethodDescriptor y_Page_init.desc).map (fun d => d.parameters.length) = some 0 := by decide +kernel
set_option maxRecDepth 20000 in
theorem ki_Page_init : Cond.instanceMethod y_Page_init ∈ bigw := bg 95 rfl rfl
set_option maxRecDepth 20000 in
theorem kc_Page_giveWrite : Cond.code y_Page_giveWrite b_Page_giveWrite 4 (some .int) ∈ bigw := bg 312 rfl rfl
set_option maxRecDepth 20000 in
theorem kh_Page_giveWrite : y_Page_giveWrite.cls ≠ "java/lang/invoke/MethodHandle" ∧ y_Page_giveWrite.cls ≠ "java/lang/invoke/VarHandle" ∧ (parseMethodDescriptor y_Page_giveWrite.desc).map (fun d => d.parameters.length) = some 1 := by decide +kernel
set_option maxRecDepth 20000 in
theorem ki_Page_giveWrite : Cond.instanceMethod y_Page_giveWrite ∈ bigw := bg 310 rfl rfl
set_option maxRecDepth 20000 in
theorem ke_Page_giveWrite : Cond.selects R_Page y_Page_giveWrite y_Page_giveWrite ∈ bigw := bg 311 rfl rfl
set_option maxRecDepth 20000 in
theorem kc_Page_giveRead : Cond.code y_Page_giveRead b_Page_giveRead 3 none ∈ bigw := bg 316 rfl rfl
set_option maxRecDepth 20000 in
theorem kh_Page_giveRead : y_Page_giveRead.cls ≠ "java/lang/invoke/MethodHandle" ∧ y_Page_giveRead.cls ≠ "java/lang/invoke/VarHandle" ∧ (parseMethodDescriptor y_Page_giveRead.desc).map (fun d => d.parameters.length) = some 1 := by decide +kernel
set_option maxRecDepth 20000 in
theorem ki_Page_giveRead : Cond.instanceMethod y_Page_giveRead ∈ bigw := bg 314 rfl rfl
set_option maxRecDepth 20000 in
theorem ke_Page_giveRead : Cond.selects R_Page y_Page_giveRead y_Page_giveRead ∈ bigw := bg 315 rfl rfl
set_option maxRecDepth 20000 in
theorem kc_Page_lowestWithRight : Cond.code y_Page_lowestWithRight b_Page_lowestWithRight 2 (some .int) ∈ bigw := bg 308 rfl rfl
set_option maxRecDepth 20000 in
theorem kh_Page_lowestWithRight : y_Page_lowestWithRight.cls ≠ "java/lang/invoke/MethodHandle" ∧ y_Page_lowestWithRight.cls ≠ "java/lang/invoke/VarHandle" ∧ (parseMethodDescriptor y_Page_lowestWithRight.desc).map (fun d => d.parameters.length) = some 0 := by decide +kernel
set_option maxRecDepth 20000 in
theorem ki_Page_lowestWithRight : Cond.instanceMethod y_Page_lowestWithRight ∈ bigw := bg 306 rfl rfl
set_option maxRecDepth 20000 in
theorem ke_Page_lowestWithRight : Cond.selects R_Page y_Page_lowestWithRight y_Page_lowestWithRight ∈ bigw := bg 307 rfl rfl
set_option maxRecDepth 20000 in
theorem kc_Proc_init : Cond.code y_Proc_init b_Proc_init 5 none ∈ bigw := bg 176 rfl rfl
set_option maxRecDepth 20000 in
theorem kh_Proc_init : y_Proc_init.cls ≠ "java/lang/invoke/MethodHandle" ∧ y_Proc_init.cls ≠ "java/lang/invoke/VarHandle" ∧ (parseMethodDescriptor y_Proc_init.desc).map (fun d => d.parameters.length) = some 3 := by decide +kernel
set_option maxRecDepth 20000 in
theorem ki_Proc_init : Cond.instanceMethod y_Proc_init ∈ bigw := bg 175 rfl rfl
set_option maxRecDepth 20000 in
theorem kc_Program_init : Cond.code y_Program_init b_Program_init 1 none ∈ bigw := bg 59 rfl rfl
set_option maxRecDepth 20000 in
theorem kh_Program_init : y_Program_init.cls ≠ "java/lang/invoke/MethodHandle" ∧ y_Program_init.cls ≠ "java/lang/invoke/VarHandle" ∧ (parseMethodDescriptor y_Program_init.desc).map (fun d => d.parameters.length) = some 0 := by decide +kernel
set_option maxRecDepth 20000 in
theorem ki_Program_init : Cond.instanceMethod y_Program_init ∈ bigw := bg 58 rfl rfl
set_option maxRecDepth 20000 in
theorem kc_Program_add : Cond.code y_Program_add b_Program_add 4 none ∈ bigw := bg 164 rfl rfl
set_option maxRecDepth 20000 in
theorem kh_Program_add : y_Program_add.cls ≠ "java/lang/invoke/MethodHandle" ∧ y_Program_add.cls ≠ "java/lang/invoke/VarHandle" ∧ (parseMethodDescriptor y_Program_add.desc).map (fun d => d.parameters.length) = some 3 := by decide +kernel
set_option maxRecDepth 20000 in
theorem ki_Program_add : Cond.instanceMethod y_Program_add ∈ bigw := bg 162 rfl rfl
set_option maxRecDepth 20000 in
theorem ke_Program_add : Cond.selects R_Program y_Program_add y_Program_add ∈ bigw := bg 163 rfl rfl
set_option maxRecDepth 20000 in
theorem kc_Math_floorMod : Cond.code y_Math_floorMod b_Math_floorMod 3 (some .int) ∈ bigw := bg 256 rfl rfl
set_option maxRecDepth 20000 in
theorem kh_Math_floorMod : y_Math_floorMod.cls ≠ "java/lang/invoke/MethodHandle" ∧ y_Math_floorMod.cls ≠ "java/lang/invoke/VarHandle" ∧ (parseMethodDescriptor y_Math_floorMod.desc).map (fun d => d.parameters.length) = some 2 := by decide +kernel
set_option maxRecDepth 20000 in
theorem ks_Math_floorMod : Cond.static y_Math_floorMod ∈ bigw := bg 255 rfl rfl
set_option maxRecDepth 20000 in
theorem kd_law_7 : Cond.classLink RL 7 R_C ∈ bigw := bg 40 rfl rfl
set_option maxRecDepth 20000 in
theorem km_law_9 : Cond.methodLink RL 9 y_C_init ∈ bigw := bg 42 rfl rfl
set_option maxRecDepth 20000 in
theorem km_C_3 : Cond.methodLink R_C 3 objectInit ∈ bigw := bg 45 rfl rfl
set_option maxRecDepth 20000 in
theorem kd_C_9 : Cond.classLink R_C 9 R_Program ∈ bigw := bg 48 rfl rfl
set_option maxRecDepth 20000 in
theorem kb_Program : Cond.arrayOver (.object "ClusterImage$Program") ∈ lw_tbl := List.mem_of_getElem? (i := 49) rfl
set_option maxRecDepth 20000 in
theorem kd_C_15 : Cond.classLink R_C 15 R_Proc ∈ bigw := bg 50 rfl rfl
set_option maxRecDepth 20000 in
theorem kb_Proc : Cond.arrayOver (.object "ClusterImage$Proc") ∈ lw_tbl := List.mem_of_getElem? (i := 51) rfl
set_option maxRecDepth 20000 in
theorem kd_C_21 : Cond.classLink R_C 21 R_Line ∈ bigw := bg 52 rfl rfl
set_option maxRecDepth 20000 in
theorem kb_Line : Cond.arrayOver (.object "ClusterImage$Line") ∈ lw_tbl := List.mem_of_getElem? (i := 53) rfl
set_option maxRecDepth 20000 in
theorem kd_C_27 : Cond.classLink R_C 27 R_Page ∈ bigw := bg 54 rfl rfl
set_option maxRecDepth 20000 in
theorem kb_Page : Cond.arrayOver (.object "ClusterImage$Page") ∈ lw_tbl := List.mem_of_getElem? (i := 55) rfl
set_option maxRecDepth 20000 in
theorem kk_C_37 : Cond.methodLinkNest R_C 37 y_Program_init "ClusterImage" ∈ lw_tbl := List.mem_of_getElem? (i := 57) rfl
set_option maxRecDepth 20000 in
theorem km_Program_3 : Cond.methodLink R_Program 3 objectInit ∈ bigw := bg 60 rfl rfl
set_option maxRecDepth 20000 in
theorem kf_Program_9 : Cond.fieldLink R_Program 9 "ClusterImage$Program" "ops" "[I" ∈ bigw := bg 61 rfl rfl
set_option maxRecDepth 20000 in
theorem kf_C_166 : Cond.fieldLink R_C 166 "ClusterImage$Program" "ops" "[I" ∈ bigw := bg 62 rfl rfl
set_option maxRecDepth 20000 in
theorem kf_Program_15 : Cond.fieldLink R_Program 15 "ClusterImage$Program" "as" "[I" ∈ bigw := bg 63 rfl rfl
set_option maxRecDepth 20000 in
theorem kf_C_169 : Cond.fieldLink R_C 169 "ClusterImage$Program" "as" "[I" ∈ bigw := bg 64 rfl rfl
set_option maxRecDepth 20000 in
theorem kf_Program_18 : Cond.fieldLink R_Program 18 "ClusterImage$Program" "bs" "[I" ∈ bigw := bg 65 rfl rfl
set_option maxRecDepth 20000 in
theorem kf_C_172 : Cond.fieldLink R_C 172 "ClusterImage$Program" "bs" "[I" ∈ bigw := bg 66 rfl rfl
set_option maxRecDepth 20000 in
theorem kf_Program_21 : Cond.fieldLink R_Program 21 "ClusterImage$Program" "size" "I" ∈ bigw := bg 67 rfl rfl
set_option maxRecDepth 20000 in
theorem kf_C_47 : Cond.fieldLink R_C 47 "ClusterImage$Program" "size" "I" ∈ bigw := bg 68 rfl rfl
set_option maxRecDepth 20000 in
theorem ka_int : Cond.arrayClass Jvm.ClassFile.FieldType.int ∈ bigw := bg 78 rfl rfl
set_option maxRecDepth 20000 in
theorem kk_C_38 : Cond.methodLinkNest R_C 38 y_Line_init "ClusterImage" ∈ lw_tbl := List.mem_of_getElem? (i := 80) rfl
set_option maxRecDepth 20000 in
theorem km_Line_3 : Cond.methodLink R_Line 3 objectInit ∈ bigw := bg 83 rfl rfl
set_option maxRecDepth 20000 in
theorem kf_Line_9 : Cond.fieldLink R_Line 9 "ClusterImage$Line" "items" "[I" ∈ bigw := bg 84 rfl rfl
set_option maxRecDepth 20000 in
theorem kf_C_63 : Cond.fieldLink R_C 63 "ClusterImage$Line" "items" "[I" ∈ bigw := bg 85 rfl rfl
set_option maxRecDepth 20000 in
theorem kf_Line_15 : Cond.fieldLink R_Line 15 "ClusterImage$Line" "size" "I" ∈ bigw := bg 86 rfl rfl
set_option maxRecDepth 20000 in
theorem kf_C_62 : Cond.fieldLink R_C 62 "ClusterImage$Line" "size" "I" ∈ bigw := bg 87 rfl rfl
set_option maxRecDepth 20000 in
theorem kk_C_39 : Cond.methodLinkNest R_C 39 y_Page_init "ClusterImage" ∈ lw_tbl := List.mem_of_getElem? (i := 94) rfl
set_option maxRecDepth 20000 in
theorem km_Page_3 : Cond.methodLink R_Page 3 objectInit ∈ bigw := bg 97 rfl rfl
set_option maxRecDepth 20000 in
theorem kd_Page_18 : Cond.classLink R_Page 18 R_Line ∈ bigw := bg 98 rfl rfl
set_option maxRecDepth 20000 in
theorem kk_Page_20 : Cond.methodLinkNest R_Page 20 y_Line_init "ClusterImage" ∈ lw_tbl := List.mem_of_getElem? (i := 99) rfl
set_option maxRecDepth 20000 in
theorem kf_Page_9 : Cond.fieldLink R_Page 9 "ClusterImage$Page" "rights" "[I" ∈ bigw := bg 100 rfl rfl
set_option maxRecDepth 20000 in
theorem kf_C_118 : Cond.fieldLink R_C 118 "ClusterImage$Page" "rights" "[I" ∈ bigw := bg 101 rfl rfl
set_option maxRecDepth 20000 in
theorem kf_Page_15 : Cond.fieldLink R_Page 15 "ClusterImage$Page" "lastUse" "[I" ∈ bigw := bg 102 rfl rfl
set_option maxRecDepth 20000 in
theorem kf_C_218 : Cond.fieldLink R_C 218 "ClusterImage$Page" "lastUse" "[I" ∈ bigw := bg 103 rfl rfl
set_option maxRecDepth 20000 in
theorem kf_Page_21 : Cond.fieldLink R_Page 21 "ClusterImage$Page" "requests" "LClusterImage$Line;" ∈ bigw := bg 104 rfl rfl
set_option maxRecDepth 20000 in
theorem kf_C_76 : Cond.fieldLink R_C 76 "ClusterImage$Page" "requests" "LClusterImage$Line;" ∈ bigw := bg 105 rfl rfl
set_option maxRecDepth 20000 in
theorem kf_Page_25 : Cond.fieldLink R_Page 25 "ClusterImage$Page" "holder" "I" ∈ bigw := bg 106 rfl rfl
set_option maxRecDepth 20000 in
theorem kf_C_121 : Cond.fieldLink R_C 121 "ClusterImage$Page" "holder" "I" ∈ bigw := bg 107 rfl rfl
set_option maxRecDepth 20000 in
theorem kf_C_11 : Cond.fieldLink R_C 11 "ClusterImage" "programs" "[LClusterImage$Program;" ∈ bigw := bg 117 rfl rfl
set_option maxRecDepth 20000 in
theorem kf_C_17 : Cond.fieldLink R_C 17 "ClusterImage" "processes" "[LClusterImage$Proc;" ∈ bigw := bg 118 rfl rfl
set_option maxRecDepth 20000 in
theorem kf_C_23 : Cond.fieldLink R_C 23 "ClusterImage" "lines" "[LClusterImage$Line;" ∈ bigw := bg 119 rfl rfl
set_option maxRecDepth 20000 in
theorem kf_C_29 : Cond.fieldLink R_C 29 "ClusterImage" "pages" "[LClusterImage$Page;" ∈ bigw := bg 120 rfl rfl
set_option maxRecDepth 20000 in
theorem kf_C_33 : Cond.fieldLink R_C 33 "ClusterImage" "memory" "[I" ∈ bigw := bg 121 rfl rfl
set_option maxRecDepth 20000 in
theorem kf_C_55 : Cond.fieldLink R_C 55 "ClusterImage" "made" "I" ∈ bigw := bg 122 rfl rfl
set_option maxRecDepth 20000 in
theorem kf_C_215 : Cond.fieldLink R_C 215 "ClusterImage" "uses" "I" ∈ bigw := bg 123 rfl rfl
set_option maxRecDepth 20000 in
theorem kf_C_124 : Cond.fieldLink R_C 124 "ClusterImage" "messages" "I" ∈ bigw := bg 124 rfl rfl
set_option maxRecDepth 20000 in
theorem kf_C_127 : Cond.fieldLink R_C 127 "ClusterImage" "faults" "I" ∈ bigw := bg 125 rfl rfl
set_option maxRecDepth 20000 in
theorem kf_C_130 : Cond.fieldLink R_C 130 "ClusterImage" "givenUp" "I" ∈ bigw := bg 126 rfl rfl
set_option maxRecDepth 20000 in
theorem kf_C_140 : Cond.fieldLink R_C 140 "ClusterImage" "grants" "I" ∈ bigw := bg 127 rfl rfl
set_option maxRecDepth 20000 in
theorem km_law_13 : Cond.methodLink RL 13 y_C_instr ∈ bigw := bg 151 rfl rfl
set_option maxRecDepth 20000 in
theorem km_C_40 : Cond.methodLink R_C 40 y_C_isIn ∈ bigw := bg 155 rfl rfl
set_option maxRecDepth 20000 in
theorem km_C_44 : Cond.methodLink R_C 44 y_C_fitsOp ∈ bigw := bg 158 rfl rfl
set_option maxRecDepth 20000 in
theorem km_C_51 : Cond.methodLink R_C 51 y_Program_add ∈ bigw := bg 161 rfl rfl
set_option maxRecDepth 20000 in
theorem km_law_18 : Cond.methodLink RL 18 y_C_spawn ∈ bigw := bg 165 rfl rfl
set_option maxRecDepth 20000 in
theorem km_C_58 : Cond.methodLink R_C 58 y_C_makeProcess ∈ bigw := bg 169 rfl rfl
set_option maxRecDepth 20000 in
theorem km_C_148 : Cond.methodLink R_C 148 y_Proc_init ∈ bigw := bg 174 rfl rfl
set_option maxRecDepth 20000 in
theorem km_Proc_3 : Cond.methodLink R_Proc 3 objectInit ∈ bigw := bg 177 rfl rfl
set_option maxRecDepth 20000 in
theorem kf_Proc_18 : Cond.fieldLink R_Proc 18 "ClusterImage$Proc" "number" "I" ∈ bigw := bg 178 rfl rfl
set_option maxRecDepth 20000 in
theorem kf_C_73 : Cond.fieldLink R_C 73 "ClusterImage$Proc" "number" "I" ∈ bigw := bg 179 rfl rfl
set_option maxRecDepth 20000 in
theorem kf_Proc_22 : Cond.fieldLink R_Proc 22 "ClusterImage$Proc" "program" "I" ∈ bigw := bg 180 rfl rfl
set_option maxRecDepth 20000 in
theorem kf_C_160 : Cond.fieldLink R_C 160 "ClusterImage$Proc" "program" "I" ∈ bigw := bg 181 rfl rfl
set_option maxRecDepth 20000 in
theorem kf_Proc_9 : Cond.fieldLink R_Proc 9 "ClusterImage$Proc" "registers" "[I" ∈ bigw := bg 182 rfl rfl
set_option maxRecDepth 20000 in
theorem kf_C_99 : Cond.fieldLink R_C 99 "ClusterImage$Proc" "registers" "[I" ∈ bigw := bg 183 rfl rfl
set_option maxRecDepth 20000 in
theorem kf_Proc_15 : Cond.fieldLink R_Proc 15 "ClusterImage$Proc" "hints" "[I" ∈ bigw := bg 184 rfl rfl
set_option maxRecDepth 20000 in
theorem kf_C_91 : Cond.fieldLink R_C 91 "ClusterImage$Proc" "hints" "[I" ∈ bigw := bg 185 rfl rfl
set_option maxRecDepth 20000 in
theorem kf_Proc_25 : Cond.fieldLink R_Proc 25 "ClusterImage$Proc" "place" "I" ∈ bigw := bg 186 rfl rfl
set_option maxRecDepth 20000 in
theorem kf_C_88 : Cond.fieldLink R_C 88 "ClusterImage$Proc" "place" "I" ∈ bigw := bg 187 rfl rfl
set_option maxRecDepth 20000 in
theorem kf_C_70 : Cond.fieldLink R_C 70 "ClusterImage$Proc" "state" "I" ∈ bigw := bg 188 rfl rfl
set_option maxRecDepth 20000 in
theorem kf_C_102 : Cond.fieldLink R_C 102 "ClusterImage$Proc" "counter" "I" ∈ bigw := bg 189 rfl rfl
set_option maxRecDepth 20000 in
theorem kf_C_105 : Cond.fieldLink R_C 105 "ClusterImage$Proc" "slice" "I" ∈ bigw := bg 190 rfl rfl
set_option maxRecDepth 20000 in
theorem kf_C_108 : Cond.fieldLink R_C 108 "ClusterImage$Proc" "code" "I" ∈ bigw := bg 191 rfl rfl
set_option maxRecDepth 20000 in
theorem kf_C_111 : Cond.fieldLink R_C 111 "ClusterImage$Proc" "wantedPage" "I" ∈ bigw := bg 192 rfl rfl
set_option maxRecDepth 20000 in
theorem kf_C_195 : Cond.fieldLink R_C 195 "ClusterImage$Proc" "wantedRight" "I" ∈ bigw := bg 193 rfl rfl
set_option maxRecDepth 20000 in
theorem kf_C_157 : Cond.fieldLink R_C 157 "ClusterImage$Proc" "awaited" "I" ∈ bigw := bg 194 rfl rfl
set_option maxRecDepth 20000 in
theorem km_C_94 : Cond.methodLink R_C 94 y_C_joinLine ∈ bigw := bg 220 rfl rfl
set_option maxRecDepth 20000 in
theorem km_C_150 : Cond.methodLink R_C 150 y_Line_append ∈ bigw := bg 224 rfl rfl
set_option maxRecDepth 20000 in
theorem km_law_23 : Cond.methodLink RL 23 y_C_step ∈ bigw := bg 228 rfl rfl
set_option maxRecDepth 20000 in
theorem km_C_66 : Cond.methodLink R_C 66 y_C_runFirst ∈ bigw := bg 232 rfl rfl
set_option maxRecDepth 20000 in
theorem km_C_163 : Cond.methodLink R_C 163 y_C_endProcess ∈ bigw := bg 236 rfl rfl
set_option maxRecDepth 20000 in
theorem km_C_153 : Cond.methodLink R_C 153 y_C_leaveLine ∈ bigw := bg 240 rfl rfl
set_option maxRecDepth 20000 in
theorem km_C_80 : Cond.methodLink R_C 80 y_Line_remove ∈ bigw := bg 244 rfl rfl
set_option maxRecDepth 20000 in
theorem km_C_175 : Cond.methodLink R_C 175 y_C_touchesMemory ∈ bigw := bg 248 rfl rfl
set_option maxRecDepth 20000 in
theorem km_C_179 : Cond.methodLink R_C 179 y_C_addressOf ∈ bigw := bg 251 rfl rfl
set_option maxRecDepth 20000 in
theorem km_C_143 : Cond.methodLink R_C 143 y_Math_floorMod ∈ bigw := bg 254 rfl rfl
set_option maxRecDepth 20000 in
theorem km_C_183 : Cond.methodLink R_C 183 y_C_blockOn ∈ bigw := bg 257 rfl rfl
set_option maxRecDepth 20000 in
theorem km_C_187 : Cond.methodLink R_C 187 y_C_perform ∈ bigw := bg 261 rfl rfl
set_option maxRecDepth 20000 in
theorem km_C_198 : Cond.methodLink R_C 198 y_C_accessMemory ∈ bigw := bg 265 rfl rfl
set_option maxRecDepth 20000 in
theorem km_C_207 : Cond.methodLink R_C 207 y_C_usePage ∈ bigw := bg 269 rfl rfl
set_option maxRecDepth 20000 in
theorem km_C_201 : Cond.methodLink R_C 201 y_C_waitFor ∈ bigw := bg 273 rfl rfl
set_option maxRecDepth 20000 in
theorem km_C_211 : Cond.methodLink R_C 211 y_C_isOther ∈ bigw := bg 277 rfl rfl
set_option maxRecDepth 20000 in
theorem km_C_204 : Cond.methodLink R_C 204 y_C_killOther ∈ bigw := bg 281 rfl rfl
set_option maxRecDepth 20000 in
theorem km_C_191 : Cond.methodLink R_C 191 y_C_spendSlice ∈ bigw := bg 285 rfl rfl
set_option maxRecDepth 20000 in
theorem km_law_28 : Cond.methodLink RL 28 y_C_serve ∈ bigw := bg 289 rfl rfl
set_option maxRecDepth 20000 in
theorem km_C_84 : Cond.methodLink R_C 84 y_C_grantRequest ∈ bigw := bg 293 rfl rfl
set_option maxRecDepth 20000 in
theorem km_C_221 : Cond.methodLink R_C 221 y_C_makeRoom ∈ bigw := bg 297 rfl rfl
set_option maxRecDepth 20000 in
theorem km_C_230 : Cond.methodLink R_C 230 y_C_giveUp ∈ bigw := bg 301 rfl rfl
set_option maxRecDepth 20000 in
theorem km_C_233 : Cond.methodLink R_C 233 y_Page_lowestWithRight ∈ bigw := bg 305 rfl rfl
set_option maxRecDepth 20000 in
theorem km_C_224 : Cond.methodLink R_C 224 y_Page_giveWrite ∈ bigw := bg 309 rfl rfl
set_option maxRecDepth 20000 in
theorem km_C_227 : Cond.methodLink R_C 227 y_Page_giveRead ∈ bigw := bg 313 rfl rfl
set_option maxRecDepth 20000 in
theorem km_law_32 : Cond.methodLink RL 32 y_C_migrate ∈ bigw := bg 317 rfl rfl
set_option maxRecDepth 20000 in
theorem km_law_36 : Cond.methodLink RL 36 y_C_find ∈ bigw := bg 321 rfl rfl
set_option maxRecDepth 20000 in
theorem km_law_40 : Cond.methodLink RL 40 y_C_reg ∈ bigw := bg 325 rfl rfl
set_option maxRecDepth 20000 in
theorem kg_C_97 : Cond.constantLong R_C 97 (10000000000 : Int64) ∈ bigw := bg 329 rfl rfl
set_option maxRecDepth 20000 in
theorem km_law_45 : Cond.methodLink RL 45 y_C_info ∈ bigw := bg 330 rfl rfl
set_option maxRecDepth 20000 in
theorem kg_C_114 : Cond.constantLong R_C 114 (8 : Int64) ∈ bigw := bg 334 rfl rfl
set_option maxRecDepth 20000 in
theorem km_law_49 : Cond.methodLink RL 49 y_C_line ∈ bigw := bg 335 rfl rfl
set_option maxRecDepth 20000 in
theorem km_law_53 : Cond.methodLink RL 53 y_C_word ∈ bigw := bg 339 rfl rfl
set_option maxRecDepth 20000 in
theorem km_law_58 : Cond.methodLink RL 58 y_C_copy ∈ bigw := bg 343 rfl rfl
set_option maxRecDepth 20000 in
theorem kg_C_116 : Cond.constantLong R_C 116 (-1 : Int64) ∈ bigw := bg 347 rfl rfl
set_option maxRecDepth 20000 in
theorem km_law_62 : Cond.methodLink RL 62 y_C_right ∈ bigw := bg 348 rfl rfl
set_option maxRecDepth 20000 in
theorem km_law_66 : Cond.methodLink RL 66 y_C_owner ∈ bigw := bg 352 rfl rfl
set_option maxRecDepth 20000 in
theorem km_law_70 : Cond.methodLink RL 70 y_C_count ∈ bigw := bg 356 rfl rfl
set_option maxRecDepth 20000 in
theorem km_C_133 : Cond.methodLink R_C 133 y_C_requestsStanding ∈ bigw := bg 360 rfl rfl
set_option maxRecDepth 20000 in
theorem km_C_137 : Cond.methodLink R_C 137 y_C_processesReady ∈ bigw := bg 364 rfl rfl
set_option maxRecDepth 20000 in
theorem kd_law_10 : Cond.classLink RL 10 R_M ∈ bigw := bg 368 rfl rfl
set_option maxRecDepth 20000 in
theorem km_law_12 : Cond.methodLink RL 12 y_M_init ∈ bigw := bg 370 rfl rfl
set_option maxRecDepth 20000 in
theorem km_M_1 : Cond.methodLink R_M 1 objectInit ∈ bigw := bg 373 rfl rfl
set_option maxRecDepth 20000 in
theorem kf_M_7 : Cond.fieldLink R_M 7 "ClusterImageModel" "ops" "[I" ∈ bigw := bg 374 rfl rfl
set_option maxRecDepth 20000 in
theorem kf_M_13 : Cond.fieldLink R_M 13 "ClusterImageModel" "as" "[I" ∈ bigw := bg 375 rfl rfl
set_option maxRecDepth 20000 in
theorem kf_M_16 : Cond.fieldLink R_M 16 "ClusterImageModel" "bs" "[I" ∈ bigw := bg 376 rfl rfl
set_option maxRecDepth 20000 in
theorem kf_M_19 : Cond.fieldLink R_M 19 "ClusterImageModel" "size" "[I" ∈ bigw := bg 377 rfl rfl
set_option maxRecDepth 20000 in
theorem kf_M_22 : Cond.fieldLink R_M 22 "ClusterImageModel" "program" "[I" ∈ bigw := bg 378 rfl rfl
set_option maxRecDepth 20000 in
theorem kf_M_25 : Cond.fieldLink R_M 25 "ClusterImageModel" "regs" "[I" ∈ bigw := bg 379 rfl rfl
set_option maxRecDepth 20000 in
theorem kf_M_28 : Cond.fieldLink R_M 28 "ClusterImageModel" "counter" "[I" ∈ bigw := bg 380 rfl rfl
set_option maxRecDepth 20000 in
theorem kf_M_31 : Cond.fieldLink R_M 31 "ClusterImageModel" "place" "[I" ∈ bigw := bg 381 rfl rfl
set_option maxRecDepth 20000 in
theorem kf_M_34 : Cond.fieldLink R_M 34 "ClusterImageModel" "state" "[I" ∈ bigw := bg 382 rfl rfl
set_option maxRecDepth 20000 in
theorem kf_M_37 : Cond.fieldLink R_M 37 "ClusterImageModel" "since" "[I" ∈ bigw := bg 383 rfl rfl
set_option maxRecDepth 20000 in
theorem kf_M_40 : Cond.fieldLink R_M 40 "ClusterImageModel" "slice" "[I" ∈ bigw := bg 384 rfl rfl
set_option maxRecDepth 20000 in
theorem kf_M_43 : Cond.fieldLink R_M 43 "ClusterImageModel" "code" "[I" ∈ bigw := bg 385 rfl rfl
set_option maxRecDepth 20000 in
theorem kf_M_46 : Cond.fieldLink R_M 46 "ClusterImageModel" "awaited" "[I" ∈ bigw := bg 386 rfl rfl
set_option maxRecDepth 20000 in
theorem kf_M_49 : Cond.fieldLink R_M 49 "ClusterImageModel" "page" "[I" ∈ bigw := bg 387 rfl rfl
set_option maxRecDepth 20000 in
theorem kf_M_81 : Cond.fieldLink R_M 81 "ClusterImageModel" "made" "I" ∈ bigw := bg 388 rfl rfl
set_option maxRecDepth 20000 in
theorem kf_M_52 : Cond.fieldLink R_M 52 "ClusterImageModel" "asked" "[I" ∈ bigw := bg 389 rfl rfl
set_option maxRecDepth 20000 in
theorem kf_M_55 : Cond.fieldLink R_M 55 "ClusterImageModel" "askedPage" "[I" ∈ bigw := bg 390 rfl rfl
set_option maxRecDepth 20000 in
theorem kf_M_58 : Cond.fieldLink R_M 58 "ClusterImageModel" "askedWrite" "[Z" ∈ bigw := bg 391 rfl rfl
set_option maxRecDepth 20000 in
theorem kf_M_62 : Cond.fieldLink R_M 62 "ClusterImageModel" "memory" "[I" ∈ bigw := bg 392 rfl rfl
set_option maxRecDepth 20000 in
theorem kf_M_65 : Cond.fieldLink R_M 65 "ClusterImageModel" "rights" "[I" ∈ bigw := bg 393 rfl rfl
set_option maxRecDepth 20000 in
theorem kf_M_68 : Cond.fieldLink R_M 68 "ClusterImageModel" "used" "[I" ∈ bigw := bg 394 rfl rfl
set_option maxRecDepth 20000 in
theorem kf_M_71 : Cond.fieldLink R_M 71 "ClusterImageModel" "owners" "[I" ∈ bigw := bg 395 rfl rfl
set_option maxRecDepth 20000 in
theorem kf_M_74 : Cond.fieldLink R_M 74 "ClusterImageModel" "hints" "[I" ∈ bigw := bg 396 rfl rfl
set_option maxRecDepth 20000 in
theorem kf_M_77 : Cond.fieldLink R_M 77 "ClusterImageModel" "moment" "I" ∈ bigw := bg 397 rfl rfl
set_option maxRecDepth 20000 in
theorem kf_M_132 : Cond.fieldLink R_M 132 "ClusterImageModel" "messages" "I" ∈ bigw := bg 398 rfl rfl
set_option maxRecDepth 20000 in
theorem kf_M_104 : Cond.fieldLink R_M 104 "ClusterImageModel" "faults" "I" ∈ bigw := bg 399 rfl rfl
set_option maxRecDepth 20000 in
theorem kf_M_129 : Cond.fieldLink R_M 129 "ClusterImageModel" "given" "I" ∈ bigw := bg 400 rfl rfl
set_option maxRecDepth 20000 in
theorem kf_M_149 : Cond.fieldLink R_M 149 "ClusterImageModel" "grants" "I" ∈ bigw := bg 401 rfl rfl
set_option maxRecDepth 20000 in
theorem ka_boolean : Cond.arrayClass Jvm.ClassFile.FieldType.boolean ∈ bigw := bg 459 rfl rfl
set_option maxRecDepth 20000 in
theorem km_law_17 : Cond.methodLink RL 17 y_M_instr ∈ bigw := bg 460 rfl rfl
set_option maxRecDepth 20000 in
theorem km_M_84 : Cond.methodLink R_M 84 y_M_out ∈ bigw := bg 464 rfl rfl
set_option maxRecDepth 20000 in
theorem km_law_22 : Cond.methodLink RL 22 y_M_spawn ∈ bigw := bg 467 rfl rfl
set_option maxRecDepth 20000 in
theorem km_M_96 : Cond.methodLink R_M 96 y_M_make ∈ bigw := bg 471 rfl rfl
set_option maxRecDepth 20000 in
theorem km_M_92 : Cond.methodLink R_M 92 y_M_ready ∈ bigw := bg 475 rfl rfl
set_option maxRecDepth 20000 in
theorem km_M_88 : Cond.methodLink R_M 88 y_M_tick ∈ bigw := bg 479 rfl rfl
set_option maxRecDepth 20000 in
theorem km_law_27 : Cond.methodLink RL 27 y_M_step ∈ bigw := bg 483 rfl rfl
set_option maxRecDepth 20000 in
theorem km_M_118 : Cond.methodLink R_M 118 y_M_standing ∈ bigw := bg 487 rfl rfl
set_option maxRecDepth 20000 in
theorem km_M_114 : Cond.methodLink R_M 114 y_M_end ∈ bigw := bg 491 rfl rfl
set_option maxRecDepth 20000 in
theorem km_M_121 : Cond.methodLink R_M 121 y_M_fault ∈ bigw := bg 495 rfl rfl
set_option maxRecDepth 20000 in
theorem km_M_125 : Cond.methodLink R_M 125 y_M_perform ∈ bigw := bg 499 rfl rfl
set_option maxRecDepth 20000 in
theorem km_M_107 : Cond.methodLink R_M 107 y_M_touch ∈ bigw := bg 503 rfl rfl
set_option maxRecDepth 20000 in
theorem km_M_100 : Cond.methodLink R_M 100 y_M_noProcess ∈ bigw := bg 507 rfl rfl
set_option maxRecDepth 20000 in
theorem km_M_111 : Cond.methodLink R_M 111 y_M_ended ∈ bigw := bg 511 rfl rfl
set_option maxRecDepth 20000 in
theorem km_law_31 : Cond.methodLink RL 31 y_M_serve ∈ bigw := bg 515 rfl rfl
set_option maxRecDepth 20000 in
theorem km_M_135 : Cond.methodLink R_M 135 y_M_firstAsking ∈ bigw := bg 519 rfl rfl
set_option maxRecDepth 20000 in
theorem km_M_139 : Cond.methodLink R_M 139 y_M_held ∈ bigw := bg 523 rfl rfl
set_option maxRecDepth 20000 in
theorem km_M_142 : Cond.methodLink R_M 142 y_M_giveUp ∈ bigw := bg 527 rfl rfl
set_option maxRecDepth 20000 in
theorem km_M_145 : Cond.methodLink R_M 145 y_M_share ∈ bigw := bg 531 rfl rfl
set_option maxRecDepth 20000 in
theorem km_law_35 : Cond.methodLink RL 35 y_M_migrate ∈ bigw := bg 535 rfl rfl
set_option maxRecDepth 20000 in
theorem km_law_39 : Cond.methodLink RL 39 y_M_find ∈ bigw := bg 539 rfl rfl
set_option maxRecDepth 20000 in
theorem km_law_44 : Cond.methodLink RL 44 y_M_reg ∈ bigw := bg 543 rfl rfl
set_option maxRecDepth 20000 in
theorem kg_M_152 : Cond.constantLong R_M 152 (10000000000 : Int64) ∈ bigw := bg 547 rfl rfl
set_option maxRecDepth 20000 in
theorem km_law_48 : Cond.methodLink RL 48 y_M_info ∈ bigw := bg 548 rfl rfl
set_option maxRecDepth 20000 in
theorem km_law_52 : Cond.methodLink RL 52 y_M_line ∈ bigw := bg 552 rfl rfl
set_option maxRecDepth 20000 in
theorem km_law_57 : Cond.methodLink RL 57 y_M_word ∈ bigw := bg 556 rfl rfl
set_option maxRecDepth 20000 in
theorem km_law_61 : Cond.methodLink RL 61 y_M_copy ∈ bigw := bg 560 rfl rfl
set_option maxRecDepth 20000 in
theorem km_law_65 : Cond.methodLink RL 65 y_M_right ∈ bigw := bg 564 rfl rfl
set_option maxRecDepth 20000 in
theorem km_law_69 : Cond.methodLink RL 69 y_M_owner ∈ bigw := bg 568 rfl rfl
set_option maxRecDepth 20000 in
theorem km_law_73 : Cond.methodLink RL 73 y_M_count ∈ bigw := bg 572 rfl rfl
end
section
theorem d_C_init_0 : decode b_C_init 0 = .ok (.aload_n 0, 1) := by decide +kernel
theorem d_C_init_1 : decode b_C_init 1 = .ok (.invokespecial 3, 3) := by decide +kernel
theorem d_C_init_4 : decode b_C_init 4 = .ok (.aload_n 0, 1) := by decide +kernel
theorem d_C_init_5 : decode b_C_init 5 = .ok (.iconst 4, 1) := by decide +kernel
theorem d_C_init_6 : decode b_C_init 6 = .ok (.anewarray 9, 3) := by decide +kernel
theorem d_C_init_9 : decode b_C_init 9 = .ok (.putfield 11, 3) := by decide +kernel
theorem d_C_init_12 : decode b_C_init 12 = .ok (.aload_n 0, 1) := by decide +kernel
theorem d_C_init_13 : decode b_C_init 13 = .ok (.bipush 8, 2) := by decide +kernel
theorem d_C_init_15 : decode b_C_init 15 = .ok (.anewarray 15, 3) := by decide +kernel
theorem d_C_init_18 : decode b_C_init 18 = .ok (.putfield 17, 3) := by decide +kernel
theorem d_C_init_21 : decode b_C_init 21 = .ok (.aload_n 0, 1) := by decide +kernel
theorem d_C_init_22 : decode b_C_init 22 = .ok (.iconst 3, 1) := by decide +kernel
theorem d_C_init_23 : decode b_C_init 23 = .ok (.anewarray 21, 3) := by decide +kernel
theorem d_C_init_26 : decode b_C_init 26 = .ok (.putfield 23, 3) := by decide +kernel
theorem d_C_init_29 : decode b_C_init 29 = .ok (.aload_n 0, 1) := by decide +kernel
theorem d_C_init_30 : decode b_C_init 30 = .ok (.bipush 8, 2) := by decide +kernel
theorem d_C_init_32 : decode b_C_init 32 = .ok (.anewarray 27, 3) := by decide +kernel
theorem d_C_init_35 : decode b_C_init 35 = .ok (.putfield 29, 3) := by decide +kernel
theorem d_C_init_38 : decode b_C_init 38 = .ok (.aload_n 0, 1) := by decide +kernel
theorem d_C_init_39 : decode b_C_init 39 = .ok (.bipush 32, 2) := by decide +kernel
theorem d_C_init_41 : decode b_C_init 41 = .ok (.newarray .int, 2) := by decide +kernel
theorem d_C_init_43 : decode b_C_init 43 = .ok (.putfield 33, 3) := by decide +kernel
theorem d_C_init_46 : decode b_C_init 46 = .ok (.iconst 0, 1) := by decide +kernel
theorem d_C_init_47 : decode b_C_init 47 = .ok (.istore_n 1, 1) := by decide +kernel
theorem d_C_init_48 : decode b_C_init 48 = .ok (.iload_n 1, 1) := by decide +kernel
theorem d_C_init_49 : decode b_C_init 49 = .ok (.iconst 4, 1) := by decide +kernel
theorem d_C_init_50 : decode b_C_init 50 = .ok (.if_icmp .ge 22, 3) := by decide +kernel
theorem d_C_init_53 : decode b_C_init 53 = .ok (.aload_n 0, 1) := by decide +kernel
theorem d_C_init_54 : decode b_C_init 54 = .ok (.getfield 11, 3) := by decide +kernel
theorem d_C_init_57 : decode b_C_init 57 = .ok (.iload_n 1, 1) := by decide +kernel
theorem d_C_init_58 : decode b_C_init 58 = .ok (.new 9, 3) := by decide +kernel
theorem d_C_init_61 : decode b_C_init 61 = .ok (.dup, 1) := by decide +kernel
theorem d_C_init_62 : decode b_C_init 62 = .ok (.invokespecial 37, 3) := by decide +kernel
theorem d_C_init_65 : decode b_C_init 65 = .ok (.aastore, 1) := by decide +kernel
theorem d_C_init_66 : decode b_C_init 66 = .ok (.iinc 1 1, 3) := by decide +kernel
theorem d_C_init_69 : decode b_C_init 69 = .ok (.goto (-21), 3) := by decide +kernel
theorem d_C_init_72 : decode b_C_init 72 = .ok (.iconst 0, 1) := by decide +kernel
theorem d_C_init_73 : decode b_C_init 73 = .ok (.istore_n 1, 1) := by decide +kernel
theorem d_C_init_74 : decode b_C_init 74 = .ok (.iload_n 1, 1) := by decide +kernel
theorem d_C_init_75 : decode b_C_init 75 = .ok (.iconst 3, 1) := by decide +kernel
theorem d_C_init_76 : decode b_C_init 76 = .ok (.if_icmp .ge 22, 3) := by decide +kernel
theorem d_C_init_79 : decode b_C_init 79 = .ok (.aload_n 0, 1) := by decide +kernel
theorem d_C_init_80 : decode b_C_init 80 = .ok (.getfield 23, 3) := by decide +kernel
theorem d_C_init_83 : decode b_C_init 83 = .ok (.iload_n 1, 1) := by decide +kernel
theorem d_C_init_84 : decode b_C_init 84 = .ok (.new 21, 3) := by decide +kernel
theorem d_C_init_87 : decode b_C_init 87 = .ok (.dup, 1) := by decide +kernel
theorem d_C_init_88 : decode b_C_init 88 = .ok (.invokespecial 38, 3) := by decide +kernel
theorem d_C_init_91 : decode b_C_init 91 = .ok (.aastore, 1) := by decide +kernel
theorem d_C_init_92 : decode b_C_init 92 = .ok (.iinc 1 1, 3) := by decide +kernel
theorem d_C_init_95 : decode b_C_init 95 = .ok (.goto (-21), 3) := by decide +kernel
theorem d_C_init_98 : decode b_C_init 98 = .ok (.iconst 0, 1) := by decide +kernel
theorem d_C_init_99 : decode b_C_init 99 = .ok (.istore_n 1, 1) := by decide +kernel
theorem d_C_init_100 : decode b_C_init 100 = .ok (.iload_n 1, 1) := by decide +kernel
theorem d_C_init_101 : decode b_C_init 101 = .ok (.bipush 8, 2) := by decide +kernel
theorem d_C_init_103 : decode b_C_init 103 = .ok (.if_icmp .ge 22, 3) := by decide +kernel
theorem d_C_init_106 : decode b_C_init 106 = .ok (.aload_n 0, 1) := by decide +kernel
theorem d_C_init_107 : decode b_C_init 107 = .ok (.getfield 29, 3) := by decide +kernel
theorem d_C_init_110 : decode b_C_init 110 = .ok (.iload_n 1, 1) := by decide +kernel
theorem d_C_init_111 : decode b_C_init 111 = .ok (.new 27, 3) := by decide +kernel
theorem d_C_init_114 : decode b_C_init 114 = .ok (.dup, 1) := by decide +kernel
theorem d_C_init_115 : decode b_C_init 115 = .ok (.invokespecial 39, 3) := by decide +kernel
theorem d_C_init_118 : decode b_C_init 118 = .ok (.aastore, 1) := by decide +kernel
theorem d_C_init_119 : decode b_C_init 119 = .ok (.iinc 1 1, 3) := by decide +kernel
theorem d_C_init_122 : decode b_C_init 122 = .ok (.goto (-22), 3) := by decide +kernel
theorem d_C_init_125 : decode b_C_init 125 = .ok (.return_, 1) := by decide +kernel
theorem d_C_instr_0 : decode b_C_instr 0 = .ok (.iload_n 1, 1) := by decide +kernel
theorem d_C_instr_1 : decode b_C_instr 1 = .ok (.iconst 4, 1) := by decide +kernel
theorem d_C_instr_2 : decode b_C_instr 2 = .ok (.invokestatic 40, 3) := by decide +kernel
theorem d_C_instr_5 : decode b_C_instr 5 = .ok (.ifCond .eq 29, 3) := by decide +kernel
theorem d_C_instr_8 : decode b_C_instr 8 = .ok (.iload_n 2, 1) := by decide +kernel
theorem d_C_instr_9 : decode b_C_instr 9 = .ok (.bipush 13, 2) := by decide +kernel
theorem d_C_instr_11 : decode b_C_instr 11 = .ok (.invokestatic 40, 3) := by decide +kernel
theorem d_C_instr_14 : decode b_C_instr 14 = .ok (.ifCond .eq 20, 3) := by decide +kernel
theorem d_C_instr_17 : decode b_C_instr 17 = .ok (.iload_n 3, 1) := by decide +kernel
theorem d_C_instr_18 : decode b_C_instr 18 = .ok (.iconst 4, 1) := by decide +kernel
theorem d_C_instr_19 : decode b_C_instr 19 = .ok (.invokestatic 40, 3) := by decide +kernel
theorem d_C_instr_22 : decode b_C_instr 22 = .ok (.ifCond .eq 12, 3) := by decide +kernel
theorem d_C_instr_25 : decode b_C_instr 25 = .ok (.iload_n 2, 1) := by decide +kernel
theorem d_C_instr_26 : decode b_C_instr 26 = .ok (.iload 4, 2) := by decide +kernel
theorem d_C_instr_28 : decode b_C_instr 28 = .ok (.invokestatic 44, 3) := by decide +kernel
theorem d_C_instr_31 : decode b_C_instr 31 = .ok (.ifCond .ne 5, 3) := by decide +kernel
theorem d_C_instr_34 : decode b_C_instr 34 = .ok (.iconst (-1), 1) := by decide +kernel
theorem d_C_instr_35 : decode b_C_instr 35 = .ok (.ireturn, 1) := by decide +kernel
theorem d_C_instr_36 : decode b_C_instr 36 = .ok (.aload_n 0, 1) := by decide +kernel
theorem d_C_instr_37 : decode b_C_instr 37 = .ok (.getfield 11, 3) := by decide +kernel
theorem d_C_instr_40 : decode b_C_instr 40 = .ok (.iload_n 1, 1) := by decide +kernel
theorem d_C_instr_41 : decode b_C_instr 41 = .ok (.aaload, 1) := by decide +kernel
theorem d_C_instr_42 : decode b_C_instr 42 = .ok (.astore 5, 2) := by decide +kernel
theorem d_C_instr_44 : decode b_C_instr 44 = .ok (.aload 5, 2) := by decide +kernel
theorem d_C_instr_46 : decode b_C_instr 46 = .ok (.getfield 47, 3) := by decide +kernel
theorem d_C_instr_49 : decode b_C_instr 49 = .ok (.bipush 12, 2) := by decide +kernel
theorem d_C_instr_51 : decode b_C_instr 51 = .ok (.if_icmp .ne 6, 3) := by decide +kernel
theorem d_C_instr_54 : decode b_C_instr 54 = .ok (.bipush (-2), 2) := by decide +kernel
theorem d_C_instr_56 : decode b_C_instr 56 = .ok (.ireturn, 1) := by decide +kernel
theorem d_C_instr_57 : decode b_C_instr 57 = .ok (.aload 5, 2) := by decide +kernel
theorem d_C_instr_59 : decode b_C_instr 59 = .ok (.iload_n 2, 1) := by decide +kernel
theorem d_C_instr_60 : decode b_C_instr 60 = .ok (.iload_n 3, 1) := by decide +kernel
theorem d_C_instr_61 : decode b_C_instr 61 = .ok (.iload 4, 2) := by decide +kernel
theorem d_C_instr_63 : decode b_C_instr 63 = .ok (.invokevirtual 51, 3) := by decide +kernel
theorem d_C_instr_66 : decode b_C_instr 66 = .ok (.aload 5, 2) := by decide +kernel
theorem d_C_instr_68 : decode b_C_instr 68 = .ok (.getfield 47, 3) := by decide +kernel
theorem d_C_instr_71 : decode b_C_instr 71 = .ok (.ireturn, 1) := by decide +kernel
theorem d_C_spawn_0 : decode b_C_spawn 0 = .ok (.iload_n 1, 1) := by decide +kernel
theorem d_C_spawn_1 : decode b_C_spawn 1 = .ok (.iconst 4, 1) := by decide +kernel
theorem d_C_spawn_2 : decode b_C_spawn 2 = .ok (.invokestatic 40, 3) := by decide +kernel
theorem d_C_spawn_5 : decode b_C_spawn 5 = .ok (.ifCond .eq 11, 3) := by decide +kernel
theorem d_C_spawn_8 : decode b_C_spawn 8 = .ok (.iload_n 2, 1) := by decide +kernel
theorem d_C_spawn_9 : decode b_C_spawn 9 = .ok (.iconst 3, 1) := by decide +kernel
theorem d_C_spawn_10 : decode b_C_spawn 10 = .ok (.invokestatic 40, 3) := by decide +kernel
theorem d_C_spawn_13 : decode b_C_spawn 13 = .ok (.ifCond .ne 5, 3) := by decide +kernel
theorem d_C_spawn_16 : decode b_C_spawn 16 = .ok (.iconst (-1), 1) := by decide +kernel
theorem d_C_spawn_17 : decode b_C_spawn 17 = .ok (.ireturn, 1) := by decide +kernel
theorem d_C_spawn_18 : decode b_C_spawn 18 = .ok (.aload_n 0, 1) := by decide +kernel
theorem d_C_spawn_19 : decode b_C_spawn 19 = .ok (.getfield 55, 3) := by decide +kernel
theorem d_C_spawn_22 : decode b_C_spawn 22 = .ok (.bipush 8, 2) := by decide +kernel
theorem d_C_spawn_24 : decode b_C_spawn 24 = .ok (.if_icmp .ne 8, 3) := by decide +kernel
theorem d_C_spawn_27 : decode b_C_spawn 27 = .ok (.bipush (-2), 2) := by decide +kernel
theorem d_C_spawn_29 : decode b_C_spawn 29 = .ok (.goto 9, 3) := by decide +kernel
theorem d_C_spawn_32 : decode b_C_spawn 32 = .ok (.aload_n 0, 1) := by decide +kernel
theorem d_C_spawn_33 : decode b_C_spawn 33 = .ok (.iload_n 1, 1) := by decide +kernel
theorem d_C_spawn_34 : decode b_C_spawn 34 = .ok (.iload_n 2, 1) := by decide +kernel
theorem d_C_spawn_35 : decode b_C_spawn 35 = .ok (.invokevirtual 58, 3) := by decide +kernel
theorem d_C_spawn_38 : decode b_C_spawn 38 = .ok (.ireturn, 1) := by decide +kernel
theorem d_C_step_0 : decode b_C_step 0 = .ok (.iload_n 1, 1) := by decide +kernel
theorem d_C_step_1 : decode b_C_step 1 = .ok (.iconst 3, 1) := by decide +kernel
theorem d_C_step_2 : decode b_C_step 2 = .ok (.invokestatic 40, 3) := by decide +kernel
theorem d_C_step_5 : decode b_C_step 5 = .ok (.ifCond .ne 5, 3) := by decide +kernel
theorem d_C_step_8 : decode b_C_step 8 = .ok (.iconst (-1), 1) := by decide +kernel
theorem d_C_step_9 : decode b_C_step 9 = .ok (.ireturn, 1) := by decide +kernel
theorem d_C_step_10 : decode b_C_step 10 = .ok (.aload_n 0, 1) := by decide +kernel
theorem d_C_step_11 : decode b_C_step 11 = .ok (.getfield 23, 3) := by decide +kernel
theorem d_C_step_14 : decode b_C_step 14 = .ok (.iload_n 1, 1) := by decide +kernel
theorem d_C_step_15 : decode b_C_step 15 = .ok (.aaload, 1) := by decide +kernel
theorem d_C_step_16 : decode b_C_step 16 = .ok (.getfield 62, 3) := by decide +kernel
theorem d_C_step_19 : decode b_C_step 19 = .ok (.ifCond .ne 6, 3) := by decide +kernel
theorem d_C_step_22 : decode b_C_step 22 = .ok (.bipush (-3), 2) := by decide +kernel
theorem d_C_step_24 : decode b_C_step 24 = .ok (.ireturn, 1) := by decide +kernel
theorem d_C_step_25 : decode b_C_step 25 = .ok (.aload_n 0, 1) := by decide +kernel
theorem d_C_step_26 : decode b_C_step 26 = .ok (.getfield 17, 3) := by decide +kernel
theorem d_C_step_29 : decode b_C_step 29 = .ok (.aload_n 0, 1) := by decide +kernel
theorem d_C_step_30 : decode b_C_step 30 = .ok (.getfield 23, 3) := by decide +kernel
theorem d_C_step_33 : decode b_C_step 33 = .ok (.iload_n 1, 1) := by decide +kernel
theorem d_C_step_34 : decode b_C_step 34 = .ok (.aaload, 1) := by decide +kernel
theorem d_C_step_35 : decode b_C_step 35 = .ok (.getfield 63, 3) := by decide +kernel
theorem d_C_step_38 : decode b_C_step 38 = .ok (.iconst 0, 1) := by decide +kernel
theorem d_C_step_39 : decode b_C_step 39 = .ok (.iaload, 1) := by decide +kernel
theorem d_C_step_40 : decode b_C_step 40 = .ok (.aaload, 1) := by decide +kernel
theorem d_C_step_41 : decode b_C_step 41 = .ok (.astore_n 2, 1) := by decide +kernel
theorem d_C_step_42 : decode b_C_step 42 = .ok (.aload_n 0, 1) := by decide +kernel
theorem d_C_step_43 : decode b_C_step 43 = .ok (.aload_n 2, 1) := by decide +kernel
theorem d_C_step_44 : decode b_C_step 44 = .ok (.invokevirtual 66, 3) := by decide +kernel
theorem d_C_step_47 : decode b_C_step 47 = .ok (.bipush 10, 2) := by decide +kernel
theorem d_C_step_49 : decode b_C_step 49 = .ok (.aload_n 2, 1) := by decide +kernel
theorem d_C_step_50 : decode b_C_step 50 = .ok (.getfield 70, 3) := by decide +kernel
theorem d_C_step_53 : decode b_C_step 53 = .ok (.iconst 1, 1) := by decide +kernel
theorem d_C_step_54 : decode b_C_step 54 = .ok (.isub, 1) := by decide +kernel
theorem d_C_step_55 : decode b_C_step 55 = .ok (.imul, 1) := by decide +kernel
theorem d_C_step_56 : decode b_C_step 56 = .ok (.aload_n 2, 1) := by decide +kernel
theorem d_C_step_57 : decode b_C_step 57 = .ok (.getfield 73, 3) := by decide +kernel
theorem d_C_step_60 : decode b_C_step 60 = .ok (.iadd, 1) := by decide +kernel
theorem d_C_step_61 : decode b_C_step 61 = .ok (.ireturn, 1) := by decide +kernel
theorem d_C_serve_0 : decode b_C_serve 0 = .ok (.iload_n 1, 1) := by decide +kernel
theorem d_C_serve_1 : decode b_C_serve 1 = .ok (.bipush 8, 2) := by decide +kernel
theorem d_C_serve_3 : decode b_C_serve 3 = .ok (.invokestatic 40, 3) := by decide +kernel
theorem d_C_serve_6 : decode b_C_serve 6 = .ok (.ifCond .ne 5, 3) := by decide +kernel
theorem d_C_serve_9 : decode b_C_serve 9 = .ok (.iconst (-1), 1) := by decide +kernel
theorem d_C_serve_10 : decode b_C_serve 10 = .ok (.ireturn, 1) := by decide +kernel
theorem d_C_serve_11 : decode b_C_serve 11 = .ok (.aload_n 0, 1) := by decide +kernel
theorem d_C_serve_12 : decode b_C_serve 12 = .ok (.getfield 29, 3) := by decide +kernel
theorem d_C_serve_15 : decode b_C_serve 15 = .ok (.iload_n 1, 1) := by decide +kernel
theorem d_C_serve_16 : decode b_C_serve 16 = .ok (.aaload, 1) := by decide +kernel
theorem d_C_serve_17 : decode b_C_serve 17 = .ok (.getfield 76, 3) := by decide +kernel
theorem d_C_serve_20 : decode b_C_serve 20 = .ok (.astore_n 2, 1) := by decide +kernel
theorem d_C_serve_21 : decode b_C_serve 21 = .ok (.aload_n 2, 1) := by decide +kernel
theorem d_C_serve_22 : decode b_C_serve 22 = .ok (.getfield 62, 3) := by decide +kernel
theorem d_C_serve_25 : decode b_C_serve 25 = .ok (.istore_n 3, 1) := by decide +kernel
theorem d_C_serve_26 : decode b_C_serve 26 = .ok (.iconst 0, 1) := by decide +kernel
theorem d_C_serve_27 : decode b_C_serve 27 = .ok (.istore 4, 2) := by decide +kernel
theorem d_C_serve_29 : decode b_C_serve 29 = .ok (.iload 4, 2) := by decide +kernel
theorem d_C_serve_31 : decode b_C_serve 31 = .ok (.iload_n 3, 1) := by decide +kernel
theorem d_C_serve_32 : decode b_C_serve 32 = .ok (.if_icmp .ge 58, 3) := by decide +kernel
theorem d_C_serve_35 : decode b_C_serve 35 = .ok (.aload_n 0, 1) := by decide +kernel
theorem d_C_serve_36 : decode b_C_serve 36 = .ok (.getfield 17, 3) := by decide +kernel
theorem d_C_serve_39 : decode b_C_serve 39 = .ok (.aload_n 2, 1) := by decide +kernel
theorem d_C_serve_40 : decode b_C_serve 40 = .ok (.getfield 63, 3) := by decide +kernel
theorem d_C_serve_43 : decode b_C_serve 43 = .ok (.iconst 0, 1) := by decide +kernel
theorem d_C_serve_44 : decode b_C_serve 44 = .ok (.iaload, 1) := by decide +kernel
theorem d_C_serve_45 : decode b_C_serve 45 = .ok (.aaload, 1) := by decide +kernel
theorem d_C_serve_46 : decode b_C_serve 46 = .ok (.astore 5, 2) := by decide +kernel
theorem d_C_serve_48 : decode b_C_serve 48 = .ok (.aload_n 2, 1) := by decide +kernel
theorem d_C_serve_49 : decode b_C_serve 49 = .ok (.aload 5, 2) := by decide +kernel
theorem d_C_serve_51 : decode b_C_serve 51 = .ok (.getfield 73, 3) := by decide +kernel
theorem d_C_serve_54 : decode b_C_serve 54 = .ok (.invokevirtual 80, 3) := by decide +kernel
theorem d_C_serve_57 : decode b_C_serve 57 = .ok (.aload 5, 2) := by decide +kernel
theorem d_C_serve_59 : decode b_C_serve 59 = .ok (.getfield 70, 3) := by decide +kernel
theorem d_C_serve_62 : decode b_C_serve 62 = .ok (.iconst 4, 1) := by decide +kernel
theorem d_C_serve_63 : decode b_C_serve 63 = .ok (.if_icmp .eq 21, 3) := by decide +kernel
theorem d_C_serve_66 : decode b_C_serve 66 = .ok (.aload_n 0, 1) := by decide +kernel
theorem d_C_serve_67 : decode b_C_serve 67 = .ok (.aload_n 0, 1) := by decide +kernel
theorem d_C_serve_68 : decode b_C_serve 68 = .ok (.getfield 29, 3) := by decide +kernel
theorem d_C_serve_71 : decode b_C_serve 71 = .ok (.iload_n 1, 1) := by decide +kernel
theorem d_C_serve_72 : decode b_C_serve 72 = .ok (.aaload, 1) := by decide +kernel
theorem d_C_serve_73 : decode b_C_serve 73 = .ok (.aload 5, 2) := by decide +kernel
theorem d_C_serve_75 : decode b_C_serve 75 = .ok (.invokevirtual 84, 3) := by decide +kernel
theorem d_C_serve_78 : decode b_C_serve 78 = .ok (.aload 5, 2) := by decide +kernel
theorem d_C_serve_80 : decode b_C_serve 80 = .ok (.getfield 73, 3) := by decide +kernel
theorem d_C_serve_83 : decode b_C_serve 83 = .ok (.ireturn, 1) := by decide +kernel
theorem d_C_serve_84 : decode b_C_serve 84 = .ok (.iinc 4 1, 3) := by decide +kernel
theorem d_C_serve_87 : decode b_C_serve 87 = .ok (.goto (-58), 3) := by decide +kernel
theorem d_C_serve_90 : decode b_C_serve 90 = .ok (.bipush (-3), 2) := by decide +kernel
theorem d_C_serve_92 : decode b_C_serve 92 = .ok (.ireturn, 1) := by decide +kernel
theorem d_C_migrate_0 : decode b_C_migrate 0 = .ok (.iload_n 1, 1) := by decide +kernel
theorem d_C_migrate_1 : decode b_C_migrate 1 = .ok (.aload_n 0, 1) := by decide +kernel
theorem d_C_migrate_2 : decode b_C_migrate 2 = .ok (.getfield 55, 3) := by decide +kernel
theorem d_C_migrate_5 : decode b_C_migrate 5 = .ok (.invokestatic 40, 3) := by decide +kernel
theorem d_C_migrate_8 : decode b_C_migrate 8 = .ok (.ifCond .eq 11, 3) := by decide +kernel
theorem d_C_migrate_11 : decode b_C_migrate 11 = .ok (.iload_n 2, 1) := by decide +kernel
theorem d_C_migrate_12 : decode b_C_migrate 12 = .ok (.iconst 3, 1) := by decide +kernel
theorem d_C_migrate_13 : decode b_C_migrate 13 = .ok (.invokestatic 40, 3) := by decide +kernel
theorem d_C_migrate_16 : decode b_C_migrate 16 = .ok (.ifCond .ne 5, 3) := by decide +kernel
theorem d_C_migrate_19 : decode b_C_migrate 19 = .ok (.iconst (-1), 1) := by decide +kernel
theorem d_C_migrate_20 : decode b_C_migrate 20 = .ok (.ireturn, 1) := by decide +kernel
theorem d_C_migrate_21 : decode b_C_migrate 21 = .ok (.aload_n 0, 1) := by decide +kernel
theorem d_C_migrate_22 : decode b_C_migrate 22 = .ok (.getfield 17, 3) := by decide +kernel
theorem d_C_migrate_25 : decode b_C_migrate 25 = .ok (.iload_n 1, 1) := by decide +kernel
theorem d_C_migrate_26 : decode b_C_migrate 26 = .ok (.aaload, 1) := by decide +kernel
theorem d_C_migrate_27 : decode b_C_migrate 27 = .ok (.astore_n 3, 1) := by decide +kernel
theorem d_C_migrate_28 : decode b_C_migrate 28 = .ok (.aload_n 3, 1) := by decide +kernel
theorem d_C_migrate_29 : decode b_C_migrate 29 = .ok (.getfield 70, 3) := by decide +kernel
theorem d_C_migrate_32 : decode b_C_migrate 32 = .ok (.iconst 4, 1) := by decide +kernel
theorem d_C_migrate_33 : decode b_C_migrate 33 = .ok (.if_icmp .eq 11, 3) := by decide +kernel
theorem d_C_migrate_36 : decode b_C_migrate 36 = .ok (.aload_n 3, 1) := by decide +kernel
theorem d_C_migrate_37 : decode b_C_migrate 37 = .ok (.getfield 88, 3) := by decide +kernel
theorem d_C_migrate_40 : decode b_C_migrate 40 = .ok (.iload_n 2, 1) := by decide +kernel
theorem d_C_migrate_41 : decode b_C_migrate 41 = .ok (.if_icmp .ne 5, 3) := by decide +kernel
theorem d_C_migrate_44 : decode b_C_migrate 44 = .ok (.iconst (-1), 1) := by decide +kernel
theorem d_C_migrate_45 : decode b_C_migrate 45 = .ok (.ireturn, 1) := by decide +kernel
theorem d_C_migrate_46 : decode b_C_migrate 46 = .ok (.aload_n 3, 1) := by decide +kernel
theorem d_C_migrate_47 : decode b_C_migrate 47 = .ok (.getfield 88, 3) := by decide +kernel
theorem d_C_migrate_50 : decode b_C_migrate 50 = .ok (.istore 4, 2) := by decide +kernel
theorem d_C_migrate_52 : decode b_C_migrate 52 = .ok (.aload_n 0, 1) := by decide +kernel
theorem d_C_migrate_53 : decode b_C_migrate 53 = .ok (.getfield 23, 3) := by decide +kernel
theorem d_C_migrate_56 : decode b_C_migrate 56 = .ok (.iload 4, 2) := by decide +kernel
theorem d_C_migrate_58 : decode b_C_migrate 58 = .ok (.aaload, 1) := by decide +kernel
theorem d_C_migrate_59 : decode b_C_migrate 59 = .ok (.iload_n 1, 1) := by decide +kernel
theorem d_C_migrate_60 : decode b_C_migrate 60 = .ok (.invokevirtual 80, 3) := by decide +kernel
theorem d_C_migrate_63 : decode b_C_migrate 63 = .ok (.aload_n 3, 1) := by decide +kernel
theorem d_C_migrate_64 : decode b_C_migrate 64 = .ok (.iload_n 2, 1) := by decide +kernel
theorem d_C_migrate_65 : decode b_C_migrate 65 = .ok (.putfield 88, 3) := by decide +kernel
theorem d_C_migrate_68 : decode b_C_migrate 68 = .ok (.aload_n 3, 1) := by decide +kernel
theorem d_C_migrate_69 : decode b_C_migrate 69 = .ok (.getfield 91, 3) := by decide +kernel
theorem d_C_migrate_72 : decode b_C_migrate 72 = .ok (.iload 4, 2) := by decide +kernel
theorem d_C_migrate_74 : decode b_C_migrate 74 = .ok (.iload_n 2, 1) := by decide +kernel
theorem d_C_migrate_75 : decode b_C_migrate 75 = .ok (.iastore, 1) := by decide +kernel
theorem d_C_migrate_76 : decode b_C_migrate 76 = .ok (.aload_n 3, 1) := by decide +kernel
theorem d_C_migrate_77 : decode b_C_migrate 77 = .ok (.getfield 91, 3) := by decide +kernel
theorem d_C_migrate_80 : decode b_C_migrate 80 = .ok (.iload_n 2, 1) := by decide +kernel
theorem d_C_migrate_81 : decode b_C_migrate 81 = .ok (.iload_n 2, 1) := by decide +kernel
theorem d_C_migrate_82 : decode b_C_migrate 82 = .ok (.iastore, 1) := by decide +kernel
theorem d_C_migrate_83 : decode b_C_migrate 83 = .ok (.aload_n 3, 1) := by decide +kernel
theorem d_C_migrate_84 : decode b_C_migrate 84 = .ok (.getfield 70, 3) := by decide +kernel
theorem d_C_migrate_87 : decode b_C_migrate 87 = .ok (.iconst 1, 1) := by decide +kernel
theorem d_C_migrate_88 : decode b_C_migrate 88 = .ok (.if_icmp .ne 8, 3) := by decide +kernel
theorem d_C_migrate_91 : decode b_C_migrate 91 = .ok (.aload_n 0, 1) := by decide +kernel
theorem d_C_migrate_92 : decode b_C_migrate 92 = .ok (.aload_n 3, 1) := by decide +kernel
theorem d_C_migrate_93 : decode b_C_migrate 93 = .ok (.invokevirtual 94, 3) := by decide +kernel
theorem d_C_migrate_96 : decode b_C_migrate 96 = .ok (.iload 4, 2) := by decide +kernel
theorem d_C_migrate_98 : decode b_C_migrate 98 = .ok (.ireturn, 1) := by decide +kernel
theorem d_C_find_0 : decode b_C_find 0 = .ok (.iload_n 1, 1) := by decide +kernel
theorem d_C_find_1 : decode b_C_find 1 = .ok (.iconst 3, 1) := by decide +kernel
theorem d_C_find_2 : decode b_C_find 2 = .ok (.invokestatic 40, 3) := by decide +kernel
theorem d_C_find_5 : decode b_C_find 5 = .ok (.ifCond .eq 14, 3) := by decide +kernel
theorem d_C_find_8 : decode b_C_find 8 = .ok (.iload_n 2, 1) := by decide +kernel
theorem d_C_find_9 : decode b_C_find 9 = .ok (.aload_n 0, 1) := by decide +kernel
theorem d_C_find_10 : decode b_C_find 10 = .ok (.getfield 55, 3) := by decide +kernel
theorem d_C_find_13 : decode b_C_find 13 = .ok (.invokestatic 40, 3) := by decide +kernel
theorem d_C_find_16 : decode b_C_find 16 = .ok (.ifCond .ne 5, 3) := by decide +kernel
theorem d_C_find_19 : decode b_C_find 19 = .ok (.iconst (-1), 1) := by decide +kernel
theorem d_C_find_20 : decode b_C_find 20 = .ok (.ireturn, 1) := by decide +kernel
theorem d_C_find_21 : decode b_C_find 21 = .ok (.aload_n 0, 1) := by decide +kernel
theorem d_C_find_22 : decode b_C_find 22 = .ok (.getfield 17, 3) := by decide +kernel
theorem d_C_find_25 : decode b_C_find 25 = .ok (.iload_n 2, 1) := by decide +kernel
theorem d_C_find_26 : decode b_C_find 26 = .ok (.aaload, 1) := by decide +kernel
theorem d_C_find_27 : decode b_C_find 27 = .ok (.astore_n 3, 1) := by decide +kernel
theorem d_C_find_28 : decode b_C_find 28 = .ok (.iload_n 1, 1) := by decide +kernel
theorem d_C_find_29 : decode b_C_find 29 = .ok (.istore 4, 2) := by decide +kernel
theorem d_C_find_31 : decode b_C_find 31 = .ok (.iconst 0, 1) := by decide +kernel
theorem d_C_find_32 : decode b_C_find 32 = .ok (.istore 5, 2) := by decide +kernel
theorem d_C_find_34 : decode b_C_find 34 = .ok (.iload 4, 2) := by decide +kernel
theorem d_C_find_36 : decode b_C_find 36 = .ok (.aload_n 3, 1) := by decide +kernel
theorem d_C_find_37 : decode b_C_find 37 = .ok (.getfield 88, 3) := by decide +kernel
theorem d_C_find_40 : decode b_C_find 40 = .ok (.if_icmp .eq 39, 3) := by decide +kernel
theorem d_C_find_43 : decode b_C_find 43 = .ok (.iload 5, 2) := by decide +kernel
theorem d_C_find_45 : decode b_C_find 45 = .ok (.iconst 3, 1) := by decide +kernel
theorem d_C_find_46 : decode b_C_find 46 = .ok (.if_icmp .ge 33, 3) := by decide +kernel
theorem d_C_find_49 : decode b_C_find 49 = .ok (.aload_n 3, 1) := by decide +kernel
theorem d_C_find_50 : decode b_C_find 50 = .ok (.getfield 91, 3) := by decide +kernel
theorem d_C_find_53 : decode b_C_find 53 = .ok (.iload 4, 2) := by decide +kernel
theorem d_C_find_55 : decode b_C_find 55 = .ok (.iaload, 1) := by decide +kernel
theorem d_C_find_56 : decode b_C_find 56 = .ok (.istore 6, 2) := by decide +kernel
theorem d_C_find_58 : decode b_C_find 58 = .ok (.aload_n 3, 1) := by decide +kernel
theorem d_C_find_59 : decode b_C_find 59 = .ok (.getfield 91, 3) := by decide +kernel
theorem d_C_find_62 : decode b_C_find 62 = .ok (.iload 4, 2) := by decide +kernel
theorem d_C_find_64 : decode b_C_find 64 = .ok (.aload_n 3, 1) := by decide +kernel
theorem d_C_find_65 : decode b_C_find 65 = .ok (.getfield 88, 3) := by decide +kernel
theorem d_C_find_68 : decode b_C_find 68 = .ok (.iastore, 1) := by decide +kernel
theorem d_C_find_69 : decode b_C_find 69 = .ok (.iload 6, 2) := by decide +kernel
theorem d_C_find_71 : decode b_C_find 71 = .ok (.istore 4, 2) := by decide +kernel
theorem d_C_find_73 : decode b_C_find 73 = .ok (.iinc 5 1, 3) := by decide +kernel
theorem d_C_find_76 : decode b_C_find 76 = .ok (.goto (-42), 3) := by decide +kernel
theorem d_C_find_79 : decode b_C_find 79 = .ok (.iload 5, 2) := by decide +kernel
theorem d_C_find_81 : decode b_C_find 81 = .ok (.ireturn, 1) := by decide +kernel
theorem d_C_reg_0 : decode b_C_reg 0 = .ok (.iload_n 1, 1) := by decide +kernel
theorem d_C_reg_1 : decode b_C_reg 1 = .ok (.aload_n 0, 1) := by decide +kernel
theorem d_C_reg_2 : decode b_C_reg 2 = .ok (.getfield 55, 3) := by decide +kernel
theorem d_C_reg_5 : decode b_C_reg 5 = .ok (.invokestatic 40, 3) := by decide +kernel
theorem d_C_reg_8 : decode b_C_reg 8 = .ok (.ifCond .eq 11, 3) := by decide +kernel
theorem d_C_reg_11 : decode b_C_reg 11 = .ok (.iload_n 2, 1) := by decide +kernel
theorem d_C_reg_12 : decode b_C_reg 12 = .ok (.iconst 4, 1) := by decide +kernel
theorem d_C_reg_13 : decode b_C_reg 13 = .ok (.invokestatic 40, 3) := by decide +kernel
theorem d_C_reg_16 : decode b_C_reg 16 = .ok (.ifCond .ne 7, 3) := by decide +kernel
theorem d_C_reg_19 : decode b_C_reg 19 = .ok (.ldc2_w 97, 3) := by decide +kernel
theorem d_C_reg_22 : decode b_C_reg 22 = .ok (.lreturn, 1) := by decide +kernel
theorem d_C_reg_23 : decode b_C_reg 23 = .ok (.aload_n 0, 1) := by decide +kernel
theorem d_C_reg_24 : decode b_C_reg 24 = .ok (.getfield 17, 3) := by decide +kernel
theorem d_C_reg_27 : decode b_C_reg 27 = .ok (.iload_n 1, 1) := by decide +kernel
theorem d_C_reg_28 : decode b_C_reg 28 = .ok (.aaload, 1) := by decide +kernel
theorem d_C_reg_29 : decode b_C_reg 29 = .ok (.getfield 99, 3) := by decide +kernel
theorem d_C_reg_32 : decode b_C_reg 32 = .ok (.iload_n 2, 1) := by decide +kernel
theorem d_C_reg_33 : decode b_C_reg 33 = .ok (.iaload, 1) := by decide +kernel
theorem d_C_reg_34 : decode b_C_reg 34 = .ok (.i2l, 1) := by decide +kernel
theorem d_C_reg_35 : decode b_C_reg 35 = .ok (.lreturn, 1) := by decide +kernel
theorem d_C_info_0 : decode b_C_info 0 = .ok (.iload_n 1, 1) := by decide +kernel
theorem d_C_info_1 : decode b_C_info 1 = .ok (.aload_n 0, 1) := by decide +kernel
theorem d_C_info_2 : decode b_C_info 2 = .ok (.getfield 55, 3) := by decide +kernel
theorem d_C_info_5 : decode b_C_info 5 = .ok (.invokestatic 40, 3) := by decide +kernel
theorem d_C_info_8 : decode b_C_info 8 = .ok (.ifCond .ne 7, 3) := by decide +kernel
theorem d_C_info_11 : decode b_C_info 11 = .ok (.ldc2_w 97, 3) := by decide +kernel
theorem d_C_info_14 : decode b_C_info 14 = .ok (.lreturn, 1) := by decide +kernel
theorem d_C_info_15 : decode b_C_info 15 = .ok (.aload_n 0, 1) := by decide +kernel
theorem d_C_info_16 : decode b_C_info 16 = .ok (.getfield 17, 3) := by decide +kernel
theorem d_C_info_19 : decode b_C_info 19 = .ok (.iload_n 1, 1) := by decide +kernel
theorem d_C_info_20 : decode b_C_info 20 = .ok (.aaload, 1) := by decide +kernel
theorem d_C_info_21 : decode b_C_info 21 = .ok (.astore_n 3, 1) := by decide +kernel
theorem d_C_info_22 : decode b_C_info 22 = .ok (.iload_n 2, 1) := by decide +kernel
theorem d_C_info_23 : decode b_C_info 23 = .ok (.tableswitch 87 0 5 #[37, 43, 49, 55, 61, 67], 37) := by decide +kernel
theorem d_C_info_60 : decode b_C_info 60 = .ok (.aload_n 3, 1) := by decide +kernel
theorem d_C_info_61 : decode b_C_info 61 = .ok (.getfield 70, 3) := by decide +kernel
theorem d_C_info_64 : decode b_C_info 64 = .ok (.i2l, 1) := by decide +kernel
theorem d_C_info_65 : decode b_C_info 65 = .ok (.lreturn, 1) := by decide +kernel
theorem d_C_info_66 : decode b_C_info 66 = .ok (.aload_n 3, 1) := by decide +kernel
theorem d_C_info_67 : decode b_C_info 67 = .ok (.getfield 88, 3) := by decide +kernel
theorem d_C_info_70 : decode b_C_info 70 = .ok (.i2l, 1) := by decide +kernel
theorem d_C_info_71 : decode b_C_info 71 = .ok (.lreturn, 1) := by decide +kernel
theorem d_C_info_72 : decode b_C_info 72 = .ok (.aload_n 3, 1) := by decide +kernel
theorem d_C_info_73 : decode b_C_info 73 = .ok (.getfield 102, 3) := by decide +kernel
theorem d_C_info_76 : decode b_C_info 76 = .ok (.i2l, 1) := by decide +kernel
theorem d_C_info_77 : decode b_C_info 77 = .ok (.lreturn, 1) := by decide +kernel
theorem d_C_info_78 : decode b_C_info 78 = .ok (.aload_n 3, 1) := by decide +kernel
theorem d_C_info_79 : decode b_C_info 79 = .ok (.getfield 105, 3) := by decide +kernel
theorem d_C_info_82 : decode b_C_info 82 = .ok (.i2l, 1) := by decide +kernel
theorem d_C_info_83 : decode b_C_info 83 = .ok (.lreturn, 1) := by decide +kernel
theorem d_C_info_84 : decode b_C_info 84 = .ok (.aload_n 3, 1) := by decide +kernel
theorem d_C_info_85 : decode b_C_info 85 = .ok (.getfield 108, 3) := by decide +kernel
theorem d_C_info_88 : decode b_C_info 88 = .ok (.i2l, 1) := by decide +kernel
theorem d_C_info_89 : decode b_C_info 89 = .ok (.lreturn, 1) := by decide +kernel
theorem d_C_info_90 : decode b_C_info 90 = .ok (.aload_n 3, 1) := by decide +kernel
theorem d_C_info_91 : decode b_C_info 91 = .ok (.getfield 70, 3) := by decide +kernel
theorem d_C_info_94 : decode b_C_info 94 = .ok (.iconst 2, 1) := by decide +kernel
theorem d_C_info_95 : decode b_C_info 95 = .ok (.if_icmp .ne 11, 3) := by decide +kernel
theorem d_C_info_98 : decode b_C_info 98 = .ok (.aload_n 3, 1) := by decide +kernel
theorem d_C_info_99 : decode b_C_info 99 = .ok (.getfield 111, 3) := by decide +kernel
theorem d_C_info_102 : decode b_C_info 102 = .ok (.i2l, 1) := by decide +kernel
theorem d_C_info_103 : decode b_C_info 103 = .ok (.goto 6, 3) := by decide +kernel
theorem d_C_info_106 : decode b_C_info 106 = .ok (.ldc2_w 114, 3) := by decide +kernel
theorem d_C_info_109 : decode b_C_info 109 = .ok (.lreturn, 1) := by decide +kernel
theorem d_C_info_110 : decode b_C_info 110 = .ok (.ldc2_w 97, 3) := by decide +kernel
theorem d_C_info_113 : decode b_C_info 113 = .ok (.lreturn, 1) := by decide +kernel
theorem d_C_line_0 : decode b_C_line 0 = .ok (.iload_n 1, 1) := by decide +kernel
theorem d_C_line_1 : decode b_C_line 1 = .ok (.iconst 3, 1) := by decide +kernel
theorem d_C_line_2 : decode b_C_line 2 = .ok (.invokestatic 40, 3) := by decide +kernel
theorem d_C_line_5 : decode b_C_line 5 = .ok (.ifCond .eq 7, 3) := by decide +kernel
theorem d_C_line_8 : decode b_C_line 8 = .ok (.iload_n 2, 1) := by decide +kernel
theorem d_C_line_9 : decode b_C_line 9 = .ok (.ifCond .ge 5, 3) := by decide +kernel
theorem d_C_line_12 : decode b_C_line 12 = .ok (.iconst (-1), 1) := by decide +kernel
theorem d_C_line_13 : decode b_C_line 13 = .ok (.ireturn, 1) := by decide +kernel
theorem d_C_line_14 : decode b_C_line 14 = .ok (.iload_n 2, 1) := by decide +kernel
theorem d_C_line_15 : decode b_C_line 15 = .ok (.aload_n 0, 1) := by decide +kernel
theorem d_C_line_16 : decode b_C_line 16 = .ok (.getfield 23, 3) := by decide +kernel
theorem d_C_line_19 : decode b_C_line 19 = .ok (.iload_n 1, 1) := by decide +kernel
theorem d_C_line_20 : decode b_C_line 20 = .ok (.aaload, 1) := by decide +kernel
theorem d_C_line_21 : decode b_C_line 21 = .ok (.getfield 62, 3) := by decide +kernel
theorem d_C_line_24 : decode b_C_line 24 = .ok (.if_icmp .ge 17, 3) := by decide +kernel
theorem d_C_line_27 : decode b_C_line 27 = .ok (.aload_n 0, 1) := by decide +kernel
theorem d_C_line_28 : decode b_C_line 28 = .ok (.getfield 23, 3) := by decide +kernel
theorem d_C_line_31 : decode b_C_line 31 = .ok (.iload_n 1, 1) := by decide +kernel
theorem d_C_line_32 : decode b_C_line 32 = .ok (.aaload, 1) := by decide +kernel
theorem d_C_line_33 : decode b_C_line 33 = .ok (.getfield 63, 3) := by decide +kernel
theorem d_C_line_36 : decode b_C_line 36 = .ok (.iload_n 2, 1) := by decide +kernel
theorem d_C_line_37 : decode b_C_line 37 = .ok (.iaload, 1) := by decide +kernel
theorem d_C_line_38 : decode b_C_line 38 = .ok (.goto 5, 3) := by decide +kernel
theorem d_C_line_41 : decode b_C_line 41 = .ok (.bipush 8, 2) := by decide +kernel
theorem d_C_line_43 : decode b_C_line 43 = .ok (.ireturn, 1) := by decide +kernel
theorem d_C_word_0 : decode b_C_word 0 = .ok (.iload_n 1, 1) := by decide +kernel
theorem d_C_word_1 : decode b_C_word 1 = .ok (.bipush 32, 2) := by decide +kernel
theorem d_C_word_3 : decode b_C_word 3 = .ok (.invokestatic 40, 3) := by decide +kernel
theorem d_C_word_6 : decode b_C_word 6 = .ok (.ifCond .eq 13, 3) := by decide +kernel
theorem d_C_word_9 : decode b_C_word 9 = .ok (.aload_n 0, 1) := by decide +kernel
theorem d_C_word_10 : decode b_C_word 10 = .ok (.getfield 33, 3) := by decide +kernel
theorem d_C_word_13 : decode b_C_word 13 = .ok (.iload_n 1, 1) := by decide +kernel
theorem d_C_word_14 : decode b_C_word 14 = .ok (.iaload, 1) := by decide +kernel
theorem d_C_word_15 : decode b_C_word 15 = .ok (.i2l, 1) := by decide +kernel
theorem d_C_word_16 : decode b_C_word 16 = .ok (.goto 6, 3) := by decide +kernel
theorem d_C_word_19 : decode b_C_word 19 = .ok (.ldc2_w 97, 3) := by decide +kernel
theorem d_C_word_22 : decode b_C_word 22 = .ok (.lreturn, 1) := by decide +kernel
theorem d_C_copy_0 : decode b_C_copy 0 = .ok (.iload_n 1, 1) := by decide +kernel
theorem d_C_copy_1 : decode b_C_copy 1 = .ok (.iconst 3, 1) := by decide +kernel
theorem d_C_copy_2 : decode b_C_copy 2 = .ok (.invokestatic 40, 3) := by decide +kernel
theorem d_C_copy_5 : decode b_C_copy 5 = .ok (.ifCond .eq 12, 3) := by decide +kernel
theorem d_C_copy_8 : decode b_C_copy 8 = .ok (.iload_n 2, 1) := by decide +kernel
theorem d_C_copy_9 : decode b_C_copy 9 = .ok (.bipush 32, 2) := by decide +kernel
theorem d_C_copy_11 : decode b_C_copy 11 = .ok (.invokestatic 40, 3) := by decide +kernel
theorem d_C_copy_14 : decode b_C_copy 14 = .ok (.ifCond .ne 7, 3) := by decide +kernel
theorem d_C_copy_17 : decode b_C_copy 17 = .ok (.ldc2_w 116, 3) := by decide +kernel
theorem d_C_copy_20 : decode b_C_copy 20 = .ok (.lreturn, 1) := by decide +kernel
theorem d_C_copy_21 : decode b_C_copy 21 = .ok (.aload_n 0, 1) := by decide +kernel
theorem d_C_copy_22 : decode b_C_copy 22 = .ok (.getfield 29, 3) := by decide +kernel
theorem d_C_copy_25 : decode b_C_copy 25 = .ok (.iload_n 2, 1) := by decide +kernel
theorem d_C_copy_26 : decode b_C_copy 26 = .ok (.iconst 4, 1) := by decide +kernel
theorem d_C_copy_27 : decode b_C_copy 27 = .ok (.idiv, 1) := by decide +kernel
theorem d_C_copy_28 : decode b_C_copy 28 = .ok (.aaload, 1) := by decide +kernel
theorem d_C_copy_29 : decode b_C_copy 29 = .ok (.getfield 118, 3) := by decide +kernel
theorem d_C_copy_32 : decode b_C_copy 32 = .ok (.iload_n 1, 1) := by decide +kernel
theorem d_C_copy_33 : decode b_C_copy 33 = .ok (.iaload, 1) := by decide +kernel
theorem d_C_copy_34 : decode b_C_copy 34 = .ok (.ifCond .ne 9, 3) := by decide +kernel
theorem d_C_copy_37 : decode b_C_copy 37 = .ok (.ldc2_w 97, 3) := by decide +kernel
theorem d_C_copy_40 : decode b_C_copy 40 = .ok (.goto 10, 3) := by decide +kernel
theorem d_C_copy_43 : decode b_C_copy 43 = .ok (.aload_n 0, 1) := by decide +kernel
theorem d_C_copy_44 : decode b_C_copy 44 = .ok (.getfield 33, 3) := by decide +kernel
theorem d_C_copy_47 : decode b_C_copy 47 = .ok (.iload_n 2, 1) := by decide +kernel
theorem d_C_copy_48 : decode b_C_copy 48 = .ok (.iaload, 1) := by decide +kernel
theorem d_C_copy_49 : decode b_C_copy 49 = .ok (.i2l, 1) := by decide +kernel
theorem d_C_copy_50 : decode b_C_copy 50 = .ok (.lreturn, 1) := by decide +kernel
theorem d_C_right_0 : decode b_C_right 0 = .ok (.iload_n 1, 1) := by decide +kernel
theorem d_C_right_1 : decode b_C_right 1 = .ok (.iconst 3, 1) := by decide +kernel
theorem d_C_right_2 : decode b_C_right 2 = .ok (.invokestatic 40, 3) := by decide +kernel
theorem d_C_right_5 : decode b_C_right 5 = .ok (.ifCond .eq 26, 3) := by decide +kernel
theorem d_C_right_8 : decode b_C_right 8 = .ok (.iload_n 2, 1) := by decide +kernel
theorem d_C_right_9 : decode b_C_right 9 = .ok (.bipush 8, 2) := by decide +kernel
theorem d_C_right_11 : decode b_C_right 11 = .ok (.invokestatic 40, 3) := by decide +kernel
theorem d_C_right_14 : decode b_C_right 14 = .ok (.ifCond .eq 17, 3) := by decide +kernel
theorem d_C_right_17 : decode b_C_right 17 = .ok (.aload_n 0, 1) := by decide +kernel
theorem d_C_right_18 : decode b_C_right 18 = .ok (.getfield 29, 3) := by decide +kernel
theorem d_C_right_21 : decode b_C_right 21 = .ok (.iload_n 2, 1) := by decide +kernel
theorem d_C_right_22 : decode b_C_right 22 = .ok (.aaload, 1) := by decide +kernel
theorem d_C_right_23 : decode b_C_right 23 = .ok (.getfield 118, 3) := by decide +kernel
theorem d_C_right_26 : decode b_C_right 26 = .ok (.iload_n 1, 1) := by decide +kernel
theorem d_C_right_27 : decode b_C_right 27 = .ok (.iaload, 1) := by decide +kernel
theorem d_C_right_28 : decode b_C_right 28 = .ok (.goto 4, 3) := by decide +kernel
theorem d_C_right_31 : decode b_C_right 31 = .ok (.iconst (-1), 1) := by decide +kernel
theorem d_C_right_32 : decode b_C_right 32 = .ok (.ireturn, 1) := by decide +kernel
theorem d_C_owner_0 : decode b_C_owner 0 = .ok (.iload_n 1, 1) := by decide +kernel
theorem d_C_owner_1 : decode b_C_owner 1 = .ok (.bipush 8, 2) := by decide +kernel
theorem d_C_owner_3 : decode b_C_owner 3 = .ok (.invokestatic 40, 3) := by decide +kernel
theorem d_C_owner_6 : decode b_C_owner 6 = .ok (.ifCond .eq 15, 3) := by decide +kernel
theorem d_C_owner_9 : decode b_C_owner 9 = .ok (.aload_n 0, 1) := by decide +kernel
theorem d_C_owner_10 : decode b_C_owner 10 = .ok (.getfield 29, 3) := by decide +kernel
theorem d_C_owner_13 : decode b_C_owner 13 = .ok (.iload_n 1, 1) := by decide +kernel
theorem d_C_owner_14 : decode b_C_owner 14 = .ok (.aaload, 1) := by decide +kernel
theorem d_C_owner_15 : decode b_C_owner 15 = .ok (.getfield 121, 3) := by decide +kernel
theorem d_C_owner_18 : decode b_C_owner 18 = .ok (.goto 4, 3) := by decide +kernel
theorem d_C_owner_21 : decode b_C_owner 21 = .ok (.iconst (-1), 1) := by decide +kernel
theorem d_C_owner_22 : decode b_C_owner 22 = .ok (.ireturn, 1) := by decide +kernel
theorem d_C_count_0 : decode b_C_count 0 = .ok (.iload_n 1, 1) := by decide +kernel
theorem d_C_count_1 : decode b_C_count 1 = .ok (.tableswitch 78 0 6 #[43, 48, 53, 58, 63, 68, 73], 43) := by decide +kernel
theorem d_C_count_44 : decode b_C_count 44 = .ok (.aload_n 0, 1) := by decide +kernel
theorem d_C_count_45 : decode b_C_count 45 = .ok (.getfield 55, 3) := by decide +kernel
theorem d_C_count_48 : decode b_C_count 48 = .ok (.ireturn, 1) := by decide +kernel
theorem d_C_count_49 : decode b_C_count 49 = .ok (.aload_n 0, 1) := by decide +kernel
theorem d_C_count_50 : decode b_C_count 50 = .ok (.getfield 124, 3) := by decide +kernel
theorem d_C_count_53 : decode b_C_count 53 = .ok (.ireturn, 1) := by decide +kernel
theorem d_C_count_54 : decode b_C_count 54 = .ok (.aload_n 0, 1) := by decide +kernel
theorem d_C_count_55 : decode b_C_count 55 = .ok (.getfield 127, 3) := by decide +kernel
theorem d_C_count_58 : decode b_C_count 58 = .ok (.ireturn, 1) := by decide +kernel
theorem d_C_count_59 : decode b_C_count 59 = .ok (.aload_n 0, 1) := by decide +kernel
theorem d_C_count_60 : decode b_C_count 60 = .ok (.getfield 130, 3) := by decide +kernel
theorem d_C_count_63 : decode b_C_count 63 = .ok (.ireturn, 1) := by decide +kernel
theorem d_C_count_64 : decode b_C_count 64 = .ok (.aload_n 0, 1) := by decide +kernel
theorem d_C_count_65 : decode b_C_count 65 = .ok (.invokevirtual 133, 3) := by decide +kernel
theorem d_C_count_68 : decode b_C_count 68 = .ok (.ireturn, 1) := by decide +kernel
theorem d_C_count_69 : decode b_C_count 69 = .ok (.aload_n 0, 1) := by decide +kernel
theorem d_C_count_70 : decode b_C_count 70 = .ok (.invokevirtual 137, 3) := by decide +kernel
theorem d_C_count_73 : decode b_C_count 73 = .ok (.ireturn, 1) := by decide +kernel
theorem d_C_count_74 : decode b_C_count 74 = .ok (.aload_n 0, 1) := by decide +kernel
theorem d_C_count_75 : decode b_C_count 75 = .ok (.getfield 140, 3) := by decide +kernel
theorem d_C_count_78 : decode b_C_count 78 = .ok (.ireturn, 1) := by decide +kernel
theorem d_C_count_79 : decode b_C_count 79 = .ok (.iconst (-1), 1) := by decide +kernel
theorem d_C_count_80 : decode b_C_count 80 = .ok (.ireturn, 1) := by decide +kernel
theorem d_C_isIn_0 : decode b_C_isIn 0 = .ok (.iload_n 0, 1) := by decide +kernel
theorem d_C_isIn_1 : decode b_C_isIn 1 = .ok (.ifCond .lt 12, 3) := by decide +kernel
theorem d_C_isIn_4 : decode b_C_isIn 4 = .ok (.iload_n 0, 1) := by decide +kernel
theorem d_C_isIn_5 : decode b_C_isIn 5 = .ok (.iload_n 1, 1) := by decide +kernel
theorem d_C_isIn_6 : decode b_C_isIn 6 = .ok (.if_icmp .ge 7, 3) := by decide +kernel
theorem d_C_isIn_9 : decode b_C_isIn 9 = .ok (.iconst 1, 1) := by decide +kernel
theorem d_C_isIn_10 : decode b_C_isIn 10 = .ok (.goto 4, 3) := by decide +kernel
theorem d_C_isIn_13 : decode b_C_isIn 13 = .ok (.iconst 0, 1) := by decide +kernel
theorem d_C_isIn_14 : decode b_C_isIn 14 = .ok (.ireturn, 1) := by decide +kernel
theorem d_C_fitsOp_0 : decode b_C_fitsOp 0 = .ok (.iload_n 0, 1) := by decide +kernel
theorem d_C_fitsOp_1 : decode b_C_fitsOp 1 = .ok (.ifCond .ne 23, 3) := by decide +kernel
theorem d_C_fitsOp_4 : decode b_C_fitsOp 4 = .ok (.iload_n 1, 1) := by decide +kernel
theorem d_C_fitsOp_5 : decode b_C_fitsOp 5 = .ok (.sipush (-1000), 3) := by decide +kernel
theorem d_C_fitsOp_8 : decode b_C_fitsOp 8 = .ok (.if_icmp .lt 14, 3) := by decide +kernel
theorem d_C_fitsOp_11 : decode b_C_fitsOp 11 = .ok (.iload_n 1, 1) := by decide +kernel
theorem d_C_fitsOp_12 : decode b_C_fitsOp 12 = .ok (.sipush 1000, 3) := by decide +kernel
theorem d_C_fitsOp_15 : decode b_C_fitsOp 15 = .ok (.if_icmp .gt 7, 3) := by decide +kernel
theorem d_C_fitsOp_18 : decode b_C_fitsOp 18 = .ok (.iconst 1, 1) := by decide +kernel
theorem d_C_fitsOp_19 : decode b_C_fitsOp 19 = .ok (.goto 4, 3) := by decide +kernel
theorem d_C_fitsOp_22 : decode b_C_fitsOp 22 = .ok (.iconst 0, 1) := by decide +kernel
theorem d_C_fitsOp_23 : decode b_C_fitsOp 23 = .ok (.ireturn, 1) := by decide +kernel
theorem d_C_fitsOp_24 : decode b_C_fitsOp 24 = .ok (.iload_n 1, 1) := by decide +kernel
theorem d_C_fitsOp_25 : decode b_C_fitsOp 25 = .ok (.iload_n 0, 1) := by decide +kernel
theorem d_C_fitsOp_26 : decode b_C_fitsOp 26 = .ok (.iconst 5, 1) := by decide +kernel
theorem d_C_fitsOp_27 : decode b_C_fitsOp 27 = .ok (.if_icmp .ne 8, 3) := by decide +kernel
theorem d_C_fitsOp_30 : decode b_C_fitsOp 30 = .ok (.bipush 12, 2) := by decide +kernel
theorem d_C_fitsOp_32 : decode b_C_fitsOp 32 = .ok (.goto 4, 3) := by decide +kernel
theorem d_C_fitsOp_35 : decode b_C_fitsOp 35 = .ok (.iconst 4, 1) := by decide +kernel
theorem d_C_fitsOp_36 : decode b_C_fitsOp 36 = .ok (.invokestatic 40, 3) := by decide +kernel
theorem d_C_fitsOp_39 : decode b_C_fitsOp 39 = .ok (.ireturn, 1) := by decide +kernel
theorem d_C_touchesMemory_0 : decode b_C_touchesMemory 0 = .ok (.iload_n 0, 1) := by decide +kernel
theorem d_C_touchesMemory_1 : decode b_C_touchesMemory 1 = .ok (.iconst 2, 1) := by decide +kernel
theorem d_C_touchesMemory_2 : decode b_C_touchesMemory 2 = .ok (.if_icmp .eq 13, 3) := by decide +kernel
theorem d_C_touchesMemory_5 : decode b_C_touchesMemory 5 = .ok (.iload_n 0, 1) := by decide +kernel
theorem d_C_touchesMemory_6 : decode b_C_touchesMemory 6 = .ok (.iconst 3, 1) := by decide +kernel
theorem d_C_touchesMemory_7 : decode b_C_touchesMemory 7 = .ok (.if_icmp .eq 8, 3) := by decide +kernel
theorem d_C_touchesMemory_10 : decode b_C_touchesMemory 10 = .ok (.iload_n 0, 1) := by decide +kernel
theorem d_C_touchesMemory_11 : decode b_C_touchesMemory 11 = .ok (.iconst 4, 1) := by decide +kernel
theorem d_C_touchesMemory_12 : decode b_C_touchesMemory 12 = .ok (.if_icmp .ne 7, 3) := by decide +kernel
theorem d_C_touchesMemory_15 : decode b_C_touchesMemory 15 = .ok (.iconst 1, 1) := by decide +kernel
theorem d_C_touchesMemory_16 : decode b_C_touchesMemory 16 = .ok (.goto 4, 3) := by decide +kernel
theorem d_C_touchesMemory_19 : decode b_C_touchesMemory 19 = .ok (.iconst 0, 1) := by decide +kernel
theorem d_C_touchesMemory_20 : decode b_C_touchesMemory 20 = .ok (.ireturn, 1) := by decide +kernel
theorem d_C_addressOf_0 : decode b_C_addressOf 0 = .ok (.iload_n 0, 1) := by decide +kernel
theorem d_C_addressOf_1 : decode b_C_addressOf 1 = .ok (.bipush 32, 2) := by decide +kernel
theorem d_C_addressOf_3 : decode b_C_addressOf 3 = .ok (.invokestatic 143, 3) := by decide +kernel
theorem d_C_addressOf_6 : decode b_C_addressOf 6 = .ok (.ireturn, 1) := by decide +kernel
theorem d_C_requestsStanding_0 : decode b_C_requestsStanding 0 = .ok (.iconst 0, 1) := by decide +kernel
theorem d_C_requestsStanding_1 : decode b_C_requestsStanding 1 = .ok (.istore_n 1, 1) := by decide +kernel
theorem d_C_requestsStanding_2 : decode b_C_requestsStanding 2 = .ok (.iconst 0, 1) := by decide +kernel
theorem d_C_requestsStanding_3 : decode b_C_requestsStanding 3 = .ok (.istore_n 2, 1) := by decide +kernel
theorem d_C_requestsStanding_4 : decode b_C_requestsStanding 4 = .ok (.iload_n 2, 1) := by decide +kernel
theorem d_C_requestsStanding_5 : decode b_C_requestsStanding 5 = .ok (.bipush 8, 2) := by decide +kernel
theorem d_C_requestsStanding_7 : decode b_C_requestsStanding 7 = .ok (.if_icmp .ge 24, 3) := by decide +kernel
theorem d_C_requestsStanding_10 : decode b_C_requestsStanding 10 = .ok (.iload_n 1, 1) := by decide +kernel
theorem d_C_requestsStanding_11 : decode b_C_requestsStanding 11 = .ok (.aload_n 0, 1) := by decide +kernel
theorem d_C_requestsStanding_12 : decode b_C_requestsStanding 12 = .ok (.getfield 29, 3) := by decide +kernel
theorem d_C_requestsStanding_15 : decode b_C_requestsStanding 15 = .ok (.iload_n 2, 1) := by decide +kernel
theorem d_C_requestsStanding_16 : decode b_C_requestsStanding 16 = .ok (.aaload, 1) := by decide +kernel
theorem d_C_requestsStanding_17 : decode b_C_requestsStanding 17 = .ok (.getfield 76, 3) := by decide +kernel
theorem d_C_requestsStanding_20 : decode b_C_requestsStanding 20 = .ok (.getfield 62, 3) := by decide +kernel
theorem d_C_requestsStanding_23 : decode b_C_requestsStanding 23 = .ok (.iadd, 1) := by decide +kernel
theorem d_C_requestsStanding_24 : decode b_C_requestsStanding 24 = .ok (.istore_n 1, 1) := by decide +kernel
theorem d_C_requestsStanding_25 : decode b_C_requestsStanding 25 = .ok (.iinc 2 1, 3) := by decide +kernel
theorem d_C_requestsStanding_28 : decode b_C_requestsStanding 28 = .ok (.goto (-24), 3) := by decide +kernel
theorem d_C_requestsStanding_31 : decode b_C_requestsStanding 31 = .ok (.iload_n 1, 1) := by decide +kernel
theorem d_C_requestsStanding_32 : decode b_C_requestsStanding 32 = .ok (.ireturn, 1) := by decide +kernel
theorem d_C_processesReady_0 : decode b_C_processesReady 0 = .ok (.iconst 0, 1) := by decide +kernel
theorem d_C_processesReady_1 : decode b_C_processesReady 1 = .ok (.istore_n 1, 1) := by decide +kernel
theorem d_C_processesReady_2 : decode b_C_processesReady 2 = .ok (.iconst 0, 1) := by decide +kernel
theorem d_C_processesReady_3 : decode b_C_processesReady 3 = .ok (.istore_n 2, 1) := by decide +kernel
theorem d_C_processesReady_4 : decode b_C_processesReady 4 = .ok (.iload_n 2, 1) := by decide +kernel
theorem d_C_processesReady_5 : decode b_C_processesReady 5 = .ok (.iconst 3, 1) := by decide +kernel
theorem d_C_processesReady_6 : decode b_C_processesReady 6 = .ok (.if_icmp .ge 21, 3) := by decide +kernel
theorem d_C_processesReady_9 : decode b_C_processesReady 9 = .ok (.iload_n 1, 1) := by decide +kernel
theorem d_C_processesReady_10 : decode b_C_processesReady 10 = .ok (.aload_n 0, 1) := by decide +kernel
theorem d_C_processesReady_11 : decode b_C_processesReady 11 = .ok (.getfield 23, 3) := by decide +kernel
theorem d_C_processesReady_14 : decode b_C_processesReady 14 = .ok (.iload_n 2, 1) := by decide +kernel
theorem d_C_processesReady_15 : decode b_C_processesReady 15 = .ok (.aaload, 1) := by decide +kernel
theorem d_C_processesReady_16 : decode b_C_processesReady 16 = .ok (.getfield 62, 3) := by decide +kernel
theorem d_C_processesReady_19 : decode b_C_processesReady 19 = .ok (.iadd, 1) := by decide +kernel
theorem d_C_processesReady_20 : decode b_C_processesReady 20 = .ok (.istore_n 1, 1) := by decide +kernel
theorem d_C_processesReady_21 : decode b_C_processesReady 21 = .ok (.iinc 2 1, 3) := by decide +kernel
theorem d_C_processesReady_24 : decode b_C_processesReady 24 = .ok (.goto (-20), 3) := by decide +kernel
theorem d_C_processesReady_27 : decode b_C_processesReady 27 = .ok (.iload_n 1, 1) := by decide +kernel
theorem d_C_processesReady_28 : decode b_C_processesReady 28 = .ok (.ireturn, 1) := by decide +kernel
theorem d_C_makeProcess_0 : decode b_C_makeProcess 0 = .ok (.new 15, 3) := by decide +kernel
theorem d_C_makeProcess_3 : decode b_C_makeProcess 3 = .ok (.dup, 1) := by decide +kernel
theorem d_C_makeProcess_4 : decode b_C_makeProcess 4 = .ok (.aload_n 0, 1) := by decide +kernel
theorem d_C_makeProcess_5 : decode b_C_makeProcess 5 = .ok (.getfield 55, 3) := by decide +kernel
theorem d_C_makeProcess_8 : decode b_C_makeProcess 8 = .ok (.iload_n 1, 1) := by decide +kernel
theorem d_C_makeProcess_9 : decode b_C_makeProcess 9 = .ok (.iload_n 2, 1) := by decide +kernel
theorem d_C_makeProcess_10 : decode b_C_makeProcess 10 = .ok (.invokespecial 148, 3) := by decide +kernel
theorem d_C_makeProcess_13 : decode b_C_makeProcess 13 = .ok (.astore_n 3, 1) := by decide +kernel
theorem d_C_makeProcess_14 : decode b_C_makeProcess 14 = .ok (.aload_n 0, 1) := by decide +kernel
theorem d_C_makeProcess_15 : decode b_C_makeProcess 15 = .ok (.getfield 17, 3) := by decide +kernel
theorem d_C_makeProcess_18 : decode b_C_makeProcess 18 = .ok (.aload_n 0, 1) := by decide +kernel
theorem d_C_makeProcess_19 : decode b_C_makeProcess 19 = .ok (.getfield 55, 3) := by decide +kernel
theorem d_C_makeProcess_22 : decode b_C_makeProcess 22 = .ok (.aload_n 3, 1) := by decide +kernel
theorem d_C_makeProcess_23 : decode b_C_makeProcess 23 = .ok (.aastore, 1) := by decide +kernel
theorem d_C_makeProcess_24 : decode b_C_makeProcess 24 = .ok (.aload_n 0, 1) := by decide +kernel
theorem d_C_makeProcess_25 : decode b_C_makeProcess 25 = .ok (.dup, 1) := by decide +kernel
theorem d_C_makeProcess_26 : decode b_C_makeProcess 26 = .ok (.getfield 55, 3) := by decide +kernel
theorem d_C_makeProcess_29 : decode b_C_makeProcess 29 = .ok (.iconst 1, 1) := by decide +kernel
theorem d_C_makeProcess_30 : decode b_C_makeProcess 30 = .ok (.iadd, 1) := by decide +kernel
theorem d_C_makeProcess_31 : decode b_C_makeProcess 31 = .ok (.putfield 55, 3) := by decide +kernel
theorem d_C_makeProcess_34 : decode b_C_makeProcess 34 = .ok (.aload_n 0, 1) := by decide +kernel
theorem d_C_makeProcess_35 : decode b_C_makeProcess 35 = .ok (.aload_n 3, 1) := by decide +kernel
theorem d_C_makeProcess_36 : decode b_C_makeProcess 36 = .ok (.invokevirtual 94, 3) := by decide +kernel
theorem d_C_makeProcess_39 : decode b_C_makeProcess 39 = .ok (.aload_n 3, 1) := by decide +kernel
theorem d_C_makeProcess_40 : decode b_C_makeProcess 40 = .ok (.getfield 73, 3) := by decide +kernel
theorem d_C_makeProcess_43 : decode b_C_makeProcess 43 = .ok (.ireturn, 1) := by decide +kernel
theorem d_C_joinLine_0 : decode b_C_joinLine 0 = .ok (.aload_n 1, 1) := by decide +kernel
theorem d_C_joinLine_1 : decode b_C_joinLine 1 = .ok (.iconst 1, 1) := by decide +kernel
theorem d_C_joinLine_2 : decode b_C_joinLine 2 = .ok (.putfield 70, 3) := by decide +kernel
theorem d_C_joinLine_5 : decode b_C_joinLine 5 = .ok (.aload_n 1, 1) := by decide +kernel
theorem d_C_joinLine_6 : decode b_C_joinLine 6 = .ok (.iconst 0, 1) := by decide +kernel
theorem d_C_joinLine_7 : decode b_C_joinLine 7 = .ok (.putfield 105, 3) := by decide +kernel
theorem d_C_joinLine_10 : decode b_C_joinLine 10 = .ok (.aload_n 0, 1) := by decide +kernel
theorem d_C_joinLine_11 : decode b_C_joinLine 11 = .ok (.getfield 23, 3) := by decide +kernel
theorem d_C_joinLine_14 : decode b_C_joinLine 14 = .ok (.aload_n 1, 1) := by decide +kernel
theorem d_C_joinLine_15 : decode b_C_joinLine 15 = .ok (.getfield 88, 3) := by decide +kernel
theorem d_C_joinLine_18 : decode b_C_joinLine 18 = .ok (.aaload, 1) := by decide +kernel
theorem d_C_joinLine_19 : decode b_C_joinLine 19 = .ok (.aload_n 1, 1) := by decide +kernel
theorem d_C_joinLine_20 : decode b_C_joinLine 20 = .ok (.getfield 73, 3) := by decide +kernel
theorem d_C_joinLine_23 : decode b_C_joinLine 23 = .ok (.invokevirtual 150, 3) := by decide +kernel
theorem d_C_joinLine_26 : decode b_C_joinLine 26 = .ok (.return_, 1) := by decide +kernel
theorem d_C_leaveLine_0 : decode b_C_leaveLine 0 = .ok (.aload_n 0, 1) := by decide +kernel
theorem d_C_leaveLine_1 : decode b_C_leaveLine 1 = .ok (.getfield 23, 3) := by decide +kernel
theorem d_C_leaveLine_4 : decode b_C_leaveLine 4 = .ok (.aload_n 1, 1) := by decide +kernel
theorem d_C_leaveLine_5 : decode b_C_leaveLine 5 = .ok (.getfield 88, 3) := by decide +kernel
theorem d_C_leaveLine_8 : decode b_C_leaveLine 8 = .ok (.aaload, 1) := by decide +kernel
theorem d_C_leaveLine_9 : decode b_C_leaveLine 9 = .ok (.aload_n 1, 1) := by decide +kernel
theorem d_C_leaveLine_10 : decode b_C_leaveLine 10 = .ok (.getfield 73, 3) := by decide +kernel
theorem d_C_leaveLine_13 : decode b_C_leaveLine 13 = .ok (.invokevirtual 80, 3) := by decide +kernel
theorem d_C_leaveLine_16 : decode b_C_leaveLine 16 = .ok (.aload_n 1, 1) := by decide +kernel
theorem d_C_leaveLine_17 : decode b_C_leaveLine 17 = .ok (.iload_n 2, 1) := by decide +kernel
theorem d_C_leaveLine_18 : decode b_C_leaveLine 18 = .ok (.putfield 70, 3) := by decide +kernel
theorem d_C_leaveLine_21 : decode b_C_leaveLine 21 = .ok (.return_, 1) := by decide +kernel
theorem d_C_endProcess_0 : decode b_C_endProcess 0 = .ok (.aload_n 0, 1) := by decide +kernel
theorem d_C_endProcess_1 : decode b_C_endProcess 1 = .ok (.aload_n 1, 1) := by decide +kernel
theorem d_C_endProcess_2 : decode b_C_endProcess 2 = .ok (.iconst 4, 1) := by decide +kernel
theorem d_C_endProcess_3 : decode b_C_endProcess 3 = .ok (.invokevirtual 153, 3) := by decide +kernel
theorem d_C_endProcess_6 : decode b_C_endProcess 6 = .ok (.aload_n 1, 1) := by decide +kernel
theorem d_C_endProcess_7 : decode b_C_endProcess 7 = .ok (.iload_n 2, 1) := by decide +kernel
theorem d_C_endProcess_8 : decode b_C_endProcess 8 = .ok (.putfield 108, 3) := by decide +kernel
theorem d_C_endProcess_11 : decode b_C_endProcess 11 = .ok (.iconst 0, 1) := by decide +kernel
theorem d_C_endProcess_12 : decode b_C_endProcess 12 = .ok (.istore_n 3, 1) := by decide +kernel
theorem d_C_endProcess_13 : decode b_C_endProcess 13 = .ok (.iload_n 3, 1) := by decide +kernel
theorem d_C_endProcess_14 : decode b_C_endProcess 14 = .ok (.aload_n 0, 1) := by decide +kernel
theorem d_C_endProcess_15 : decode b_C_endProcess 15 = .ok (.getfield 55, 3) := by decide +kernel
theorem d_C_endProcess_18 : decode b_C_endProcess 18 = .ok (.if_icmp .ge 44, 3) := by decide +kernel
theorem d_C_endProcess_21 : decode b_C_endProcess 21 = .ok (.aload_n 0, 1) := by decide +kernel
theorem d_C_endProcess_22 : decode b_C_endProcess 22 = .ok (.getfield 17, 3) := by decide +kernel
theorem d_C_endProcess_25 : decode b_C_endProcess 25 = .ok (.iload_n 3, 1) := by decide +kernel
theorem d_C_endProcess_26 : decode b_C_endProcess 26 = .ok (.aaload, 1) := by decide +kernel
theorem d_C_endProcess_27 : decode b_C_endProcess 27 = .ok (.astore 4, 2) := by decide +kernel
theorem d_C_endProcess_29 : decode b_C_endProcess 29 = .ok (.aload 4, 2) := by decide +kernel
theorem d_C_endProcess_31 : decode b_C_endProcess 31 = .ok (.getfield 70, 3) := by decide +kernel
theorem d_C_endProcess_34 : decode b_C_endProcess 34 = .ok (.iconst 3, 1) := by decide +kernel
theorem d_C_endProcess_35 : decode b_C_endProcess 35 = .ok (.if_icmp .ne 21, 3) := by decide +kernel
theorem d_C_endProcess_38 : decode b_C_endProcess 38 = .ok (.aload 4, 2) := by decide +kernel
theorem d_C_endProcess_40 : decode b_C_endProcess 40 = .ok (.getfield 157, 3) := by decide +kernel
theorem d_C_endProcess_43 : decode b_C_endProcess 43 = .ok (.aload_n 1, 1) := by decide +kernel
theorem d_C_endProcess_44 : decode b_C_endProcess 44 = .ok (.getfield 73, 3) := by decide +kernel
theorem d_C_endProcess_47 : decode b_C_endProcess 47 = .ok (.if_icmp .ne 9, 3) := by decide +kernel
theorem d_C_endProcess_50 : decode b_C_endProcess 50 = .ok (.aload_n 0, 1) := by decide +kernel
theorem d_C_endProcess_51 : decode b_C_endProcess 51 = .ok (.aload 4, 2) := by decide +kernel
theorem d_C_endProcess_53 : decode b_C_endProcess 53 = .ok (.invokevirtual 94, 3) := by decide +kernel
theorem d_C_endProcess_56 : decode b_C_endProcess 56 = .ok (.iinc 3 1, 3) := by decide +kernel
theorem d_C_endProcess_59 : decode b_C_endProcess 59 = .ok (.goto (-46), 3) := by decide +kernel
theorem d_C_endProcess_62 : decode b_C_endProcess 62 = .ok (.return_, 1) := by decide +kernel
theorem d_C_runFirst_0 : decode b_C_runFirst 0 = .ok (.aload_n 0, 1) := by decide +kernel
theorem d_C_runFirst_1 : decode b_C_runFirst 1 = .ok (.getfield 11, 3) := by decide +kernel
theorem d_C_runFirst_4 : decode b_C_runFirst 4 = .ok (.aload_n 1, 1) := by decide +kernel
theorem d_C_runFirst_5 : decode b_C_runFirst 5 = .ok (.getfield 160, 3) := by decide +kernel
theorem d_C_runFirst_8 : decode b_C_runFirst 8 = .ok (.aaload, 1) := by decide +kernel
theorem d_C_runFirst_9 : decode b_C_runFirst 9 = .ok (.astore_n 2, 1) := by decide +kernel
theorem d_C_runFirst_10 : decode b_C_runFirst 10 = .ok (.aload_n 1, 1) := by decide +kernel
theorem d_C_runFirst_11 : decode b_C_runFirst 11 = .ok (.getfield 102, 3) := by decide +kernel
theorem d_C_runFirst_14 : decode b_C_runFirst 14 = .ok (.aload_n 2, 1) := by decide +kernel
theorem d_C_runFirst_15 : decode b_C_runFirst 15 = .ok (.getfield 47, 3) := by decide +kernel
theorem d_C_runFirst_18 : decode b_C_runFirst 18 = .ok (.if_icmp .lt 10, 3) := by decide +kernel
theorem d_C_runFirst_21 : decode b_C_runFirst 21 = .ok (.aload_n 0, 1) := by decide +kernel
theorem d_C_runFirst_22 : decode b_C_runFirst 22 = .ok (.aload_n 1, 1) := by decide +kernel
theorem d_C_runFirst_23 : decode b_C_runFirst 23 = .ok (.iconst 0, 1) := by decide +kernel
theorem d_C_runFirst_24 : decode b_C_runFirst 24 = .ok (.invokevirtual 163, 3) := by decide +kernel
theorem d_C_runFirst_27 : decode b_C_runFirst 27 = .ok (.return_, 1) := by decide +kernel
theorem d_C_runFirst_28 : decode b_C_runFirst 28 = .ok (.aload_n 2, 1) := by decide +kernel
theorem d_C_runFirst_29 : decode b_C_runFirst 29 = .ok (.getfield 166, 3) := by decide +kernel
theorem d_C_runFirst_32 : decode b_C_runFirst 32 = .ok (.aload_n 1, 1) := by decide +kernel
theorem d_C_runFirst_33 : decode b_C_runFirst 33 = .ok (.getfield 102, 3) := by decide +kernel
theorem d_C_runFirst_36 : decode b_C_runFirst 36 = .ok (.iaload, 1) := by decide +kernel
theorem d_C_runFirst_37 : decode b_C_runFirst 37 = .ok (.istore_n 3, 1) := by decide +kernel
theorem d_C_runFirst_38 : decode b_C_runFirst 38 = .ok (.aload_n 2, 1) := by decide +kernel
theorem d_C_runFirst_39 : decode b_C_runFirst 39 = .ok (.getfield 169, 3) := by decide +kernel
theorem d_C_runFirst_42 : decode b_C_runFirst 42 = .ok (.aload_n 1, 1) := by decide +kernel
theorem d_C_runFirst_43 : decode b_C_runFirst 43 = .ok (.getfield 102, 3) := by decide +kernel
theorem d_C_runFirst_46 : decode b_C_runFirst 46 = .ok (.iaload, 1) := by decide +kernel
theorem d_C_runFirst_47 : decode b_C_runFirst 47 = .ok (.istore 4, 2) := by decide +kernel
theorem d_C_runFirst_49 : decode b_C_runFirst 49 = .ok (.aload_n 2, 1) := by decide +kernel
theorem d_C_runFirst_50 : decode b_C_runFirst 50 = .ok (.getfield 172, 3) := by decide +kernel
theorem d_C_runFirst_53 : decode b_C_runFirst 53 = .ok (.aload_n 1, 1) := by decide +kernel
theorem d_C_runFirst_54 : decode b_C_runFirst 54 = .ok (.getfield 102, 3) := by decide +kernel
theorem d_C_runFirst_57 : decode b_C_runFirst 57 = .ok (.iaload, 1) := by decide +kernel
theorem d_C_runFirst_58 : decode b_C_runFirst 58 = .ok (.istore 5, 2) := by decide +kernel
theorem d_C_runFirst_60 : decode b_C_runFirst 60 = .ok (.iload_n 3, 1) := by decide +kernel
theorem d_C_runFirst_61 : decode b_C_runFirst 61 = .ok (.invokestatic 175, 3) := by decide +kernel
theorem d_C_runFirst_64 : decode b_C_runFirst 64 = .ok (.ifCond .eq 59, 3) := by decide +kernel
theorem d_C_runFirst_67 : decode b_C_runFirst 67 = .ok (.aload_n 1, 1) := by decide +kernel
theorem d_C_runFirst_68 : decode b_C_runFirst 68 = .ok (.getfield 99, 3) := by decide +kernel
theorem d_C_runFirst_71 : decode b_C_runFirst 71 = .ok (.iload 5, 2) := by decide +kernel
theorem d_C_runFirst_73 : decode b_C_runFirst 73 = .ok (.iaload, 1) := by decide +kernel
theorem d_C_runFirst_74 : decode b_C_runFirst 74 = .ok (.invokestatic 179, 3) := by decide +kernel
theorem d_C_runFirst_77 : decode b_C_runFirst 77 = .ok (.iconst 4, 1) := by decide +kernel
theorem d_C_runFirst_78 : decode b_C_runFirst 78 = .ok (.idiv, 1) := by decide +kernel
theorem d_C_runFirst_79 : decode b_C_runFirst 79 = .ok (.istore 6, 2) := by decide +kernel
theorem d_C_runFirst_81 : decode b_C_runFirst 81 = .ok (.iload_n 3, 1) := by decide +kernel
theorem d_C_runFirst_82 : decode b_C_runFirst 82 = .ok (.iconst 2, 1) := by decide +kernel
theorem d_C_runFirst_83 : decode b_C_runFirst 83 = .ok (.if_icmp .ne 7, 3) := by decide +kernel
theorem d_C_runFirst_86 : decode b_C_runFirst 86 = .ok (.iconst 1, 1) := by decide +kernel
theorem d_C_runFirst_87 : decode b_C_runFirst 87 = .ok (.goto 4, 3) := by decide +kernel
theorem d_C_runFirst_90 : decode b_C_runFirst 90 = .ok (.iconst 2, 1) := by decide +kernel
theorem d_C_runFirst_91 : decode b_C_runFirst 91 = .ok (.istore 7, 2) := by decide +kernel
theorem d_C_runFirst_93 : decode b_C_runFirst 93 = .ok (.aload_n 0, 1) := by decide +kernel
theorem d_C_runFirst_94 : decode b_C_runFirst 94 = .ok (.getfield 29, 3) := by decide +kernel
theorem d_C_runFirst_97 : decode b_C_runFirst 97 = .ok (.iload 6, 2) := by decide +kernel
theorem d_C_runFirst_99 : decode b_C_runFirst 99 = .ok (.aaload, 1) := by decide +kernel
theorem d_C_runFirst_100 : decode b_C_runFirst 100 = .ok (.getfield 118, 3) := by decide +kernel
theorem d_C_runFirst_103 : decode b_C_runFirst 103 = .ok (.aload_n 1, 1) := by decide +kernel
theorem d_C_runFirst_104 : decode b_C_runFirst 104 = .ok (.getfield 88, 3) := by decide +kernel
theorem d_C_runFirst_107 : decode b_C_runFirst 107 = .ok (.iaload, 1) := by decide +kernel
theorem d_C_runFirst_108 : decode b_C_runFirst 108 = .ok (.iload 7, 2) := by decide +kernel
theorem d_C_runFirst_110 : decode b_C_runFirst 110 = .ok (.if_icmp .ge 13, 3) := by decide +kernel
theorem d_C_runFirst_113 : decode b_C_runFirst 113 = .ok (.aload_n 0, 1) := by decide +kernel
theorem d_C_runFirst_114 : decode b_C_runFirst 114 = .ok (.aload_n 1, 1) := by decide +kernel
theorem d_C_runFirst_115 : decode b_C_runFirst 115 = .ok (.iload 6, 2) := by decide +kernel
theorem d_C_runFirst_117 : decode b_C_runFirst 117 = .ok (.iload 7, 2) := by decide +kernel
theorem d_C_runFirst_119 : decode b_C_runFirst 119 = .ok (.invokevirtual 183, 3) := by decide +kernel
theorem d_C_runFirst_122 : decode b_C_runFirst 122 = .ok (.return_, 1) := by decide +kernel
theorem d_C_runFirst_123 : decode b_C_runFirst 123 = .ok (.aload_n 0, 1) := by decide +kernel
theorem d_C_runFirst_124 : decode b_C_runFirst 124 = .ok (.aload_n 1, 1) := by decide +kernel
theorem d_C_runFirst_125 : decode b_C_runFirst 125 = .ok (.iload_n 3, 1) := by decide +kernel
theorem d_C_runFirst_126 : decode b_C_runFirst 126 = .ok (.iload 4, 2) := by decide +kernel
theorem d_C_runFirst_128 : decode b_C_runFirst 128 = .ok (.iload 5, 2) := by decide +kernel
theorem d_C_runFirst_130 : decode b_C_runFirst 130 = .ok (.invokevirtual 187, 3) := by decide +kernel
theorem d_C_runFirst_133 : decode b_C_runFirst 133 = .ok (.aload_n 1, 1) := by decide +kernel
theorem d_C_runFirst_134 : decode b_C_runFirst 134 = .ok (.getfield 70, 3) := by decide +kernel
theorem d_C_runFirst_137 : decode b_C_runFirst 137 = .ok (.iconst 1, 1) := by decide +kernel
theorem d_C_runFirst_138 : decode b_C_runFirst 138 = .ok (.if_icmp .ne 19, 3) := by decide +kernel
theorem d_C_runFirst_141 : decode b_C_runFirst 141 = .ok (.aload_n 0, 1) := by decide +kernel
theorem d_C_runFirst_142 : decode b_C_runFirst 142 = .ok (.aload_n 1, 1) := by decide +kernel
theorem d_C_runFirst_143 : decode b_C_runFirst 143 = .ok (.iload_n 3, 1) := by decide +kernel
theorem d_C_runFirst_144 : decode b_C_runFirst 144 = .ok (.bipush 12, 2) := by decide +kernel
theorem d_C_runFirst_146 : decode b_C_runFirst 146 = .ok (.if_icmp .ne 7, 3) := by decide +kernel
theorem d_C_runFirst_149 : decode b_C_runFirst 149 = .ok (.iconst 1, 1) := by decide +kernel
theorem d_C_runFirst_150 : decode b_C_runFirst 150 = .ok (.goto 4, 3) := by decide +kernel
theorem d_C_runFirst_153 : decode b_C_runFirst 153 = .ok (.iconst 0, 1) := by decide +kernel
theorem d_C_runFirst_154 : decode b_C_runFirst 154 = .ok (.invokevirtual 191, 3) := by decide +kernel
theorem d_C_runFirst_157 : decode b_C_runFirst 157 = .ok (.return_, 1) := by decide +kernel
theorem d_C_blockOn_0 : decode b_C_blockOn 0 = .ok (.aload_n 0, 1) := by decide +kernel
theorem d_C_blockOn_1 : decode b_C_blockOn 1 = .ok (.aload_n 1, 1) := by decide +kernel
theorem d_C_blockOn_2 : decode b_C_blockOn 2 = .ok (.iconst 2, 1) := by decide +kernel
theorem d_C_blockOn_3 : decode b_C_blockOn 3 = .ok (.invokevirtual 153, 3) := by decide +kernel
theorem d_C_blockOn_6 : decode b_C_blockOn 6 = .ok (.aload_n 1, 1) := by decide +kernel
theorem d_C_blockOn_7 : decode b_C_blockOn 7 = .ok (.iload_n 2, 1) := by decide +kernel
theorem d_C_blockOn_8 : decode b_C_blockOn 8 = .ok (.putfield 111, 3) := by decide +kernel
theorem d_C_blockOn_11 : decode b_C_blockOn 11 = .ok (.aload_n 1, 1) := by decide +kernel
theorem d_C_blockOn_12 : decode b_C_blockOn 12 = .ok (.iload_n 3, 1) := by decide +kernel
theorem d_C_blockOn_13 : decode b_C_blockOn 13 = .ok (.putfield 195, 3) := by decide +kernel
theorem d_C_blockOn_16 : decode b_C_blockOn 16 = .ok (.aload_n 0, 1) := by decide +kernel
theorem d_C_blockOn_17 : decode b_C_blockOn 17 = .ok (.getfield 29, 3) := by decide +kernel
theorem d_C_blockOn_20 : decode b_C_blockOn 20 = .ok (.iload_n 2, 1) := by decide +kernel
theorem d_C_blockOn_21 : decode b_C_blockOn 21 = .ok (.aaload, 1) := by decide +kernel
theorem d_C_blockOn_22 : decode b_C_blockOn 22 = .ok (.getfield 76, 3) := by decide +kernel
theorem d_C_blockOn_25 : decode b_C_blockOn 25 = .ok (.aload_n 1, 1) := by decide +kernel
theorem d_C_blockOn_26 : decode b_C_blockOn 26 = .ok (.getfield 73, 3) := by decide +kernel
theorem d_C_blockOn_29 : decode b_C_blockOn 29 = .ok (.invokevirtual 150, 3) := by decide +kernel
theorem d_C_blockOn_32 : decode b_C_blockOn 32 = .ok (.aload_n 0, 1) := by decide +kernel
theorem d_C_blockOn_33 : decode b_C_blockOn 33 = .ok (.dup, 1) := by decide +kernel
theorem d_C_blockOn_34 : decode b_C_blockOn 34 = .ok (.getfield 127, 3) := by decide +kernel
theorem d_C_blockOn_37 : decode b_C_blockOn 37 = .ok (.iconst 1, 1) := by decide +kernel
theorem d_C_blockOn_38 : decode b_C_blockOn 38 = .ok (.iadd, 1) := by decide +kernel
theorem d_C_blockOn_39 : decode b_C_blockOn 39 = .ok (.putfield 127, 3) := by decide +kernel
theorem d_C_blockOn_42 : decode b_C_blockOn 42 = .ok (.return_, 1) := by decide +kernel
theorem d_C_spendSlice_0 : decode b_C_spendSlice 0 = .ok (.aload_n 1, 1) := by decide +kernel
theorem d_C_spendSlice_1 : decode b_C_spendSlice 1 = .ok (.dup, 1) := by decide +kernel
theorem d_C_spendSlice_2 : decode b_C_spendSlice 2 = .ok (.getfield 105, 3) := by decide +kernel
theorem d_C_spendSlice_5 : decode b_C_spendSlice 5 = .ok (.iconst 1, 1) := by decide +kernel
theorem d_C_spendSlice_6 : decode b_C_spendSlice 6 = .ok (.iadd, 1) := by decide +kernel
theorem d_C_spendSlice_7 : decode b_C_spendSlice 7 = .ok (.putfield 105, 3) := by decide +kernel
theorem d_C_spendSlice_10 : decode b_C_spendSlice 10 = .ok (.iload_n 2, 1) := by decide +kernel
theorem d_C_spendSlice_11 : decode b_C_spendSlice 11 = .ok (.ifCond .ne 11, 3) := by decide +kernel
theorem d_C_spendSlice_14 : decode b_C_spendSlice 14 = .ok (.aload_n 1, 1) := by decide +kernel
theorem d_C_spendSlice_15 : decode b_C_spendSlice 15 = .ok (.getfield 105, 3) := by decide +kernel
theorem d_C_spendSlice_18 : decode b_C_spendSlice 18 = .ok (.iconst 3, 1) := by decide +kernel
theorem d_C_spendSlice_19 : decode b_C_spendSlice 19 = .ok (.if_icmp .ne 24, 3) := by decide +kernel
theorem d_C_spendSlice_22 : decode b_C_spendSlice 22 = .ok (.aload_n 0, 1) := by decide +kernel
theorem d_C_spendSlice_23 : decode b_C_spendSlice 23 = .ok (.getfield 23, 3) := by decide +kernel
theorem d_C_spendSlice_26 : decode b_C_spendSlice 26 = .ok (.aload_n 1, 1) := by decide +kernel
theorem d_C_spendSlice_27 : decode b_C_spendSlice 27 = .ok (.getfield 88, 3) := by decide +kernel
theorem d_C_spendSlice_30 : decode b_C_spendSlice 30 = .ok (.aaload, 1) := by decide +kernel
theorem d_C_spendSlice_31 : decode b_C_spendSlice 31 = .ok (.aload_n 1, 1) := by decide +kernel
theorem d_C_spendSlice_32 : decode b_C_spendSlice 32 = .ok (.getfield 73, 3) := by decide +kernel
theorem d_C_spendSlice_35 : decode b_C_spendSlice 35 = .ok (.invokevirtual 80, 3) := by decide +kernel
theorem d_C_spendSlice_38 : decode b_C_spendSlice 38 = .ok (.aload_n 0, 1) := by decide +kernel
theorem d_C_spendSlice_39 : decode b_C_spendSlice 39 = .ok (.aload_n 1, 1) := by decide +kernel
theorem d_C_spendSlice_40 : decode b_C_spendSlice 40 = .ok (.invokevirtual 94, 3) := by decide +kernel
theorem d_C_spendSlice_43 : decode b_C_spendSlice 43 = .ok (.return_, 1) := by decide +kernel
theorem d_C_perform_0 : decode b_C_perform 0 = .ok (.aload_n 1, 1) := by decide +kernel
theorem d_C_perform_1 : decode b_C_perform 1 = .ok (.getfield 99, 3) := by decide +kernel
theorem d_C_perform_4 : decode b_C_perform 4 = .ok (.astore 5, 2) := by decide +kernel
theorem d_C_perform_6 : decode b_C_perform 6 = .ok (.aload_n 1, 1) := by decide +kernel
theorem d_C_perform_7 : decode b_C_perform 7 = .ok (.getfield 102, 3) := by decide +kernel
theorem d_C_perform_10 : decode b_C_perform 10 = .ok (.iconst 1, 1) := by decide +kernel
theorem d_C_perform_11 : decode b_C_perform 11 = .ok (.iadd, 1) := by decide +kernel
theorem d_C_perform_12 : decode b_C_perform 12 = .ok (.istore 6, 2) := by decide +kernel
theorem d_C_perform_14 : decode b_C_perform 14 = .ok (.iload_n 2, 1) := by decide +kernel
theorem d_C_perform_15 : decode b_C_perform 15 = .ok (.tableswitch 217 0 11 #[61, 70, 85, 85, 85, 97, 116, 146, 174, 183, 195, 206], 61) := by decide +kernel
theorem d_C_perform_76 : decode b_C_perform 76 = .ok (.aload 5, 2) := by decide +kernel
theorem d_C_perform_78 : decode b_C_perform 78 = .ok (.iload_n 3, 1) := by decide +kernel
theorem d_C_perform_79 : decode b_C_perform 79 = .ok (.iload 4, 2) := by decide +kernel
theorem d_C_perform_81 : decode b_C_perform 81 = .ok (.iastore, 1) := by decide +kernel
theorem d_C_perform_82 : decode b_C_perform 82 = .ok (.goto 150, 3) := by decide +kernel
theorem d_C_perform_85 : decode b_C_perform 85 = .ok (.aload 5, 2) := by decide +kernel
theorem d_C_perform_87 : decode b_C_perform 87 = .ok (.iload_n 3, 1) := by decide +kernel
theorem d_C_perform_88 : decode b_C_perform 88 = .ok (.dup2, 1) := by decide +kernel
theorem d_C_perform_89 : decode b_C_perform 89 = .ok (.iaload, 1) := by decide +kernel
theorem d_C_perform_90 : decode b_C_perform 90 = .ok (.aload 5, 2) := by decide +kernel
theorem d_C_perform_92 : decode b_C_perform 92 = .ok (.iload 4, 2) := by decide +kernel
theorem d_C_perform_94 : decode b_C_perform 94 = .ok (.iaload, 1) := by decide +kernel
theorem d_C_perform_95 : decode b_C_perform 95 = .ok (.iadd, 1) := by decide +kernel
theorem d_C_perform_96 : decode b_C_perform 96 = .ok (.iastore, 1) := by decide +kernel
theorem d_C_perform_97 : decode b_C_perform 97 = .ok (.goto 135, 3) := by decide +kernel
theorem d_C_perform_100 : decode b_C_perform 100 = .ok (.aload_n 0, 1) := by decide +kernel
theorem d_C_perform_101 : decode b_C_perform 101 = .ok (.aload_n 1, 1) := by decide +kernel
theorem d_C_perform_102 : decode b_C_perform 102 = .ok (.iload_n 2, 1) := by decide +kernel
theorem d_C_perform_103 : decode b_C_perform 103 = .ok (.iload_n 3, 1) := by decide +kernel
theorem d_C_perform_104 : decode b_C_perform 104 = .ok (.iload 4, 2) := by decide +kernel
theorem d_C_perform_106 : decode b_C_perform 106 = .ok (.invokevirtual 198, 3) := by decide +kernel
theorem d_C_perform_109 : decode b_C_perform 109 = .ok (.goto 123, 3) := by decide +kernel
theorem d_C_perform_112 : decode b_C_perform 112 = .ok (.aload 5, 2) := by decide +kernel
theorem d_C_perform_114 : decode b_C_perform 114 = .ok (.iload_n 3, 1) := by decide +kernel
theorem d_C_perform_115 : decode b_C_perform 115 = .ok (.iaload, 1) := by decide +kernel
theorem d_C_perform_116 : decode b_C_perform 116 = .ok (.ifCond .eq 8, 3) := by decide +kernel
theorem d_C_perform_119 : decode b_C_perform 119 = .ok (.iload 4, 2) := by decide +kernel
theorem d_C_perform_121 : decode b_C_perform 121 = .ok (.goto 5, 3) := by decide +kernel
theorem d_C_perform_124 : decode b_C_perform 124 = .ok (.iload 6, 2) := by decide +kernel
theorem d_C_perform_126 : decode b_C_perform 126 = .ok (.istore 6, 2) := by decide +kernel
theorem d_C_perform_128 : decode b_C_perform 128 = .ok (.goto 104, 3) := by decide +kernel
theorem d_C_perform_131 : decode b_C_perform 131 = .ok (.aload 5, 2) := by decide +kernel
theorem d_C_perform_133 : decode b_C_perform 133 = .ok (.iload_n 3, 1) := by decide +kernel
theorem d_C_perform_134 : decode b_C_perform 134 = .ok (.aload_n 0, 1) := by decide +kernel
theorem d_C_perform_135 : decode b_C_perform 135 = .ok (.getfield 55, 3) := by decide +kernel
theorem d_C_perform_138 : decode b_C_perform 138 = .ok (.bipush 8, 2) := by decide +kernel
theorem d_C_perform_140 : decode b_C_perform 140 = .ok (.if_icmp .ne 7, 3) := by decide +kernel
theorem d_C_perform_143 : decode b_C_perform 143 = .ok (.iconst (-1), 1) := by decide +kernel
theorem d_C_perform_144 : decode b_C_perform 144 = .ok (.goto 13, 3) := by decide +kernel
theorem d_C_perform_147 : decode b_C_perform 147 = .ok (.aload_n 0, 1) := by decide +kernel
theorem d_C_perform_148 : decode b_C_perform 148 = .ok (.iload 4, 2) := by decide +kernel
theorem d_C_perform_150 : decode b_C_perform 150 = .ok (.aload_n 1, 1) := by decide +kernel
theorem d_C_perform_151 : decode b_C_perform 151 = .ok (.getfield 88, 3) := by decide +kernel
theorem d_C_perform_154 : decode b_C_perform 154 = .ok (.invokevirtual 58, 3) := by decide +kernel
theorem d_C_perform_157 : decode b_C_perform 157 = .ok (.iastore, 1) := by decide +kernel
theorem d_C_perform_158 : decode b_C_perform 158 = .ok (.goto 74, 3) := by decide +kernel
theorem d_C_perform_161 : decode b_C_perform 161 = .ok (.aload_n 0, 1) := by decide +kernel
theorem d_C_perform_162 : decode b_C_perform 162 = .ok (.aload_n 1, 1) := by decide +kernel
theorem d_C_perform_163 : decode b_C_perform 163 = .ok (.iload_n 3, 1) := by decide +kernel
theorem d_C_perform_164 : decode b_C_perform 164 = .ok (.invokevirtual 201, 3) := by decide +kernel
theorem d_C_perform_167 : decode b_C_perform 167 = .ok (.aload_n 1, 1) := by decide +kernel
theorem d_C_perform_168 : decode b_C_perform 168 = .ok (.getfield 70, 3) := by decide +kernel
theorem d_C_perform_171 : decode b_C_perform 171 = .ok (.iconst 3, 1) := by decide +kernel
theorem d_C_perform_172 : decode b_C_perform 172 = .ok (.if_icmp .ne 10, 3) := by decide +kernel
theorem d_C_perform_175 : decode b_C_perform 175 = .ok (.aload_n 1, 1) := by decide +kernel
theorem d_C_perform_176 : decode b_C_perform 176 = .ok (.getfield 102, 3) := by decide +kernel
theorem d_C_perform_179 : decode b_C_perform 179 = .ok (.goto 5, 3) := by decide +kernel
theorem d_C_perform_182 : decode b_C_perform 182 = .ok (.iload 6, 2) := by decide +kernel
theorem d_C_perform_184 : decode b_C_perform 184 = .ok (.istore 6, 2) := by decide +kernel
theorem d_C_perform_186 : decode b_C_perform 186 = .ok (.goto 46, 3) := by decide +kernel
theorem d_C_perform_189 : decode b_C_perform 189 = .ok (.aload_n 0, 1) := by decide +kernel
theorem d_C_perform_190 : decode b_C_perform 190 = .ok (.aload_n 1, 1) := by decide +kernel
theorem d_C_perform_191 : decode b_C_perform 191 = .ok (.iload_n 3, 1) := by decide +kernel
theorem d_C_perform_192 : decode b_C_perform 192 = .ok (.invokevirtual 204, 3) := by decide +kernel
theorem d_C_perform_195 : decode b_C_perform 195 = .ok (.goto 37, 3) := by decide +kernel
theorem d_C_perform_198 : decode b_C_perform 198 = .ok (.aload_n 0, 1) := by decide +kernel
theorem d_C_perform_199 : decode b_C_perform 199 = .ok (.aload_n 1, 1) := by decide +kernel
theorem d_C_perform_200 : decode b_C_perform 200 = .ok (.aload 5, 2) := by decide +kernel
theorem d_C_perform_202 : decode b_C_perform 202 = .ok (.iload_n 3, 1) := by decide +kernel
theorem d_C_perform_203 : decode b_C_perform 203 = .ok (.iaload, 1) := by decide +kernel
theorem d_C_perform_204 : decode b_C_perform 204 = .ok (.invokevirtual 163, 3) := by decide +kernel
theorem d_C_perform_207 : decode b_C_perform 207 = .ok (.goto 25, 3) := by decide +kernel
theorem d_C_perform_210 : decode b_C_perform 210 = .ok (.aload 5, 2) := by decide +kernel
theorem d_C_perform_212 : decode b_C_perform 212 = .ok (.iload_n 3, 1) := by decide +kernel
theorem d_C_perform_213 : decode b_C_perform 213 = .ok (.aload_n 1, 1) := by decide +kernel
theorem d_C_perform_214 : decode b_C_perform 214 = .ok (.getfield 73, 3) := by decide +kernel
theorem d_C_perform_217 : decode b_C_perform 217 = .ok (.iastore, 1) := by decide +kernel
theorem d_C_perform_218 : decode b_C_perform 218 = .ok (.goto 14, 3) := by decide +kernel
theorem d_C_perform_221 : decode b_C_perform 221 = .ok (.aload 5, 2) := by decide +kernel
theorem d_C_perform_223 : decode b_C_perform 223 = .ok (.iload_n 3, 1) := by decide +kernel
theorem d_C_perform_224 : decode b_C_perform 224 = .ok (.aload_n 1, 1) := by decide +kernel
theorem d_C_perform_225 : decode b_C_perform 225 = .ok (.getfield 88, 3) := by decide +kernel
theorem d_C_perform_228 : decode b_C_perform 228 = .ok (.iastore, 1) := by decide +kernel
theorem d_C_perform_229 : decode b_C_perform 229 = .ok (.goto 3, 3) := by decide +kernel
theorem d_C_perform_232 : decode b_C_perform 232 = .ok (.aload_n 1, 1) := by decide +kernel
theorem d_C_perform_233 : decode b_C_perform 233 = .ok (.iload 6, 2) := by decide +kernel
theorem d_C_perform_235 : decode b_C_perform 235 = .ok (.putfield 102, 3) := by decide +kernel
theorem d_C_perform_238 : decode b_C_perform 238 = .ok (.return_, 1) := by decide +kernel
theorem d_C_accessMemory_0 : decode b_C_accessMemory 0 = .ok (.aload_n 1, 1) := by decide +kernel
theorem d_C_accessMemory_1 : decode b_C_accessMemory 1 = .ok (.getfield 99, 3) := by decide +kernel
theorem d_C_accessMemory_4 : decode b_C_accessMemory 4 = .ok (.astore 5, 2) := by decide +kernel
theorem d_C_accessMemory_6 : decode b_C_accessMemory 6 = .ok (.aload 5, 2) := by decide +kernel
theorem d_C_accessMemory_8 : decode b_C_accessMemory 8 = .ok (.iload 4, 2) := by decide +kernel
theorem d_C_accessMemory_10 : decode b_C_accessMemory 10 = .ok (.iaload, 1) := by decide +kernel
theorem d_C_accessMemory_11 : decode b_C_accessMemory 11 = .ok (.invokestatic 179, 3) := by decide +kernel
theorem d_C_accessMemory_14 : decode b_C_accessMemory 14 = .ok (.istore 6, 2) := by decide +kernel
theorem d_C_accessMemory_16 : decode b_C_accessMemory 16 = .ok (.aload_n 0, 1) := by decide +kernel
theorem d_C_accessMemory_17 : decode b_C_accessMemory 17 = .ok (.aload_n 0, 1) := by decide +kernel
theorem d_C_accessMemory_18 : decode b_C_accessMemory 18 = .ok (.getfield 29, 3) := by decide +kernel
theorem d_C_accessMemory_21 : decode b_C_accessMemory 21 = .ok (.iload 6, 2) := by decide +kernel
theorem d_C_accessMemory_23 : decode b_C_accessMemory 23 = .ok (.iconst 4, 1) := by decide +kernel
theorem d_C_accessMemory_24 : decode b_C_accessMemory 24 = .ok (.idiv, 1) := by decide +kernel
theorem d_C_accessMemory_25 : decode b_C_accessMemory 25 = .ok (.aaload, 1) := by decide +kernel
theorem d_C_accessMemory_26 : decode b_C_accessMemory 26 = .ok (.aload_n 1, 1) := by decide +kernel
theorem d_C_accessMemory_27 : decode b_C_accessMemory 27 = .ok (.getfield 88, 3) := by decide +kernel
theorem d_C_accessMemory_30 : decode b_C_accessMemory 30 = .ok (.invokevirtual 207, 3) := by decide +kernel
theorem d_C_accessMemory_33 : decode b_C_accessMemory 33 = .ok (.iload_n 2, 1) := by decide +kernel
theorem d_C_accessMemory_34 : decode b_C_accessMemory 34 = .ok (.iconst 2, 1) := by decide +kernel
theorem d_C_accessMemory_35 : decode b_C_accessMemory 35 = .ok (.if_icmp .ne 17, 3) := by decide +kernel
theorem d_C_accessMemory_38 : decode b_C_accessMemory 38 = .ok (.aload 5, 2) := by decide +kernel
theorem d_C_accessMemory_40 : decode b_C_accessMemory 40 = .ok (.iload_n 3, 1) := by decide +kernel
theorem d_C_accessMemory_41 : decode b_C_accessMemory 41 = .ok (.aload_n 0, 1) := by decide +kernel
theorem d_C_accessMemory_42 : decode b_C_accessMemory 42 = .ok (.getfield 33, 3) := by decide +kernel
theorem d_C_accessMemory_45 : decode b_C_accessMemory 45 = .ok (.iload 6, 2) := by decide +kernel
theorem d_C_accessMemory_47 : decode b_C_accessMemory 47 = .ok (.iaload, 1) := by decide +kernel
theorem d_C_accessMemory_48 : decode b_C_accessMemory 48 = .ok (.iastore, 1) := by decide +kernel
theorem d_C_accessMemory_49 : decode b_C_accessMemory 49 = .ok (.goto 60, 3) := by decide +kernel
theorem d_C_accessMemory_52 : decode b_C_accessMemory 52 = .ok (.iload_n 2, 1) := by decide +kernel
theorem d_C_accessMemory_53 : decode b_C_accessMemory 53 = .ok (.iconst 3, 1) := by decide +kernel
theorem d_C_accessMemory_54 : decode b_C_accessMemory 54 = .ok (.if_icmp .ne 17, 3) := by decide +kernel
theorem d_C_accessMemory_57 : decode b_C_accessMemory 57 = .ok (.aload_n 0, 1) := by decide +kernel
theorem d_C_accessMemory_58 : decode b_C_accessMemory 58 = .ok (.getfield 33, 3) := by decide +kernel
theorem d_C_accessMemory_61 : decode b_C_accessMemory 61 = .ok (.iload 6, 2) := by decide +kernel
theorem d_C_accessMemory_63 : decode b_C_accessMemory 63 = .ok (.aload 5, 2) := by decide +kernel
theorem d_C_accessMemory_65 : decode b_C_accessMemory 65 = .ok (.iload_n 3, 1) := by decide +kernel
theorem d_C_accessMemory_66 : decode b_C_accessMemory 66 = .ok (.iaload, 1) := by decide +kernel
theorem d_C_accessMemory_67 : decode b_C_accessMemory 67 = .ok (.iastore, 1) := by decide +kernel
theorem d_C_accessMemory_68 : decode b_C_accessMemory 68 = .ok (.goto 41, 3) := by decide +kernel
theorem d_C_accessMemory_71 : decode b_C_accessMemory 71 = .ok (.aload_n 0, 1) := by decide +kernel
theorem d_C_accessMemory_72 : decode b_C_accessMemory 72 = .ok (.getfield 33, 3) := by decide +kernel
theorem d_C_accessMemory_75 : decode b_C_accessMemory 75 = .ok (.iload 6, 2) := by decide +kernel
theorem d_C_accessMemory_77 : decode b_C_accessMemory 77 = .ok (.iaload, 1) := by decide +kernel
theorem d_C_accessMemory_78 : decode b_C_accessMemory 78 = .ok (.aload 5, 2) := by decide +kernel
theorem d_C_accessMemory_80 : decode b_C_accessMemory 80 = .ok (.iconst 3, 1) := by decide +kernel
theorem d_C_accessMemory_81 : decode b_C_accessMemory 81 = .ok (.iaload, 1) := by decide +kernel
theorem d_C_accessMemory_82 : decode b_C_accessMemory 82 = .ok (.if_icmp .ne 22, 3) := by decide +kernel
theorem d_C_accessMemory_85 : decode b_C_accessMemory 85 = .ok (.aload_n 0, 1) := by decide +kernel
theorem d_C_accessMemory_86 : decode b_C_accessMemory 86 = .ok (.getfield 33, 3) := by decide +kernel
theorem d_C_accessMemory_89 : decode b_C_accessMemory 89 = .ok (.iload 6, 2) := by decide +kernel
theorem d_C_accessMemory_91 : decode b_C_accessMemory 91 = .ok (.aload 5, 2) := by decide +kernel
theorem d_C_accessMemory_93 : decode b_C_accessMemory 93 = .ok (.iload_n 3, 1) := by decide +kernel
theorem d_C_accessMemory_94 : decode b_C_accessMemory 94 = .ok (.iaload, 1) := by decide +kernel
theorem d_C_accessMemory_95 : decode b_C_accessMemory 95 = .ok (.iastore, 1) := by decide +kernel
theorem d_C_accessMemory_96 : decode b_C_accessMemory 96 = .ok (.aload 5, 2) := by decide +kernel
theorem d_C_accessMemory_98 : decode b_C_accessMemory 98 = .ok (.iconst 3, 1) := by decide +kernel
theorem d_C_accessMemory_99 : decode b_C_accessMemory 99 = .ok (.iconst 1, 1) := by decide +kernel
theorem d_C_accessMemory_100 : decode b_C_accessMemory 100 = .ok (.iastore, 1) := by decide +kernel
theorem d_C_accessMemory_101 : decode b_C_accessMemory 101 = .ok (.goto 8, 3) := by decide +kernel
theorem d_C_accessMemory_104 : decode b_C_accessMemory 104 = .ok (.aload 5, 2) := by decide +kernel
theorem d_C_accessMemory_106 : decode b_C_accessMemory 106 = .ok (.iconst 3, 1) := by decide +kernel
theorem d_C_accessMemory_107 : decode b_C_accessMemory 107 = .ok (.iconst 0, 1) := by decide +kernel
theorem d_C_accessMemory_108 : decode b_C_accessMemory 108 = .ok (.iastore, 1) := by decide +kernel
theorem d_C_accessMemory_109 : decode b_C_accessMemory 109 = .ok (.return_, 1) := by decide +kernel
theorem d_C_isOther_0 : decode b_C_isOther 0 = .ok (.iload_n 2, 1) := by decide +kernel
theorem d_C_isOther_1 : decode b_C_isOther 1 = .ok (.aload_n 0, 1) := by decide +kernel
theorem d_C_isOther_2 : decode b_C_isOther 2 = .ok (.getfield 55, 3) := by decide +kernel
theorem d_C_isOther_5 : decode b_C_isOther 5 = .ok (.invokestatic 40, 3) := by decide +kernel
theorem d_C_isOther_8 : decode b_C_isOther 8 = .ok (.ifCond .eq 15, 3) := by decide +kernel
theorem d_C_isOther_11 : decode b_C_isOther 11 = .ok (.iload_n 2, 1) := by decide +kernel
theorem d_C_isOther_12 : decode b_C_isOther 12 = .ok (.aload_n 1, 1) := by decide +kernel
theorem d_C_isOther_13 : decode b_C_isOther 13 = .ok (.getfield 73, 3) := by decide +kernel
theorem d_C_isOther_16 : decode b_C_isOther 16 = .ok (.if_icmp .eq 7, 3) := by decide +kernel
theorem d_C_isOther_19 : decode b_C_isOther 19 = .ok (.iconst 1, 1) := by decide +kernel
theorem d_C_isOther_20 : decode b_C_isOther 20 = .ok (.goto 4, 3) := by decide +kernel
theorem d_C_isOther_23 : decode b_C_isOther 23 = .ok (.iconst 0, 1) := by decide +kernel
theorem d_C_isOther_24 : decode b_C_isOther 24 = .ok (.ireturn, 1) := by decide +kernel
theorem d_C_waitFor_0 : decode b_C_waitFor 0 = .ok (.aload_n 1, 1) := by decide +kernel
theorem d_C_waitFor_1 : decode b_C_waitFor 1 = .ok (.getfield 99, 3) := by decide +kernel
theorem d_C_waitFor_4 : decode b_C_waitFor 4 = .ok (.iload_n 2, 1) := by decide +kernel
theorem d_C_waitFor_5 : decode b_C_waitFor 5 = .ok (.iaload, 1) := by decide +kernel
theorem d_C_waitFor_6 : decode b_C_waitFor 6 = .ok (.istore_n 3, 1) := by decide +kernel
theorem d_C_waitFor_7 : decode b_C_waitFor 7 = .ok (.aload_n 0, 1) := by decide +kernel
theorem d_C_waitFor_8 : decode b_C_waitFor 8 = .ok (.aload_n 1, 1) := by decide +kernel
theorem d_C_waitFor_9 : decode b_C_waitFor 9 = .ok (.iload_n 3, 1) := by decide +kernel
theorem d_C_waitFor_10 : decode b_C_waitFor 10 = .ok (.invokevirtual 211, 3) := by decide +kernel
theorem d_C_waitFor_13 : decode b_C_waitFor 13 = .ok (.ifCond .ne 13, 3) := by decide +kernel
theorem d_C_waitFor_16 : decode b_C_waitFor 16 = .ok (.aload_n 1, 1) := by decide +kernel
theorem d_C_waitFor_17 : decode b_C_waitFor 17 = .ok (.getfield 99, 3) := by decide +kernel
theorem d_C_waitFor_20 : decode b_C_waitFor 20 = .ok (.iload_n 2, 1) := by decide +kernel
theorem d_C_waitFor_21 : decode b_C_waitFor 21 = .ok (.iconst (-1), 1) := by decide +kernel
theorem d_C_waitFor_22 : decode b_C_waitFor 22 = .ok (.iastore, 1) := by decide +kernel
theorem d_C_waitFor_23 : decode b_C_waitFor 23 = .ok (.goto 45, 3) := by decide +kernel
theorem d_C_waitFor_26 : decode b_C_waitFor 26 = .ok (.aload_n 0, 1) := by decide +kernel
theorem d_C_waitFor_27 : decode b_C_waitFor 27 = .ok (.getfield 17, 3) := by decide +kernel
theorem d_C_waitFor_30 : decode b_C_waitFor 30 = .ok (.iload_n 3, 1) := by decide +kernel
theorem d_C_waitFor_31 : decode b_C_waitFor 31 = .ok (.aaload, 1) := by decide +kernel
theorem d_C_waitFor_32 : decode b_C_waitFor 32 = .ok (.getfield 70, 3) := by decide +kernel
theorem d_C_waitFor_35 : decode b_C_waitFor 35 = .ok (.iconst 4, 1) := by decide +kernel
theorem d_C_waitFor_36 : decode b_C_waitFor 36 = .ok (.if_icmp .ne 21, 3) := by decide +kernel
theorem d_C_waitFor_39 : decode b_C_waitFor 39 = .ok (.aload_n 1, 1) := by decide +kernel
theorem d_C_waitFor_40 : decode b_C_waitFor 40 = .ok (.getfield 99, 3) := by decide +kernel
theorem d_C_waitFor_43 : decode b_C_waitFor 43 = .ok (.iload_n 2, 1) := by decide +kernel
theorem d_C_waitFor_44 : decode b_C_waitFor 44 = .ok (.aload_n 0, 1) := by decide +kernel
theorem d_C_waitFor_45 : decode b_C_waitFor 45 = .ok (.getfield 17, 3) := by decide +kernel
theorem d_C_waitFor_48 : decode b_C_waitFor 48 = .ok (.iload_n 3, 1) := by decide +kernel
theorem d_C_waitFor_49 : decode b_C_waitFor 49 = .ok (.aaload, 1) := by decide +kernel
theorem d_C_waitFor_50 : decode b_C_waitFor 50 = .ok (.getfield 108, 3) := by decide +kernel
theorem d_C_waitFor_53 : decode b_C_waitFor 53 = .ok (.iastore, 1) := by decide +kernel
theorem d_C_waitFor_54 : decode b_C_waitFor 54 = .ok (.goto 14, 3) := by decide +kernel
theorem d_C_waitFor_57 : decode b_C_waitFor 57 = .ok (.aload_n 0, 1) := by decide +kernel
theorem d_C_waitFor_58 : decode b_C_waitFor 58 = .ok (.aload_n 1, 1) := by decide +kernel
theorem d_C_waitFor_59 : decode b_C_waitFor 59 = .ok (.iconst 3, 1) := by decide +kernel
theorem d_C_waitFor_60 : decode b_C_waitFor 60 = .ok (.invokevirtual 153, 3) := by decide +kernel
theorem d_C_waitFor_63 : decode b_C_waitFor 63 = .ok (.aload_n 1, 1) := by decide +kernel
theorem d_C_waitFor_64 : decode b_C_waitFor 64 = .ok (.iload_n 3, 1) := by decide +kernel
theorem d_C_waitFor_65 : decode b_C_waitFor 65 = .ok (.putfield 157, 3) := by decide +kernel
theorem d_C_waitFor_68 : decode b_C_waitFor 68 = .ok (.return_, 1) := by decide +kernel
theorem d_C_killOther_0 : decode b_C_killOther 0 = .ok (.aload_n 1, 1) := by decide +kernel
theorem d_C_killOther_1 : decode b_C_killOther 1 = .ok (.getfield 99, 3) := by decide +kernel
theorem d_C_killOther_4 : decode b_C_killOther 4 = .ok (.iload_n 2, 1) := by decide +kernel
theorem d_C_killOther_5 : decode b_C_killOther 5 = .ok (.iaload, 1) := by decide +kernel
theorem d_C_killOther_6 : decode b_C_killOther 6 = .ok (.istore_n 3, 1) := by decide +kernel
theorem d_C_killOther_7 : decode b_C_killOther 7 = .ok (.aload_n 0, 1) := by decide +kernel
theorem d_C_killOther_8 : decode b_C_killOther 8 = .ok (.aload_n 1, 1) := by decide +kernel
theorem d_C_killOther_9 : decode b_C_killOther 9 = .ok (.iload_n 3, 1) := by decide +kernel
theorem d_C_killOther_10 : decode b_C_killOther 10 = .ok (.invokevirtual 211, 3) := by decide +kernel
theorem d_C_killOther_13 : decode b_C_killOther 13 = .ok (.ifCond .eq 16, 3) := by decide +kernel
theorem d_C_killOther_16 : decode b_C_killOther 16 = .ok (.aload_n 0, 1) := by decide +kernel
theorem d_C_killOther_17 : decode b_C_killOther 17 = .ok (.getfield 17, 3) := by decide +kernel
theorem d_C_killOther_20 : decode b_C_killOther 20 = .ok (.iload_n 3, 1) := by decide +kernel
theorem d_C_killOther_21 : decode b_C_killOther 21 = .ok (.aaload, 1) := by decide +kernel
theorem d_C_killOther_22 : decode b_C_killOther 22 = .ok (.getfield 70, 3) := by decide +kernel
theorem d_C_killOther_25 : decode b_C_killOther 25 = .ok (.iconst 4, 1) := by decide +kernel
theorem d_C_killOther_26 : decode b_C_killOther 26 = .ok (.if_icmp .ne 13, 3) := by decide +kernel
theorem d_C_killOther_29 : decode b_C_killOther 29 = .ok (.aload_n 1, 1) := by decide +kernel
theorem d_C_killOther_30 : decode b_C_killOther 30 = .ok (.getfield 99, 3) := by decide +kernel
theorem d_C_killOther_33 : decode b_C_killOther 33 = .ok (.iload_n 2, 1) := by decide +kernel
theorem d_C_killOther_34 : decode b_C_killOther 34 = .ok (.iconst (-1), 1) := by decide +kernel
theorem d_C_killOther_35 : decode b_C_killOther 35 = .ok (.iastore, 1) := by decide +kernel
theorem d_C_killOther_36 : decode b_C_killOther 36 = .ok (.goto 22, 3) := by decide +kernel
theorem d_C_killOther_39 : decode b_C_killOther 39 = .ok (.aload_n 0, 1) := by decide +kernel
theorem d_C_killOther_40 : decode b_C_killOther 40 = .ok (.aload_n 0, 1) := by decide +kernel
theorem d_C_killOther_41 : decode b_C_killOther 41 = .ok (.getfield 17, 3) := by decide +kernel
theorem d_C_killOther_44 : decode b_C_killOther 44 = .ok (.iload_n 3, 1) := by decide +kernel
theorem d_C_killOther_45 : decode b_C_killOther 45 = .ok (.aaload, 1) := by decide +kernel
theorem d_C_killOther_46 : decode b_C_killOther 46 = .ok (.bipush (-9), 2) := by decide +kernel
theorem d_C_killOther_48 : decode b_C_killOther 48 = .ok (.invokevirtual 163, 3) := by decide +kernel
theorem d_C_killOther_51 : decode b_C_killOther 51 = .ok (.aload_n 1, 1) := by decide +kernel
theorem d_C_killOther_52 : decode b_C_killOther 52 = .ok (.getfield 99, 3) := by decide +kernel
theorem d_C_killOther_55 : decode b_C_killOther 55 = .ok (.iload_n 2, 1) := by decide +kernel
theorem d_C_killOther_56 : decode b_C_killOther 56 = .ok (.iconst 0, 1) := by decide +kernel
theorem d_C_killOther_57 : decode b_C_killOther 57 = .ok (.iastore, 1) := by decide +kernel
theorem d_C_killOther_58 : decode b_C_killOther 58 = .ok (.return_, 1) := by decide +kernel
theorem d_C_usePage_0 : decode b_C_usePage 0 = .ok (.aload_n 0, 1) := by decide +kernel
theorem d_C_usePage_1 : decode b_C_usePage 1 = .ok (.dup, 1) := by decide +kernel
theorem d_C_usePage_2 : decode b_C_usePage 2 = .ok (.getfield 215, 3) := by decide +kernel
theorem d_C_usePage_5 : decode b_C_usePage 5 = .ok (.iconst 1, 1) := by decide +kernel
theorem d_C_usePage_6 : decode b_C_usePage 6 = .ok (.iadd, 1) := by decide +kernel
theorem d_C_usePage_7 : decode b_C_usePage 7 = .ok (.putfield 215, 3) := by decide +kernel
theorem d_C_usePage_10 : decode b_C_usePage 10 = .ok (.aload_n 1, 1) := by decide +kernel
theorem d_C_usePage_11 : decode b_C_usePage 11 = .ok (.getfield 218, 3) := by decide +kernel
theorem d_C_usePage_14 : decode b_C_usePage 14 = .ok (.iload_n 2, 1) := by decide +kernel
theorem d_C_usePage_15 : decode b_C_usePage 15 = .ok (.aload_n 0, 1) := by decide +kernel
theorem d_C_usePage_16 : decode b_C_usePage 16 = .ok (.getfield 215, 3) := by decide +kernel
theorem d_C_usePage_19 : decode b_C_usePage 19 = .ok (.iastore, 1) := by decide +kernel
theorem d_C_usePage_20 : decode b_C_usePage 20 = .ok (.return_, 1) := by decide +kernel
theorem d_C_grantRequest_0 : decode b_C_grantRequest 0 = .ok (.aload_n 2, 1) := by decide +kernel
theorem d_C_grantRequest_1 : decode b_C_grantRequest 1 = .ok (.getfield 88, 3) := by decide +kernel
theorem d_C_grantRequest_4 : decode b_C_grantRequest 4 = .ok (.istore_n 3, 1) := by decide +kernel
theorem d_C_grantRequest_5 : decode b_C_grantRequest 5 = .ok (.aload_n 0, 1) := by decide +kernel
theorem d_C_grantRequest_6 : decode b_C_grantRequest 6 = .ok (.dup, 1) := by decide +kernel
theorem d_C_grantRequest_7 : decode b_C_grantRequest 7 = .ok (.getfield 140, 3) := by decide +kernel
theorem d_C_grantRequest_10 : decode b_C_grantRequest 10 = .ok (.iconst 1, 1) := by decide +kernel
theorem d_C_grantRequest_11 : decode b_C_grantRequest 11 = .ok (.iadd, 1) := by decide +kernel
theorem d_C_grantRequest_12 : decode b_C_grantRequest 12 = .ok (.putfield 140, 3) := by decide +kernel
theorem d_C_grantRequest_15 : decode b_C_grantRequest 15 = .ok (.aload_n 0, 1) := by decide +kernel
theorem d_C_grantRequest_16 : decode b_C_grantRequest 16 = .ok (.dup, 1) := by decide +kernel
theorem d_C_grantRequest_17 : decode b_C_grantRequest 17 = .ok (.getfield 124, 3) := by decide +kernel
theorem d_C_grantRequest_20 : decode b_C_grantRequest 20 = .ok (.iconst 1, 1) := by decide +kernel
theorem d_C_grantRequest_21 : decode b_C_grantRequest 21 = .ok (.iadd, 1) := by decide +kernel
theorem d_C_grantRequest_22 : decode b_C_grantRequest 22 = .ok (.putfield 124, 3) := by decide +kernel
theorem d_C_grantRequest_25 : decode b_C_grantRequest 25 = .ok (.aload_n 1, 1) := by decide +kernel
theorem d_C_grantRequest_26 : decode b_C_grantRequest 26 = .ok (.getfield 118, 3) := by decide +kernel
theorem d_C_grantRequest_29 : decode b_C_grantRequest 29 = .ok (.iload_n 3, 1) := by decide +kernel
theorem d_C_grantRequest_30 : decode b_C_grantRequest 30 = .ok (.iaload, 1) := by decide +kernel
theorem d_C_grantRequest_31 : decode b_C_grantRequest 31 = .ok (.ifCond .ne 18, 3) := by decide +kernel
theorem d_C_grantRequest_34 : decode b_C_grantRequest 34 = .ok (.aload_n 0, 1) := by decide +kernel
theorem d_C_grantRequest_35 : decode b_C_grantRequest 35 = .ok (.dup, 1) := by decide +kernel
theorem d_C_grantRequest_36 : decode b_C_grantRequest 36 = .ok (.getfield 124, 3) := by decide +kernel
theorem d_C_grantRequest_39 : decode b_C_grantRequest 39 = .ok (.iconst 1, 1) := by decide +kernel
theorem d_C_grantRequest_40 : decode b_C_grantRequest 40 = .ok (.iadd, 1) := by decide +kernel
theorem d_C_grantRequest_41 : decode b_C_grantRequest 41 = .ok (.putfield 124, 3) := by decide +kernel
theorem d_C_grantRequest_44 : decode b_C_grantRequest 44 = .ok (.aload_n 0, 1) := by decide +kernel
theorem d_C_grantRequest_45 : decode b_C_grantRequest 45 = .ok (.iload_n 3, 1) := by decide +kernel
theorem d_C_grantRequest_46 : decode b_C_grantRequest 46 = .ok (.invokevirtual 221, 3) := by decide +kernel
theorem d_C_grantRequest_49 : decode b_C_grantRequest 49 = .ok (.aload_n 2, 1) := by decide +kernel
theorem d_C_grantRequest_50 : decode b_C_grantRequest 50 = .ok (.getfield 195, 3) := by decide +kernel
theorem d_C_grantRequest_53 : decode b_C_grantRequest 53 = .ok (.iconst 2, 1) := by decide +kernel
theorem d_C_grantRequest_54 : decode b_C_grantRequest 54 = .ok (.if_icmp .ne 20, 3) := by decide +kernel
theorem d_C_grantRequest_57 : decode b_C_grantRequest 57 = .ok (.aload_n 0, 1) := by decide +kernel
theorem d_C_grantRequest_58 : decode b_C_grantRequest 58 = .ok (.dup, 1) := by decide +kernel
theorem d_C_grantRequest_59 : decode b_C_grantRequest 59 = .ok (.getfield 124, 3) := by decide +kernel
theorem d_C_grantRequest_62 : decode b_C_grantRequest 62 = .ok (.aload_n 1, 1) := by decide +kernel
theorem d_C_grantRequest_63 : decode b_C_grantRequest 63 = .ok (.iload_n 3, 1) := by decide +kernel
theorem d_C_grantRequest_64 : decode b_C_grantRequest 64 = .ok (.invokevirtual 224, 3) := by decide +kernel
theorem d_C_grantRequest_67 : decode b_C_grantRequest 67 = .ok (.iadd, 1) := by decide +kernel
theorem d_C_grantRequest_68 : decode b_C_grantRequest 68 = .ok (.putfield 124, 3) := by decide +kernel
theorem d_C_grantRequest_71 : decode b_C_grantRequest 71 = .ok (.goto 8, 3) := by decide +kernel
theorem d_C_grantRequest_74 : decode b_C_grantRequest 74 = .ok (.aload_n 1, 1) := by decide +kernel
theorem d_C_grantRequest_75 : decode b_C_grantRequest 75 = .ok (.iload_n 3, 1) := by decide +kernel
theorem d_C_grantRequest_76 : decode b_C_grantRequest 76 = .ok (.invokevirtual 227, 3) := by decide +kernel
theorem d_C_grantRequest_79 : decode b_C_grantRequest 79 = .ok (.aload_n 0, 1) := by decide +kernel
theorem d_C_grantRequest_80 : decode b_C_grantRequest 80 = .ok (.aload_n 1, 1) := by decide +kernel
theorem d_C_grantRequest_81 : decode b_C_grantRequest 81 = .ok (.iload_n 3, 1) := by decide +kernel
theorem d_C_grantRequest_82 : decode b_C_grantRequest 82 = .ok (.invokevirtual 207, 3) := by decide +kernel
theorem d_C_grantRequest_85 : decode b_C_grantRequest 85 = .ok (.aload_n 0, 1) := by decide +kernel
theorem d_C_grantRequest_86 : decode b_C_grantRequest 86 = .ok (.aload_n 2, 1) := by decide +kernel
theorem d_C_grantRequest_87 : decode b_C_grantRequest 87 = .ok (.invokevirtual 94, 3) := by decide +kernel
theorem d_C_grantRequest_90 : decode b_C_grantRequest 90 = .ok (.return_, 1) := by decide +kernel
theorem d_C_makeRoom_0 : decode b_C_makeRoom 0 = .ok (.iconst 0, 1) := by decide +kernel
theorem d_C_makeRoom_1 : decode b_C_makeRoom 1 = .ok (.istore_n 2, 1) := by decide +kernel
theorem d_C_makeRoom_2 : decode b_C_makeRoom 2 = .ok (.aconst_null, 1) := by decide +kernel
theorem d_C_makeRoom_3 : decode b_C_makeRoom 3 = .ok (.astore_n 3, 1) := by decide +kernel
theorem d_C_makeRoom_4 : decode b_C_makeRoom 4 = .ok (.iconst 0, 1) := by decide +kernel
theorem d_C_makeRoom_5 : decode b_C_makeRoom 5 = .ok (.istore 4, 2) := by decide +kernel
theorem d_C_makeRoom_7 : decode b_C_makeRoom 7 = .ok (.iload 4, 2) := by decide +kernel
theorem d_C_makeRoom_9 : decode b_C_makeRoom 9 = .ok (.bipush 8, 2) := by decide +kernel
theorem d_C_makeRoom_11 : decode b_C_makeRoom 11 = .ok (.if_icmp .ge 54, 3) := by decide +kernel
theorem d_C_makeRoom_14 : decode b_C_makeRoom 14 = .ok (.aload_n 0, 1) := by decide +kernel
theorem d_C_makeRoom_15 : decode b_C_makeRoom 15 = .ok (.getfield 29, 3) := by decide +kernel
theorem d_C_makeRoom_18 : decode b_C_makeRoom 18 = .ok (.iload 4, 2) := by decide +kernel
theorem d_C_makeRoom_20 : decode b_C_makeRoom 20 = .ok (.aaload, 1) := by decide +kernel
theorem d_C_makeRoom_21 : decode b_C_makeRoom 21 = .ok (.astore 5, 2) := by decide +kernel
theorem d_C_makeRoom_23 : decode b_C_makeRoom 23 = .ok (.aload 5, 2) := by decide +kernel
theorem d_C_makeRoom_25 : decode b_C_makeRoom 25 = .ok (.getfield 118, 3) := by decide +kernel
theorem d_C_makeRoom_28 : decode b_C_makeRoom 28 = .ok (.iload_n 1, 1) := by decide +kernel
theorem d_C_makeRoom_29 : decode b_C_makeRoom 29 = .ok (.iaload, 1) := by decide +kernel
theorem d_C_makeRoom_30 : decode b_C_makeRoom 30 = .ok (.ifCond .eq 29, 3) := by decide +kernel
theorem d_C_makeRoom_33 : decode b_C_makeRoom 33 = .ok (.iinc 2 1, 3) := by decide +kernel
theorem d_C_makeRoom_36 : decode b_C_makeRoom 36 = .ok (.aload_n 3, 1) := by decide +kernel
theorem d_C_makeRoom_37 : decode b_C_makeRoom 37 = .ok (.ifnull 19, 3) := by decide +kernel
theorem d_C_makeRoom_40 : decode b_C_makeRoom 40 = .ok (.aload 5, 2) := by decide +kernel
theorem d_C_makeRoom_42 : decode b_C_makeRoom 42 = .ok (.getfield 218, 3) := by decide +kernel
theorem d_C_makeRoom_45 : decode b_C_makeRoom 45 = .ok (.iload_n 1, 1) := by decide +kernel
theorem d_C_makeRoom_46 : decode b_C_makeRoom 46 = .ok (.iaload, 1) := by decide +kernel
theorem d_C_makeRoom_47 : decode b_C_makeRoom 47 = .ok (.aload_n 3, 1) := by decide +kernel
theorem d_C_makeRoom_48 : decode b_C_makeRoom 48 = .ok (.getfield 218, 3) := by decide +kernel
theorem d_C_makeRoom_51 : decode b_C_makeRoom 51 = .ok (.iload_n 1, 1) := by decide +kernel
theorem d_C_makeRoom_52 : decode b_C_makeRoom 52 = .ok (.iaload, 1) := by decide +kernel
theorem d_C_makeRoom_53 : decode b_C_makeRoom 53 = .ok (.if_icmp .ge 6, 3) := by decide +kernel
theorem d_C_makeRoom_56 : decode b_C_makeRoom 56 = .ok (.aload 5, 2) := by decide +kernel
theorem d_C_makeRoom_58 : decode b_C_makeRoom 58 = .ok (.astore_n 3, 1) := by decide +kernel
theorem d_C_makeRoom_59 : decode b_C_makeRoom 59 = .ok (.iinc 4 1, 3) := by decide +kernel
theorem d_C_makeRoom_62 : decode b_C_makeRoom 62 = .ok (.goto (-55), 3) := by decide +kernel
theorem d_C_makeRoom_65 : decode b_C_makeRoom 65 = .ok (.aload_n 3, 1) := by decide +kernel
theorem d_C_makeRoom_66 : decode b_C_makeRoom 66 = .ok (.ifnull 14, 3) := by decide +kernel
theorem d_C_makeRoom_69 : decode b_C_makeRoom 69 = .ok (.iload_n 2, 1) := by decide +kernel
theorem d_C_makeRoom_70 : decode b_C_makeRoom 70 = .ok (.iconst 3, 1) := by decide +kernel
theorem d_C_makeRoom_71 : decode b_C_makeRoom 71 = .ok (.if_icmp .ne 9, 3) := by decide +kernel
theorem d_C_makeRoom_74 : decode b_C_makeRoom 74 = .ok (.aload_n 0, 1) := by decide +kernel
theorem d_C_makeRoom_75 : decode b_C_makeRoom 75 = .ok (.aload_n 3, 1) := by decide +kernel
theorem d_C_makeRoom_76 : decode b_C_makeRoom 76 = .ok (.iload_n 1, 1) := by decide +kernel
theorem d_C_makeRoom_77 : decode b_C_makeRoom 77 = .ok (.invokevirtual 230, 3) := by decide +kernel
theorem d_C_makeRoom_80 : decode b_C_makeRoom 80 = .ok (.return_, 1) := by decide +kernel
theorem d_C_giveUp_0 : decode b_C_giveUp 0 = .ok (.aload_n 0, 1) := by decide +kernel
theorem d_C_giveUp_1 : decode b_C_giveUp 1 = .ok (.dup, 1) := by decide +kernel
theorem d_C_giveUp_2 : decode b_C_giveUp 2 = .ok (.getfield 130, 3) := by decide +kernel
theorem d_C_giveUp_5 : decode b_C_giveUp 5 = .ok (.iconst 1, 1) := by decide +kernel
theorem d_C_giveUp_6 : decode b_C_giveUp 6 = .ok (.iadd, 1) := by decide +kernel
theorem d_C_giveUp_7 : decode b_C_giveUp 7 = .ok (.putfield 130, 3) := by decide +kernel
theorem d_C_giveUp_10 : decode b_C_giveUp 10 = .ok (.aload_n 1, 1) := by decide +kernel
theorem d_C_giveUp_11 : decode b_C_giveUp 11 = .ok (.getfield 118, 3) := by decide +kernel
theorem d_C_giveUp_14 : decode b_C_giveUp 14 = .ok (.iload_n 2, 1) := by decide +kernel
theorem d_C_giveUp_15 : decode b_C_giveUp 15 = .ok (.iconst 0, 1) := by decide +kernel
theorem d_C_giveUp_16 : decode b_C_giveUp 16 = .ok (.iastore, 1) := by decide +kernel
theorem d_C_giveUp_17 : decode b_C_giveUp 17 = .ok (.aload_n 1, 1) := by decide +kernel
theorem d_C_giveUp_18 : decode b_C_giveUp 18 = .ok (.getfield 121, 3) := by decide +kernel
theorem d_C_giveUp_21 : decode b_C_giveUp 21 = .ok (.iload_n 2, 1) := by decide +kernel
theorem d_C_giveUp_22 : decode b_C_giveUp 22 = .ok (.if_icmp .ne 33, 3) := by decide +kernel
theorem d_C_giveUp_25 : decode b_C_giveUp 25 = .ok (.aload_n 1, 1) := by decide +kernel
theorem d_C_giveUp_26 : decode b_C_giveUp 26 = .ok (.aload_n 1, 1) := by decide +kernel
theorem d_C_giveUp_27 : decode b_C_giveUp 27 = .ok (.invokevirtual 233, 3) := by decide +kernel
theorem d_C_giveUp_30 : decode b_C_giveUp 30 = .ok (.putfield 121, 3) := by decide +kernel
theorem d_C_giveUp_33 : decode b_C_giveUp 33 = .ok (.aload_n 0, 1) := by decide +kernel
theorem d_C_giveUp_34 : decode b_C_giveUp 34 = .ok (.dup, 1) := by decide +kernel
theorem d_C_giveUp_35 : decode b_C_giveUp 35 = .ok (.getfield 124, 3) := by decide +kernel
theorem d_C_giveUp_38 : decode b_C_giveUp 38 = .ok (.aload_n 1, 1) := by decide +kernel
theorem d_C_giveUp_39 : decode b_C_giveUp 39 = .ok (.getfield 121, 3) := by decide +kernel
theorem d_C_giveUp_42 : decode b_C_giveUp 42 = .ok (.iconst 3, 1) := by decide +kernel
theorem d_C_giveUp_43 : decode b_C_giveUp 43 = .ok (.if_icmp .ne 7, 3) := by decide +kernel
theorem d_C_giveUp_46 : decode b_C_giveUp 46 = .ok (.iconst 1, 1) := by decide +kernel
theorem d_C_giveUp_47 : decode b_C_giveUp 47 = .ok (.goto 4, 3) := by decide +kernel
theorem d_C_giveUp_50 : decode b_C_giveUp 50 = .ok (.iconst 0, 1) := by decide +kernel
theorem d_C_giveUp_51 : decode b_C_giveUp 51 = .ok (.iadd, 1) := by decide +kernel
theorem d_C_giveUp_52 : decode b_C_giveUp 52 = .ok (.putfield 124, 3) := by decide +kernel
theorem d_C_giveUp_55 : decode b_C_giveUp 55 = .ok (.return_, 1) := by decide +kernel
theorem d_Line_init_0 : decode b_Line_init 0 = .ok (.aload_n 0, 1) := by decide +kernel
theorem d_Line_init_1 : decode b_Line_init 1 = .ok (.invokespecial 3, 3) := by decide +kernel
theorem d_Line_init_4 : decode b_Line_init 4 = .ok (.aload_n 0, 1) := by decide +kernel
theorem d_Line_init_5 : decode b_Line_init 5 = .ok (.bipush 8, 2) := by decide +kernel
theorem d_Line_init_7 : decode b_Line_init 7 = .ok (.newarray .int, 2) := by decide +kernel
theorem d_Line_init_9 : decode b_Line_init 9 = .ok (.putfield 9, 3) := by decide +kernel
theorem d_Line_init_12 : decode b_Line_init 12 = .ok (.return_, 1) := by decide +kernel
theorem d_Line_append_0 : decode b_Line_append 0 = .ok (.aload_n 0, 1) := by decide +kernel
theorem d_Line_append_1 : decode b_Line_append 1 = .ok (.getfield 15, 3) := by decide +kernel
theorem d_Line_append_4 : decode b_Line_append 4 = .ok (.bipush 8, 2) := by decide +kernel
theorem d_Line_append_6 : decode b_Line_append 6 = .ok (.if_icmp .ge 23, 3) := by decide +kernel
theorem d_Line_append_9 : decode b_Line_append 9 = .ok (.aload_n 0, 1) := by decide +kernel
theorem d_Line_append_10 : decode b_Line_append 10 = .ok (.getfield 9, 3) := by decide +kernel
theorem d_Line_append_13 : decode b_Line_append 13 = .ok (.aload_n 0, 1) := by decide +kernel
theorem d_Line_append_14 : decode b_Line_append 14 = .ok (.getfield 15, 3) := by decide +kernel
theorem d_Line_append_17 : decode b_Line_append 17 = .ok (.iload_n 1, 1) := by decide +kernel
theorem d_Line_append_18 : decode b_Line_append 18 = .ok (.iastore, 1) := by decide +kernel
theorem d_Line_append_19 : decode b_Line_append 19 = .ok (.aload_n 0, 1) := by decide +kernel
theorem d_Line_append_20 : decode b_Line_append 20 = .ok (.dup, 1) := by decide +kernel
theorem d_Line_append_21 : decode b_Line_append 21 = .ok (.getfield 15, 3) := by decide +kernel
theorem d_Line_append_24 : decode b_Line_append 24 = .ok (.iconst 1, 1) := by decide +kernel
theorem d_Line_append_25 : decode b_Line_append 25 = .ok (.iadd, 1) := by decide +kernel
theorem d_Line_append_26 : decode b_Line_append 26 = .ok (.putfield 15, 3) := by decide +kernel
theorem d_Line_append_29 : decode b_Line_append 29 = .ok (.return_, 1) := by decide +kernel
theorem d_Line_remove_0 : decode b_Line_remove 0 = .ok (.iconst 0, 1) := by decide +kernel
theorem d_Line_remove_1 : decode b_Line_remove 1 = .ok (.istore_n 2, 1) := by decide +kernel
theorem d_Line_remove_2 : decode b_Line_remove 2 = .ok (.iconst 0, 1) := by decide +kernel
theorem d_Line_remove_3 : decode b_Line_remove 3 = .ok (.istore_n 3, 1) := by decide +kernel
theorem d_Line_remove_4 : decode b_Line_remove 4 = .ok (.iload_n 3, 1) := by decide +kernel
theorem d_Line_remove_5 : decode b_Line_remove 5 = .ok (.aload_n 0, 1) := by decide +kernel
theorem d_Line_remove_6 : decode b_Line_remove 6 = .ok (.getfield 15, 3) := by decide +kernel
theorem d_Line_remove_9 : decode b_Line_remove 9 = .ok (.if_icmp .ge 34, 3) := by decide +kernel
theorem d_Line_remove_12 : decode b_Line_remove 12 = .ok (.aload_n 0, 1) := by decide +kernel
theorem d_Line_remove_13 : decode b_Line_remove 13 = .ok (.getfield 9, 3) := by decide +kernel
theorem d_Line_remove_16 : decode b_Line_remove 16 = .ok (.iload_n 3, 1) := by decide +kernel
theorem d_Line_remove_17 : decode b_Line_remove 17 = .ok (.iaload, 1) := by decide +kernel
theorem d_Line_remove_18 : decode b_Line_remove 18 = .ok (.iload_n 1, 1) := by decide +kernel
theorem d_Line_remove_19 : decode b_Line_remove 19 = .ok (.if_icmp .eq 18, 3) := by decide +kernel
theorem d_Line_remove_22 : decode b_Line_remove 22 = .ok (.aload_n 0, 1) := by decide +kernel
theorem d_Line_remove_23 : decode b_Line_remove 23 = .ok (.getfield 9, 3) := by decide +kernel
theorem d_Line_remove_26 : decode b_Line_remove 26 = .ok (.iload_n 2, 1) := by decide +kernel
theorem d_Line_remove_27 : decode b_Line_remove 27 = .ok (.aload_n 0, 1) := by decide +kernel
theorem d_Line_remove_28 : decode b_Line_remove 28 = .ok (.getfield 9, 3) := by decide +kernel
theorem d_Line_remove_31 : decode b_Line_remove 31 = .ok (.iload_n 3, 1) := by decide +kernel
theorem d_Line_remove_32 : decode b_Line_remove 32 = .ok (.iaload, 1) := by decide +kernel
theorem d_Line_remove_33 : decode b_Line_remove 33 = .ok (.iastore, 1) := by decide +kernel
theorem d_Line_remove_34 : decode b_Line_remove 34 = .ok (.iinc 2 1, 3) := by decide +kernel
theorem d_Line_remove_37 : decode b_Line_remove 37 = .ok (.iinc 3 1, 3) := by decide +kernel
theorem d_Line_remove_40 : decode b_Line_remove 40 = .ok (.goto (-36), 3) := by decide +kernel
theorem d_Line_remove_43 : decode b_Line_remove 43 = .ok (.aload_n 0, 1) := by decide +kernel
theorem d_Line_remove_44 : decode b_Line_remove 44 = .ok (.iload_n 2, 1) := by decide +kernel
theorem d_Line_remove_45 : decode b_Line_remove 45 = .ok (.putfield 15, 3) := by decide +kernel
theorem d_Line_remove_48 : decode b_Line_remove 48 = .ok (.return_, 1) := by decide +kernel
theorem d_Page_init_0 : decode b_Page_init 0 = .ok (.aload_n 0, 1) := by decide +kernel
theorem d_Page_init_1 : decode b_Page_init 1 = .ok (.invokespecial 3, 3) := by decide +kernel
theorem d_Page_init_4 : decode b_Page_init 4 = .ok (.aload_n 0, 1) := by decide +kernel
theorem d_Page_init_5 : decode b_Page_init 5 = .ok (.iconst 3, 1) := by decide +kernel
theorem d_Page_init_6 : decode b_Page_init 6 = .ok (.newarray .int, 2) := by decide +kernel
theorem d_Page_init_8 : decode b_Page_init 8 = .ok (.putfield 9, 3) := by decide +kernel
theorem d_Page_init_11 : decode b_Page_init 11 = .ok (.aload_n 0, 1) := by decide +kernel
theorem d_Page_init_12 : decode b_Page_init 12 = .ok (.iconst 3, 1) := by decide +kernel
theorem d_Page_init_13 : decode b_Page_init 13 = .ok (.newarray .int, 2) := by decide +kernel
theorem d_Page_init_15 : decode b_Page_init 15 = .ok (.putfield 15, 3) := by decide +kernel
theorem d_Page_init_18 : decode b_Page_init 18 = .ok (.aload_n 0, 1) := by decide +kernel
theorem d_Page_init_19 : decode b_Page_init 19 = .ok (.new 18, 3) := by decide +kernel
theorem d_Page_init_22 : decode b_Page_init 22 = .ok (.dup, 1) := by decide +kernel
theorem d_Page_init_23 : decode b_Page_init 23 = .ok (.invokespecial 20, 3) := by decide +kernel
theorem d_Page_init_26 : decode b_Page_init 26 = .ok (.putfield 21, 3) := by decide +kernel
theorem d_Page_init_29 : decode b_Page_init 29 = .ok (.aload_n 0, 1) := by decide +kernel
theorem d_Page_init_30 : decode b_Page_init 30 = .ok (.iconst 3, 1) := by decide +kernel
theorem d_Page_init_31 : decode b_Page_init 31 = .ok (.putfield 25, 3) := by decide +kernel
theorem d_Page_init_34 : decode b_Page_init 34 = .ok (.return_, 1) := by decide +kernel
theorem d_Page_giveWrite_0 : decode b_Page_giveWrite 0 = .ok (.iconst 0, 1) := by decide +kernel
theorem d_Page_giveWrite_1 : decode b_Page_giveWrite 1 = .ok (.istore_n 2, 1) := by decide +kernel
theorem d_Page_giveWrite_2 : decode b_Page_giveWrite 2 = .ok (.iconst 0, 1) := by decide +kernel
theorem d_Page_giveWrite_3 : decode b_Page_giveWrite 3 = .ok (.istore_n 3, 1) := by decide +kernel
theorem d_Page_giveWrite_4 : decode b_Page_giveWrite 4 = .ok (.iload_n 3, 1) := by decide +kernel
theorem d_Page_giveWrite_5 : decode b_Page_giveWrite 5 = .ok (.iconst 3, 1) := by decide +kernel
theorem d_Page_giveWrite_6 : decode b_Page_giveWrite 6 = .ok (.if_icmp .ge 33, 3) := by decide +kernel
theorem d_Page_giveWrite_9 : decode b_Page_giveWrite 9 = .ok (.iload_n 3, 1) := by decide +kernel
theorem d_Page_giveWrite_10 : decode b_Page_giveWrite 10 = .ok (.iload_n 1, 1) := by decide +kernel
theorem d_Page_giveWrite_11 : decode b_Page_giveWrite 11 = .ok (.if_icmp .eq 22, 3) := by decide +kernel
theorem d_Page_giveWrite_14 : decode b_Page_giveWrite 14 = .ok (.aload_n 0, 1) := by decide +kernel
theorem d_Page_giveWrite_15 : decode b_Page_giveWrite 15 = .ok (.getfield 9, 3) := by decide +kernel
theorem d_Page_giveWrite_18 : decode b_Page_giveWrite 18 = .ok (.iload_n 3, 1) := by decide +kernel
theorem d_Page_giveWrite_19 : decode b_Page_giveWrite 19 = .ok (.iaload, 1) := by decide +kernel
theorem d_Page_giveWrite_20 : decode b_Page_giveWrite 20 = .ok (.ifCond .eq 13, 3) := by decide +kernel
theorem d_Page_giveWrite_23 : decode b_Page_giveWrite 23 = .ok (.aload_n 0, 1) := by decide +kernel
theorem d_Page_giveWrite_24 : decode b_Page_giveWrite 24 = .ok (.getfield 9, 3) := by decide +kernel
theorem d_Page_giveWrite_27 : decode b_Page_giveWrite 27 = .ok (.iload_n 3, 1) := by decide +kernel
theorem d_Page_giveWrite_28 : decode b_Page_giveWrite 28 = .ok (.iconst 0, 1) := by decide +kernel
theorem d_Page_giveWrite_29 : decode b_Page_giveWrite 29 = .ok (.iastore, 1) := by decide +kernel
theorem d_Page_giveWrite_30 : decode b_Page_giveWrite 30 = .ok (.iinc 2 1, 3) := by decide +kernel
theorem d_Page_giveWrite_33 : decode b_Page_giveWrite 33 = .ok (.iinc 3 1, 3) := by decide +kernel
theorem d_Page_giveWrite_36 : decode b_Page_giveWrite 36 = .ok (.goto (-32), 3) := by decide +kernel
theorem d_Page_giveWrite_39 : decode b_Page_giveWrite 39 = .ok (.aload_n 0, 1) := by decide +kernel
theorem d_Page_giveWrite_40 : decode b_Page_giveWrite 40 = .ok (.getfield 9, 3) := by decide +kernel
theorem d_Page_giveWrite_43 : decode b_Page_giveWrite 43 = .ok (.iload_n 1, 1) := by decide +kernel
theorem d_Page_giveWrite_44 : decode b_Page_giveWrite 44 = .ok (.iconst 2, 1) := by decide +kernel
theorem d_Page_giveWrite_45 : decode b_Page_giveWrite 45 = .ok (.iastore, 1) := by decide +kernel
theorem d_Page_giveWrite_46 : decode b_Page_giveWrite 46 = .ok (.aload_n 0, 1) := by decide +kernel
theorem d_Page_giveWrite_47 : decode b_Page_giveWrite 47 = .ok (.iload_n 1, 1) := by decide +kernel
theorem d_Page_giveWrite_48 : decode b_Page_giveWrite 48 = .ok (.putfield 25, 3) := by decide +kernel
theorem d_Page_giveWrite_51 : decode b_Page_giveWrite 51 = .ok (.iload_n 2, 1) := by decide +kernel
theorem d_Page_giveWrite_52 : decode b_Page_giveWrite 52 = .ok (.ireturn, 1) := by decide +kernel
theorem d_Page_giveRead_0 : decode b_Page_giveRead 0 = .ok (.iconst 0, 1) := by decide +kernel
theorem d_Page_giveRead_1 : decode b_Page_giveRead 1 = .ok (.istore_n 2, 1) := by decide +kernel
theorem d_Page_giveRead_2 : decode b_Page_giveRead 2 = .ok (.iload_n 2, 1) := by decide +kernel
theorem d_Page_giveRead_3 : decode b_Page_giveRead 3 = .ok (.iconst 3, 1) := by decide +kernel
theorem d_Page_giveRead_4 : decode b_Page_giveRead 4 = .ok (.if_icmp .ge 31, 3) := by decide +kernel
theorem d_Page_giveRead_7 : decode b_Page_giveRead 7 = .ok (.iload_n 2, 1) := by decide +kernel
theorem d_Page_giveRead_8 : decode b_Page_giveRead 8 = .ok (.iload_n 1, 1) := by decide +kernel
theorem d_Page_giveRead_9 : decode b_Page_giveRead 9 = .ok (.if_icmp .eq 20, 3) := by decide +kernel
theorem d_Page_giveRead_12 : decode b_Page_giveRead 12 = .ok (.aload_n 0, 1) := by decide +kernel
theorem d_Page_giveRead_13 : decode b_Page_giveRead 13 = .ok (.getfield 9, 3) := by decide +kernel
theorem d_Page_giveRead_16 : decode b_Page_giveRead 16 = .ok (.iload_n 2, 1) := by decide +kernel
theorem d_Page_giveRead_17 : decode b_Page_giveRead 17 = .ok (.iaload, 1) := by decide +kernel
theorem d_Page_giveRead_18 : decode b_Page_giveRead 18 = .ok (.iconst 2, 1) := by decide +kernel
theorem d_Page_giveRead_19 : decode b_Page_giveRead 19 = .ok (.if_icmp .ne 10, 3) := by decide +kernel
theorem d_Page_giveRead_22 : decode b_Page_giveRead 22 = .ok (.aload_n 0, 1) := by decide +kernel
theorem d_Page_giveRead_23 : decode b_Page_giveRead 23 = .ok (.getfield 9, 3) := by decide +kernel
theorem d_Page_giveRead_26 : decode b_Page_giveRead 26 = .ok (.iload_n 2, 1) := by decide +kernel
theorem d_Page_giveRead_27 : decode b_Page_giveRead 27 = .ok (.iconst 1, 1) := by decide +kernel
theorem d_Page_giveRead_28 : decode b_Page_giveRead 28 = .ok (.iastore, 1) := by decide +kernel
theorem d_Page_giveRead_29 : decode b_Page_giveRead 29 = .ok (.iinc 2 1, 3) := by decide +kernel
theorem d_Page_giveRead_32 : decode b_Page_giveRead 32 = .ok (.goto (-30), 3) := by decide +kernel
theorem d_Page_giveRead_35 : decode b_Page_giveRead 35 = .ok (.aload_n 0, 1) := by decide +kernel
theorem d_Page_giveRead_36 : decode b_Page_giveRead 36 = .ok (.getfield 9, 3) := by decide +kernel
theorem d_Page_giveRead_39 : decode b_Page_giveRead 39 = .ok (.iload_n 1, 1) := by decide +kernel
theorem d_Page_giveRead_40 : decode b_Page_giveRead 40 = .ok (.iaload, 1) := by decide +kernel
theorem d_Page_giveRead_41 : decode b_Page_giveRead 41 = .ok (.ifCond .ne 10, 3) := by decide +kernel
theorem d_Page_giveRead_44 : decode b_Page_giveRead 44 = .ok (.aload_n 0, 1) := by decide +kernel
theorem d_Page_giveRead_45 : decode b_Page_giveRead 45 = .ok (.getfield 9, 3) := by decide +kernel
theorem d_Page_giveRead_48 : decode b_Page_giveRead 48 = .ok (.iload_n 1, 1) := by decide +kernel
theorem d_Page_giveRead_49 : decode b_Page_giveRead 49 = .ok (.iconst 1, 1) := by decide +kernel
theorem d_Page_giveRead_50 : decode b_Page_giveRead 50 = .ok (.iastore, 1) := by decide +kernel
theorem d_Page_giveRead_51 : decode b_Page_giveRead 51 = .ok (.aload_n 0, 1) := by decide +kernel
theorem d_Page_giveRead_52 : decode b_Page_giveRead 52 = .ok (.getfield 25, 3) := by decide +kernel
theorem d_Page_giveRead_55 : decode b_Page_giveRead 55 = .ok (.iconst 3, 1) := by decide +kernel
theorem d_Page_giveRead_56 : decode b_Page_giveRead 56 = .ok (.if_icmp .ne 8, 3) := by decide +kernel
theorem d_Page_giveRead_59 : decode b_Page_giveRead 59 = .ok (.aload_n 0, 1) := by decide +kernel
theorem d_Page_giveRead_60 : decode b_Page_giveRead 60 = .ok (.iload_n 1, 1) := by decide +kernel
theorem d_Page_giveRead_61 : decode b_Page_giveRead 61 = .ok (.putfield 25, 3) := by decide +kernel
theorem d_Page_giveRead_64 : decode b_Page_giveRead 64 = .ok (.return_, 1) := by decide +kernel
theorem d_Page_lowestWithRight_0 : decode b_Page_lowestWithRight 0 = .ok (.iconst 0, 1) := by decide +kernel
theorem d_Page_lowestWithRight_1 : decode b_Page_lowestWithRight 1 = .ok (.istore_n 1, 1) := by decide +kernel
theorem d_Page_lowestWithRight_2 : decode b_Page_lowestWithRight 2 = .ok (.iload_n 1, 1) := by decide +kernel
theorem d_Page_lowestWithRight_3 : decode b_Page_lowestWithRight 3 = .ok (.iconst 3, 1) := by decide +kernel
theorem d_Page_lowestWithRight_4 : decode b_Page_lowestWithRight 4 = .ok (.if_icmp .ge 20, 3) := by decide +kernel
theorem d_Page_lowestWithRight_7 : decode b_Page_lowestWithRight 7 = .ok (.aload_n 0, 1) := by decide +kernel
theorem d_Page_lowestWithRight_8 : decode b_Page_lowestWithRight 8 = .ok (.getfield 9, 3) := by decide +kernel
theorem d_Page_lowestWithRight_11 : decode b_Page_lowestWithRight 11 = .ok (.iload_n 1, 1) := by decide +kernel
theorem d_Page_lowestWithRight_12 : decode b_Page_lowestWithRight 12 = .ok (.iaload, 1) := by decide +kernel
theorem d_Page_lowestWithRight_13 : decode b_Page_lowestWithRight 13 = .ok (.ifCond .eq 5, 3) := by decide +kernel
theorem d_Page_lowestWithRight_16 : decode b_Page_lowestWithRight 16 = .ok (.iload_n 1, 1) := by decide +kernel
theorem d_Page_lowestWithRight_17 : decode b_Page_lowestWithRight 17 = .ok (.ireturn, 1) := by decide +kernel
theorem d_Page_lowestWithRight_18 : decode b_Page_lowestWithRight 18 = .ok (.iinc 1 1, 3) := by decide +kernel
theorem d_Page_lowestWithRight_21 : decode b_Page_lowestWithRight 21 = .ok (.goto (-19), 3) := by decide +kernel
theorem d_Page_lowestWithRight_24 : decode b_Page_lowestWithRight 24 = .ok (.iconst 3, 1) := by decide +kernel
theorem d_Page_lowestWithRight_25 : decode b_Page_lowestWithRight 25 = .ok (.ireturn, 1) := by decide +kernel
theorem d_Proc_init_0 : decode b_Proc_init 0 = .ok (.aload_n 0, 1) := by decide +kernel
theorem d_Proc_init_1 : decode b_Proc_init 1 = .ok (.invokespecial 3, 3) := by decide +kernel
theorem d_Proc_init_4 : decode b_Proc_init 4 = .ok (.aload_n 0, 1) := by decide +kernel
theorem d_Proc_init_5 : decode b_Proc_init 5 = .ok (.iconst 4, 1) := by decide +kernel
theorem d_Proc_init_6 : decode b_Proc_init 6 = .ok (.newarray .int, 2) := by decide +kernel
theorem d_Proc_init_8 : decode b_Proc_init 8 = .ok (.putfield 9, 3) := by decide +kernel
theorem d_Proc_init_11 : decode b_Proc_init 11 = .ok (.aload_n 0, 1) := by decide +kernel
theorem d_Proc_init_12 : decode b_Proc_init 12 = .ok (.iconst 3, 1) := by decide +kernel
theorem d_Proc_init_13 : decode b_Proc_init 13 = .ok (.newarray .int, 2) := by decide +kernel
theorem d_Proc_init_15 : decode b_Proc_init 15 = .ok (.putfield 15, 3) := by decide +kernel
theorem d_Proc_init_18 : decode b_Proc_init 18 = .ok (.aload_n 0, 1) := by decide +kernel
theorem d_Proc_init_19 : decode b_Proc_init 19 = .ok (.iload_n 1, 1) := by decide +kernel
theorem d_Proc_init_20 : decode b_Proc_init 20 = .ok (.putfield 18, 3) := by decide +kernel
theorem d_Proc_init_23 : decode b_Proc_init 23 = .ok (.aload_n 0, 1) := by decide +kernel
theorem d_Proc_init_24 : decode b_Proc_init 24 = .ok (.iload_n 2, 1) := by decide +kernel
theorem d_Proc_init_25 : decode b_Proc_init 25 = .ok (.putfield 22, 3) := by decide +kernel
theorem d_Proc_init_28 : decode b_Proc_init 28 = .ok (.aload_n 0, 1) := by decide +kernel
theorem d_Proc_init_29 : decode b_Proc_init 29 = .ok (.iload_n 3, 1) := by decide +kernel
theorem d_Proc_init_30 : decode b_Proc_init 30 = .ok (.putfield 25, 3) := by decide +kernel
theorem d_Proc_init_33 : decode b_Proc_init 33 = .ok (.iconst 0, 1) := by decide +kernel
theorem d_Proc_init_34 : decode b_Proc_init 34 = .ok (.istore 4, 2) := by decide +kernel
theorem d_Proc_init_36 : decode b_Proc_init 36 = .ok (.iload 4, 2) := by decide +kernel
theorem d_Proc_init_38 : decode b_Proc_init 38 = .ok (.iconst 3, 1) := by decide +kernel
theorem d_Proc_init_39 : decode b_Proc_init 39 = .ok (.if_icmp .ge 17, 3) := by decide +kernel
theorem d_Proc_init_42 : decode b_Proc_init 42 = .ok (.aload_n 0, 1) := by decide +kernel
theorem d_Proc_init_43 : decode b_Proc_init 43 = .ok (.getfield 15, 3) := by decide +kernel
theorem d_Proc_init_46 : decode b_Proc_init 46 = .ok (.iload 4, 2) := by decide +kernel
theorem d_Proc_init_48 : decode b_Proc_init 48 = .ok (.iload_n 3, 1) := by decide +kernel
theorem d_Proc_init_49 : decode b_Proc_init 49 = .ok (.iastore, 1) := by decide +kernel
theorem d_Proc_init_50 : decode b_Proc_init 50 = .ok (.iinc 4 1, 3) := by decide +kernel
theorem d_Proc_init_53 : decode b_Proc_init 53 = .ok (.goto (-17), 3) := by decide +kernel
theorem d_Proc_init_56 : decode b_Proc_init 56 = .ok (.return_, 1) := by decide +kernel
theorem d_Program_init_0 : decode b_Program_init 0 = .ok (.aload_n 0, 1) := by decide +kernel
theorem d_Program_init_1 : decode b_Program_init 1 = .ok (.invokespecial 3, 3) := by decide +kernel
theorem d_Program_init_4 : decode b_Program_init 4 = .ok (.aload_n 0, 1) := by decide +kernel
theorem d_Program_init_5 : decode b_Program_init 5 = .ok (.bipush 12, 2) := by decide +kernel
theorem d_Program_init_7 : decode b_Program_init 7 = .ok (.newarray .int, 2) := by decide +kernel
theorem d_Program_init_9 : decode b_Program_init 9 = .ok (.putfield 9, 3) := by decide +kernel
theorem d_Program_init_12 : decode b_Program_init 12 = .ok (.aload_n 0, 1) := by decide +kernel
theorem d_Program_init_13 : decode b_Program_init 13 = .ok (.bipush 12, 2) := by decide +kernel
theorem d_Program_init_15 : decode b_Program_init 15 = .ok (.newarray .int, 2) := by decide +kernel
theorem d_Program_init_17 : decode b_Program_init 17 = .ok (.putfield 15, 3) := by decide +kernel
theorem d_Program_init_20 : decode b_Program_init 20 = .ok (.aload_n 0, 1) := by decide +kernel
theorem d_Program_init_21 : decode b_Program_init 21 = .ok (.bipush 12, 2) := by decide +kernel
theorem d_Program_init_23 : decode b_Program_init 23 = .ok (.newarray .int, 2) := by decide +kernel
theorem d_Program_init_25 : decode b_Program_init 25 = .ok (.putfield 18, 3) := by decide +kernel
theorem d_Program_init_28 : decode b_Program_init 28 = .ok (.return_, 1) := by decide +kernel
theorem d_Program_add_0 : decode b_Program_add 0 = .ok (.aload_n 0, 1) := by decide +kernel
theorem d_Program_add_1 : decode b_Program_add 1 = .ok (.getfield 9, 3) := by decide +kernel
theorem d_Program_add_4 : decode b_Program_add 4 = .ok (.aload_n 0, 1) := by decide +kernel
theorem d_Program_add_5 : decode b_Program_add 5 = .ok (.getfield 21, 3) := by decide +kernel
theorem d_Program_add_8 : decode b_Program_add 8 = .ok (.iload_n 1, 1) := by decide +kernel
theorem d_Program_add_9 : decode b_Program_add 9 = .ok (.iastore, 1) := by decide +kernel
theorem d_Program_add_10 : decode b_Program_add 10 = .ok (.aload_n 0, 1) := by decide +kernel
theorem d_Program_add_11 : decode b_Program_add 11 = .ok (.getfield 15, 3) := by decide +kernel
theorem d_Program_add_14 : decode b_Program_add 14 = .ok (.aload_n 0, 1) := by decide +kernel
theorem d_Program_add_15 : decode b_Program_add 15 = .ok (.getfield 21, 3) := by decide +kernel
theorem d_Program_add_18 : decode b_Program_add 18 = .ok (.iload_n 2, 1) := by decide +kernel
theorem d_Program_add_19 : decode b_Program_add 19 = .ok (.iastore, 1) := by decide +kernel
theorem d_Program_add_20 : decode b_Program_add 20 = .ok (.aload_n 0, 1) := by decide +kernel
theorem d_Program_add_21 : decode b_Program_add 21 = .ok (.getfield 18, 3) := by decide +kernel
theorem d_Program_add_24 : decode b_Program_add 24 = .ok (.aload_n 0, 1) := by decide +kernel
theorem d_Program_add_25 : decode b_Program_add 25 = .ok (.getfield 21, 3) := by decide +kernel
theorem d_Program_add_28 : decode b_Program_add 28 = .ok (.iload_n 3, 1) := by decide +kernel
theorem d_Program_add_29 : decode b_Program_add 29 = .ok (.iastore, 1) := by decide +kernel
theorem d_Program_add_30 : decode b_Program_add 30 = .ok (.aload_n 0, 1) := by decide +kernel
theorem d_Program_add_31 : decode b_Program_add 31 = .ok (.dup, 1) := by decide +kernel
theorem d_Program_add_32 : decode b_Program_add 32 = .ok (.getfield 21, 3) := by decide +kernel
theorem d_Program_add_35 : decode b_Program_add 35 = .ok (.iconst 1, 1) := by decide +kernel
theorem d_Program_add_36 : decode b_Program_add 36 = .ok (.iadd, 1) := by decide +kernel
theorem d_Program_add_37 : decode b_Program_add 37 = .ok (.putfield 21, 3) := by decide +kernel
theorem d_Program_add_40 : decode b_Program_add 40 = .ok (.return_, 1) := by decide +kernel
theorem d_Math_floorMod_0 : decode b_Math_floorMod 0 = .ok (.iload_n 0, 1) := by decide +kernel
theorem d_Math_floorMod_1 : decode b_Math_floorMod 1 = .ok (.iload_n 1, 1) := by decide +kernel
theorem d_Math_floorMod_2 : decode b_Math_floorMod 2 = .ok (.irem, 1) := by decide +kernel
theorem d_Math_floorMod_3 : decode b_Math_floorMod 3 = .ok (.istore_n 2, 1) := by decide +kernel
theorem d_Math_floorMod_4 : decode b_Math_floorMod 4 = .ok (.iload_n 0, 1) := by decide +kernel
theorem d_Math_floorMod_5 : decode b_Math_floorMod 5 = .ok (.iload_n 1, 1) := by decide +kernel
theorem d_Math_floorMod_6 : decode b_Math_floorMod 6 = .ok (.ixor, 1) := by decide +kernel
theorem d_Math_floorMod_7 : decode b_Math_floorMod 7 = .ok (.ifCond .ge 11, 3) := by decide +kernel
theorem d_Math_floorMod_10 : decode b_Math_floorMod 10 = .ok (.iload_n 2, 1) := by decide +kernel
theorem d_Math_floorMod_11 : decode b_Math_floorMod 11 = .ok (.ifCond .eq 7, 3) := by decide +kernel
theorem d_Math_floorMod_14 : decode b_Math_floorMod 14 = .ok (.iload_n 2, 1) := by decide +kernel
theorem d_Math_floorMod_15 : decode b_Math_floorMod 15 = .ok (.iload_n 1, 1) := by decide +kernel
theorem d_Math_floorMod_16 : decode b_Math_floorMod 16 = .ok (.iadd, 1) := by decide +kernel
theorem d_Math_floorMod_17 : decode b_Math_floorMod 17 = .ok (.ireturn, 1) := by decide +kernel
theorem d_Math_floorMod_18 : decode b_Math_floorMod 18 = .ok (.iload_n 2, 1) := by decide +kernel
theorem d_Math_floorMod_19 : decode b_Math_floorMod 19 = .ok (.ireturn, 1) := by decide +kernel
end
section
theorem d_M_init_0 : decode b_M_init 0 = .ok (.aload_n 0, 1) := by decide +kernel
theorem d_M_init_1 : decode b_M_init 1 = .ok (.invokespecial 1, 3) := by decide +kernel
theorem d_M_init_4 : decode b_M_init 4 = .ok (.aload_n 0, 1) := by decide +kernel
theorem d_M_init_5 : decode b_M_init 5 = .ok (.bipush 48, 2) := by decide +kernel
theorem d_M_init_7 : decode b_M_init 7 = .ok (.newarray .int, 2) := by decide +kernel
theorem d_M_init_9 : decode b_M_init 9 = .ok (.putfield 7, 3) := by decide +kernel
theorem d_M_init_12 : decode b_M_init 12 = .ok (.aload_n 0, 1) := by decide +kernel
theorem d_M_init_13 : decode b_M_init 13 = .ok (.bipush 48, 2) := by decide +kernel
theorem d_M_init_15 : decode b_M_init 15 = .ok (.newarray .int, 2) := by decide +kernel
theorem d_M_init_17 : decode b_M_init 17 = .ok (.putfield 13, 3) := by decide +kernel
theorem d_M_init_20 : decode b_M_init 20 = .ok (.aload_n 0, 1) := by decide +kernel
theorem d_M_init_21 : decode b_M_init 21 = .ok (.bipush 48, 2) := by decide +kernel
theorem d_M_init_23 : decode b_M_init 23 = .ok (.newarray .int, 2) := by decide +kernel
theorem d_M_init_25 : decode b_M_init 25 = .ok (.putfield 16, 3) := by decide +kernel
theorem d_M_init_28 : decode b_M_init 28 = .ok (.aload_n 0, 1) := by decide +kernel
theorem d_M_init_29 : decode b_M_init 29 = .ok (.iconst 4, 1) := by decide +kernel
theorem d_M_init_30 : decode b_M_init 30 = .ok (.newarray .int, 2) := by decide +kernel
theorem d_M_init_32 : decode b_M_init 32 = .ok (.putfield 19, 3) := by decide +kernel
theorem d_M_init_35 : decode b_M_init 35 = .ok (.aload_n 0, 1) := by decide +kernel
theorem d_M_init_36 : decode b_M_init 36 = .ok (.bipush 8, 2) := by decide +kernel
theorem d_M_init_38 : decode b_M_init 38 = .ok (.newarray .int, 2) := by decide +kernel
theorem d_M_init_40 : decode b_M_init 40 = .ok (.putfield 22, 3) := by decide +kernel
theorem d_M_init_43 : decode b_M_init 43 = .ok (.aload_n 0, 1) := by decide +kernel
theorem d_M_init_44 : decode b_M_init 44 = .ok (.bipush 32, 2) := by decide +kernel
theorem d_M_init_46 : decode b_M_init 46 = .ok (.newarray .int, 2) := by decide +kernel
theorem d_M_init_48 : decode b_M_init 48 = .ok (.putfield 25, 3) := by decide +kernel
theorem d_M_init_51 : decode b_M_init 51 = .ok (.aload_n 0, 1) := by decide +kernel
theorem d_M_init_52 : decode b_M_init 52 = .ok (.bipush 8, 2) := by decide +kernel
theorem d_M_init_54 : decode b_M_init 54 = .ok (.newarray .int, 2) := by decide +kernel
theorem d_M_init_56 : decode b_M_init 56 = .ok (.putfield 28, 3) := by decide +kernel
theorem d_M_init_59 : decode b_M_init 59 = .ok (.aload_n 0, 1) := by decide +kernel
theorem d_M_init_60 : decode b_M_init 60 = .ok (.bipush 8, 2) := by decide +kernel
theorem d_M_init_62 : decode b_M_init 62 = .ok (.newarray .int, 2) := by decide +kernel
theorem d_M_init_64 : decode b_M_init 64 = .ok (.putfield 31, 3) := by decide +kernel
theorem d_M_init_67 : decode b_M_init 67 = .ok (.aload_n 0, 1) := by decide +kernel
theorem d_M_init_68 : decode b_M_init 68 = .ok (.bipush 8, 2) := by decide +kernel
theorem d_M_init_70 : decode b_M_init 70 = .ok (.newarray .int, 2) := by decide +kernel
theorem d_M_init_72 : decode b_M_init 72 = .ok (.putfield 34, 3) := by decide +kernel
theorem d_M_init_75 : decode b_M_init 75 = .ok (.aload_n 0, 1) := by decide +kernel
theorem d_M_init_76 : decode b_M_init 76 = .ok (.bipush 8, 2) := by decide +kernel
theorem d_M_init_78 : decode b_M_init 78 = .ok (.newarray .int, 2) := by decide +kernel
theorem d_M_init_80 : decode b_M_init 80 = .ok (.putfield 37, 3) := by decide +kernel
theorem d_M_init_83 : decode b_M_init 83 = .ok (.aload_n 0, 1) := by decide +kernel
theorem d_M_init_84 : decode b_M_init 84 = .ok (.bipush 8, 2) := by decide +kernel
theorem d_M_init_86 : decode b_M_init 86 = .ok (.newarray .int, 2) := by decide +kernel
theorem d_M_init_88 : decode b_M_init 88 = .ok (.putfield 40, 3) := by decide +kernel
theorem d_M_init_91 : decode b_M_init 91 = .ok (.aload_n 0, 1) := by decide +kernel
theorem d_M_init_92 : decode b_M_init 92 = .ok (.bipush 8, 2) := by decide +kernel
theorem d_M_init_94 : decode b_M_init 94 = .ok (.newarray .int, 2) := by decide +kernel
theorem d_M_init_96 : decode b_M_init 96 = .ok (.putfield 43, 3) := by decide +kernel
theorem d_M_init_99 : decode b_M_init 99 = .ok (.aload_n 0, 1) := by decide +kernel
theorem d_M_init_100 : decode b_M_init 100 = .ok (.bipush 8, 2) := by decide +kernel
theorem d_M_init_102 : decode b_M_init 102 = .ok (.newarray .int, 2) := by decide +kernel
theorem d_M_init_104 : decode b_M_init 104 = .ok (.putfield 46, 3) := by decide +kernel
theorem d_M_init_107 : decode b_M_init 107 = .ok (.aload_n 0, 1) := by decide +kernel
theorem d_M_init_108 : decode b_M_init 108 = .ok (.bipush 8, 2) := by decide +kernel
theorem d_M_init_110 : decode b_M_init 110 = .ok (.newarray .int, 2) := by decide +kernel
theorem d_M_init_112 : decode b_M_init 112 = .ok (.dup, 1) := by decide +kernel
theorem d_M_init_113 : decode b_M_init 113 = .ok (.iconst 0, 1) := by decide +kernel
theorem d_M_init_114 : decode b_M_init 114 = .ok (.bipush 8, 2) := by decide +kernel
theorem d_M_init_116 : decode b_M_init 116 = .ok (.iastore, 1) := by decide +kernel
theorem d_M_init_117 : decode b_M_init 117 = .ok (.dup, 1) := by decide +kernel
theorem d_M_init_118 : decode b_M_init 118 = .ok (.iconst 1, 1) := by decide +kernel
theorem d_M_init_119 : decode b_M_init 119 = .ok (.bipush 8, 2) := by decide +kernel
theorem d_M_init_121 : decode b_M_init 121 = .ok (.iastore, 1) := by decide +kernel
theorem d_M_init_122 : decode b_M_init 122 = .ok (.dup, 1) := by decide +kernel
theorem d_M_init_123 : decode b_M_init 123 = .ok (.iconst 2, 1) := by decide +kernel
theorem d_M_init_124 : decode b_M_init 124 = .ok (.bipush 8, 2) := by decide +kernel
theorem d_M_init_126 : decode b_M_init 126 = .ok (.iastore, 1) := by decide +kernel
theorem d_M_init_127 : decode b_M_init 127 = .ok (.dup, 1) := by decide +kernel
theorem d_M_init_128 : decode b_M_init 128 = .ok (.iconst 3, 1) := by decide +kernel
theorem d_M_init_129 : decode b_M_init 129 = .ok (.bipush 8, 2) := by decide +kernel
theorem d_M_init_131 : decode b_M_init 131 = .ok (.iastore, 1) := by decide +kernel
theorem d_M_init_132 : decode b_M_init 132 = .ok (.dup, 1) := by decide +kernel
theorem d_M_init_133 : decode b_M_init 133 = .ok (.iconst 4, 1) := by decide +kernel
theorem d_M_init_134 : decode b_M_init 134 = .ok (.bipush 8, 2) := by decide +kernel
theorem d_M_init_136 : decode b_M_init 136 = .ok (.iastore, 1) := by decide +kernel
theorem d_M_init_137 : decode b_M_init 137 = .ok (.dup, 1) := by decide +kernel
theorem d_M_init_138 : decode b_M_init 138 = .ok (.iconst 5, 1) := by decide +kernel
theorem d_M_init_139 : decode b_M_init 139 = .ok (.bipush 8, 2) := by decide +kernel
theorem d_M_init_141 : decode b_M_init 141 = .ok (.iastore, 1) := by decide +kernel
theorem d_M_init_142 : decode b_M_init 142 = .ok (.dup, 1) := by decide +kernel
theorem d_M_init_143 : decode b_M_init 143 = .ok (.bipush 6, 2) := by decide +kernel
theorem d_M_init_145 : decode b_M_init 145 = .ok (.bipush 8, 2) := by decide +kernel
theorem d_M_init_147 : decode b_M_init 147 = .ok (.iastore, 1) := by decide +kernel
theorem d_M_init_148 : decode b_M_init 148 = .ok (.dup, 1) := by decide +kernel
theorem d_M_init_149 : decode b_M_init 149 = .ok (.bipush 7, 2) := by decide +kernel
theorem d_M_init_151 : decode b_M_init 151 = .ok (.bipush 8, 2) := by decide +kernel
theorem d_M_init_153 : decode b_M_init 153 = .ok (.iastore, 1) := by decide +kernel
theorem d_M_init_154 : decode b_M_init 154 = .ok (.putfield 49, 3) := by decide +kernel
theorem d_M_init_157 : decode b_M_init 157 = .ok (.aload_n 0, 1) := by decide +kernel
theorem d_M_init_158 : decode b_M_init 158 = .ok (.bipush 8, 2) := by decide +kernel
theorem d_M_init_160 : decode b_M_init 160 = .ok (.newarray .int, 2) := by decide +kernel
theorem d_M_init_162 : decode b_M_init 162 = .ok (.putfield 52, 3) := by decide +kernel
theorem d_M_init_165 : decode b_M_init 165 = .ok (.aload_n 0, 1) := by decide +kernel
theorem d_M_init_166 : decode b_M_init 166 = .ok (.bipush 8, 2) := by decide +kernel
theorem d_M_init_168 : decode b_M_init 168 = .ok (.newarray .int, 2) := by decide +kernel
theorem d_M_init_170 : decode b_M_init 170 = .ok (.putfield 55, 3) := by decide +kernel
theorem d_M_init_173 : decode b_M_init 173 = .ok (.aload_n 0, 1) := by decide +kernel
theorem d_M_init_174 : decode b_M_init 174 = .ok (.bipush 8, 2) := by decide +kernel
theorem d_M_init_176 : decode b_M_init 176 = .ok (.newarray .boolean, 2) := by decide +kernel
theorem d_M_init_178 : decode b_M_init 178 = .ok (.putfield 58, 3) := by decide +kernel
theorem d_M_init_181 : decode b_M_init 181 = .ok (.aload_n 0, 1) := by decide +kernel
theorem d_M_init_182 : decode b_M_init 182 = .ok (.bipush 32, 2) := by decide +kernel
theorem d_M_init_184 : decode b_M_init 184 = .ok (.newarray .int, 2) := by decide +kernel
theorem d_M_init_186 : decode b_M_init 186 = .ok (.putfield 62, 3) := by decide +kernel
theorem d_M_init_189 : decode b_M_init 189 = .ok (.aload_n 0, 1) := by decide +kernel
theorem d_M_init_190 : decode b_M_init 190 = .ok (.bipush 24, 2) := by decide +kernel
theorem d_M_init_192 : decode b_M_init 192 = .ok (.newarray .int, 2) := by decide +kernel
theorem d_M_init_194 : decode b_M_init 194 = .ok (.putfield 65, 3) := by decide +kernel
theorem d_M_init_197 : decode b_M_init 197 = .ok (.aload_n 0, 1) := by decide +kernel
theorem d_M_init_198 : decode b_M_init 198 = .ok (.bipush 24, 2) := by decide +kernel
theorem d_M_init_200 : decode b_M_init 200 = .ok (.newarray .int, 2) := by decide +kernel
theorem d_M_init_202 : decode b_M_init 202 = .ok (.putfield 68, 3) := by decide +kernel
theorem d_M_init_205 : decode b_M_init 205 = .ok (.aload_n 0, 1) := by decide +kernel
theorem d_M_init_206 : decode b_M_init 206 = .ok (.bipush 8, 2) := by decide +kernel
theorem d_M_init_208 : decode b_M_init 208 = .ok (.newarray .int, 2) := by decide +kernel
theorem d_M_init_210 : decode b_M_init 210 = .ok (.dup, 1) := by decide +kernel
theorem d_M_init_211 : decode b_M_init 211 = .ok (.iconst 0, 1) := by decide +kernel
theorem d_M_init_212 : decode b_M_init 212 = .ok (.iconst 3, 1) := by decide +kernel
theorem d_M_init_213 : decode b_M_init 213 = .ok (.iastore, 1) := by decide +kernel
theorem d_M_init_214 : decode b_M_init 214 = .ok (.dup, 1) := by decide +kernel
theorem d_M_init_215 : decode b_M_init 215 = .ok (.iconst 1, 1) := by decide +kernel
theorem d_M_init_216 : decode b_M_init 216 = .ok (.iconst 3, 1) := by decide +kernel
theorem d_M_init_217 : decode b_M_init 217 = .ok (.iastore, 1) := by decide +kernel
theorem d_M_init_218 : decode b_M_init 218 = .ok (.dup, 1) := by decide +kernel
theorem d_M_init_219 : decode b_M_init 219 = .ok (.iconst 2, 1) := by decide +kernel
theorem d_M_init_220 : decode b_M_init 220 = .ok (.iconst 3, 1) := by decide +kernel
theorem d_M_init_221 : decode b_M_init 221 = .ok (.iastore, 1) := by decide +kernel
theorem d_M_init_222 : decode b_M_init 222 = .ok (.dup, 1) := by decide +kernel
theorem d_M_init_223 : decode b_M_init 223 = .ok (.iconst 3, 1) := by decide +kernel
theorem d_M_init_224 : decode b_M_init 224 = .ok (.iconst 3, 1) := by decide +kernel
theorem d_M_init_225 : decode b_M_init 225 = .ok (.iastore, 1) := by decide +kernel
theorem d_M_init_226 : decode b_M_init 226 = .ok (.dup, 1) := by decide +kernel
theorem d_M_init_227 : decode b_M_init 227 = .ok (.iconst 4, 1) := by decide +kernel
theorem d_M_init_228 : decode b_M_init 228 = .ok (.iconst 3, 1) := by decide +kernel
theorem d_M_init_229 : decode b_M_init 229 = .ok (.iastore, 1) := by decide +kernel
theorem d_M_init_230 : decode b_M_init 230 = .ok (.dup, 1) := by decide +kernel
theorem d_M_init_231 : decode b_M_init 231 = .ok (.iconst 5, 1) := by decide +kernel
theorem d_M_init_232 : decode b_M_init 232 = .ok (.iconst 3, 1) := by decide +kernel
theorem d_M_init_233 : decode b_M_init 233 = .ok (.iastore, 1) := by decide +kernel
theorem d_M_init_234 : decode b_M_init 234 = .ok (.dup, 1) := by decide +kernel
theorem d_M_init_235 : decode b_M_init 235 = .ok (.bipush 6, 2) := by decide +kernel
theorem d_M_init_237 : decode b_M_init 237 = .ok (.iconst 3, 1) := by decide +kernel
theorem d_M_init_238 : decode b_M_init 238 = .ok (.iastore, 1) := by decide +kernel
theorem d_M_init_239 : decode b_M_init 239 = .ok (.dup, 1) := by decide +kernel
theorem d_M_init_240 : decode b_M_init 240 = .ok (.bipush 7, 2) := by decide +kernel
theorem d_M_init_242 : decode b_M_init 242 = .ok (.iconst 3, 1) := by decide +kernel
theorem d_M_init_243 : decode b_M_init 243 = .ok (.iastore, 1) := by decide +kernel
theorem d_M_init_244 : decode b_M_init 244 = .ok (.putfield 71, 3) := by decide +kernel
theorem d_M_init_247 : decode b_M_init 247 = .ok (.aload_n 0, 1) := by decide +kernel
theorem d_M_init_248 : decode b_M_init 248 = .ok (.bipush 24, 2) := by decide +kernel
theorem d_M_init_250 : decode b_M_init 250 = .ok (.newarray .int, 2) := by decide +kernel
theorem d_M_init_252 : decode b_M_init 252 = .ok (.putfield 74, 3) := by decide +kernel
theorem d_M_init_255 : decode b_M_init 255 = .ok (.return_, 1) := by decide +kernel
theorem d_M_tick_0 : decode b_M_tick 0 = .ok (.aload_n 0, 1) := by decide +kernel
theorem d_M_tick_1 : decode b_M_tick 1 = .ok (.dup, 1) := by decide +kernel
theorem d_M_tick_2 : decode b_M_tick 2 = .ok (.getfield 77, 3) := by decide +kernel
theorem d_M_tick_5 : decode b_M_tick 5 = .ok (.iconst 1, 1) := by decide +kernel
theorem d_M_tick_6 : decode b_M_tick 6 = .ok (.iadd, 1) := by decide +kernel
theorem d_M_tick_7 : decode b_M_tick 7 = .ok (.putfield 77, 3) := by decide +kernel
theorem d_M_tick_10 : decode b_M_tick 10 = .ok (.aload_n 0, 1) := by decide +kernel
theorem d_M_tick_11 : decode b_M_tick 11 = .ok (.getfield 77, 3) := by decide +kernel
theorem d_M_tick_14 : decode b_M_tick 14 = .ok (.ireturn, 1) := by decide +kernel
theorem d_M_out_0 : decode b_M_out 0 = .ok (.iload_n 0, 1) := by decide +kernel
theorem d_M_out_1 : decode b_M_out 1 = .ok (.ifCond .lt 8, 3) := by decide +kernel
theorem d_M_out_4 : decode b_M_out 4 = .ok (.iload_n 0, 1) := by decide +kernel
theorem d_M_out_5 : decode b_M_out 5 = .ok (.iload_n 1, 1) := by decide +kernel
theorem d_M_out_6 : decode b_M_out 6 = .ok (.if_icmp .le 7, 3) := by decide +kernel
theorem d_M_out_9 : decode b_M_out 9 = .ok (.iconst 1, 1) := by decide +kernel
theorem d_M_out_10 : decode b_M_out 10 = .ok (.goto 4, 3) := by decide +kernel
theorem d_M_out_13 : decode b_M_out 13 = .ok (.iconst 0, 1) := by decide +kernel
theorem d_M_out_14 : decode b_M_out 14 = .ok (.ireturn, 1) := by decide +kernel
theorem d_M_noProcess_0 : decode b_M_noProcess 0 = .ok (.iload_n 1, 1) := by decide +kernel
theorem d_M_noProcess_1 : decode b_M_noProcess 1 = .ok (.ifCond .lt 11, 3) := by decide +kernel
theorem d_M_noProcess_4 : decode b_M_noProcess 4 = .ok (.iload_n 1, 1) := by decide +kernel
theorem d_M_noProcess_5 : decode b_M_noProcess 5 = .ok (.aload_n 0, 1) := by decide +kernel
theorem d_M_noProcess_6 : decode b_M_noProcess 6 = .ok (.getfield 81, 3) := by decide +kernel
theorem d_M_noProcess_9 : decode b_M_noProcess 9 = .ok (.if_icmp .lt 7, 3) := by decide +kernel
theorem d_M_noProcess_12 : decode b_M_noProcess 12 = .ok (.iconst 1, 1) := by decide +kernel
theorem d_M_noProcess_13 : decode b_M_noProcess 13 = .ok (.goto 4, 3) := by decide +kernel
theorem d_M_noProcess_16 : decode b_M_noProcess 16 = .ok (.iconst 0, 1) := by decide +kernel
theorem d_M_noProcess_17 : decode b_M_noProcess 17 = .ok (.ireturn, 1) := by decide +kernel
theorem d_M_instr_0 : decode b_M_instr 0 = .ok (.iload_n 1, 1) := by decide +kernel
theorem d_M_instr_1 : decode b_M_instr 1 = .ok (.iconst 3, 1) := by decide +kernel
theorem d_M_instr_2 : decode b_M_instr 2 = .ok (.invokestatic 84, 3) := by decide +kernel
theorem d_M_instr_5 : decode b_M_instr 5 = .ok (.ifCond .ne 20, 3) := by decide +kernel
theorem d_M_instr_8 : decode b_M_instr 8 = .ok (.iload_n 2, 1) := by decide +kernel
theorem d_M_instr_9 : decode b_M_instr 9 = .ok (.bipush 12, 2) := by decide +kernel
theorem d_M_instr_11 : decode b_M_instr 11 = .ok (.invokestatic 84, 3) := by decide +kernel
theorem d_M_instr_14 : decode b_M_instr 14 = .ok (.ifCond .ne 11, 3) := by decide +kernel
theorem d_M_instr_17 : decode b_M_instr 17 = .ok (.iload_n 3, 1) := by decide +kernel
theorem d_M_instr_18 : decode b_M_instr 18 = .ok (.iconst 3, 1) := by decide +kernel
theorem d_M_instr_19 : decode b_M_instr 19 = .ok (.invokestatic 84, 3) := by decide +kernel
theorem d_M_instr_22 : decode b_M_instr 22 = .ok (.ifCond .eq 5, 3) := by decide +kernel
theorem d_M_instr_25 : decode b_M_instr 25 = .ok (.iconst (-1), 1) := by decide +kernel
theorem d_M_instr_26 : decode b_M_instr 26 = .ok (.ireturn, 1) := by decide +kernel
theorem d_M_instr_27 : decode b_M_instr 27 = .ok (.iload_n 2, 1) := by decide +kernel
theorem d_M_instr_28 : decode b_M_instr 28 = .ok (.ifCond .ne 27, 3) := by decide +kernel
theorem d_M_instr_31 : decode b_M_instr 31 = .ok (.iload 4, 2) := by decide +kernel
theorem d_M_instr_33 : decode b_M_instr 33 = .ok (.sipush (-1000), 3) := by decide +kernel
theorem d_M_instr_36 : decode b_M_instr 36 = .ok (.if_icmp .lt 11, 3) := by decide +kernel
theorem d_M_instr_39 : decode b_M_instr 39 = .ok (.iload 4, 2) := by decide +kernel
theorem d_M_instr_41 : decode b_M_instr 41 = .ok (.sipush 1000, 3) := by decide +kernel
theorem d_M_instr_44 : decode b_M_instr 44 = .ok (.if_icmp .le 7, 3) := by decide +kernel
theorem d_M_instr_47 : decode b_M_instr 47 = .ok (.iconst 1, 1) := by decide +kernel
theorem d_M_instr_48 : decode b_M_instr 48 = .ok (.goto 28, 3) := by decide +kernel
theorem d_M_instr_51 : decode b_M_instr 51 = .ok (.iconst 0, 1) := by decide +kernel
theorem d_M_instr_52 : decode b_M_instr 52 = .ok (.goto 24, 3) := by decide +kernel
theorem d_M_instr_55 : decode b_M_instr 55 = .ok (.iload_n 2, 1) := by decide +kernel
theorem d_M_instr_56 : decode b_M_instr 56 = .ok (.iconst 5, 1) := by decide +kernel
theorem d_M_instr_57 : decode b_M_instr 57 = .ok (.if_icmp .ne 13, 3) := by decide +kernel
theorem d_M_instr_60 : decode b_M_instr 60 = .ok (.iload 4, 2) := by decide +kernel
theorem d_M_instr_62 : decode b_M_instr 62 = .ok (.bipush 11, 2) := by decide +kernel
theorem d_M_instr_64 : decode b_M_instr 64 = .ok (.invokestatic 84, 3) := by decide +kernel
theorem d_M_instr_67 : decode b_M_instr 67 = .ok (.goto 9, 3) := by decide +kernel
theorem d_M_instr_70 : decode b_M_instr 70 = .ok (.iload 4, 2) := by decide +kernel
theorem d_M_instr_72 : decode b_M_instr 72 = .ok (.iconst 3, 1) := by decide +kernel
theorem d_M_instr_73 : decode b_M_instr 73 = .ok (.invokestatic 84, 3) := by decide +kernel
theorem d_M_instr_76 : decode b_M_instr 76 = .ok (.istore 5, 2) := by decide +kernel
theorem d_M_instr_78 : decode b_M_instr 78 = .ok (.iload 5, 2) := by decide +kernel
theorem d_M_instr_80 : decode b_M_instr 80 = .ok (.ifCond .eq 5, 3) := by decide +kernel
theorem d_M_instr_83 : decode b_M_instr 83 = .ok (.iconst (-1), 1) := by decide +kernel
theorem d_M_instr_84 : decode b_M_instr 84 = .ok (.ireturn, 1) := by decide +kernel
theorem d_M_instr_85 : decode b_M_instr 85 = .ok (.aload_n 0, 1) := by decide +kernel
theorem d_M_instr_86 : decode b_M_instr 86 = .ok (.getfield 19, 3) := by decide +kernel
theorem d_M_instr_89 : decode b_M_instr 89 = .ok (.iload_n 1, 1) := by decide +kernel
theorem d_M_instr_90 : decode b_M_instr 90 = .ok (.iaload, 1) := by decide +kernel
theorem d_M_instr_91 : decode b_M_instr 91 = .ok (.bipush 12, 2) := by decide +kernel
theorem d_M_instr_93 : decode b_M_instr 93 = .ok (.if_icmp .ne 6, 3) := by decide +kernel
theorem d_M_instr_96 : decode b_M_instr 96 = .ok (.bipush (-2), 2) := by decide +kernel
theorem d_M_instr_98 : decode b_M_instr 98 = .ok (.ireturn, 1) := by decide +kernel
theorem d_M_instr_99 : decode b_M_instr 99 = .ok (.bipush 12, 2) := by decide +kernel
theorem d_M_instr_101 : decode b_M_instr 101 = .ok (.iload_n 1, 1) := by decide +kernel
theorem d_M_instr_102 : decode b_M_instr 102 = .ok (.imul, 1) := by decide +kernel
theorem d_M_instr_103 : decode b_M_instr 103 = .ok (.aload_n 0, 1) := by decide +kernel
theorem d_M_instr_104 : decode b_M_instr 104 = .ok (.getfield 19, 3) := by decide +kernel
theorem d_M_instr_107 : decode b_M_instr 107 = .ok (.iload_n 1, 1) := by decide +kernel
theorem d_M_instr_108 : decode b_M_instr 108 = .ok (.iaload, 1) := by decide +kernel
theorem d_M_instr_109 : decode b_M_instr 109 = .ok (.iadd, 1) := by decide +kernel
theorem d_M_instr_110 : decode b_M_instr 110 = .ok (.istore 6, 2) := by decide +kernel
theorem d_M_instr_112 : decode b_M_instr 112 = .ok (.aload_n 0, 1) := by decide +kernel
theorem d_M_instr_113 : decode b_M_instr 113 = .ok (.getfield 7, 3) := by decide +kernel
theorem d_M_instr_116 : decode b_M_instr 116 = .ok (.iload 6, 2) := by decide +kernel
theorem d_M_instr_118 : decode b_M_instr 118 = .ok (.iload_n 2, 1) := by decide +kernel
theorem d_M_instr_119 : decode b_M_instr 119 = .ok (.iastore, 1) := by decide +kernel
theorem d_M_instr_120 : decode b_M_instr 120 = .ok (.aload_n 0, 1) := by decide +kernel
theorem d_M_instr_121 : decode b_M_instr 121 = .ok (.getfield 13, 3) := by decide +kernel
theorem d_M_instr_124 : decode b_M_instr 124 = .ok (.iload 6, 2) := by decide +kernel
theorem d_M_instr_126 : decode b_M_instr 126 = .ok (.iload_n 3, 1) := by decide +kernel
theorem d_M_instr_127 : decode b_M_instr 127 = .ok (.iastore, 1) := by decide +kernel
theorem d_M_instr_128 : decode b_M_instr 128 = .ok (.aload_n 0, 1) := by decide +kernel
theorem d_M_instr_129 : decode b_M_instr 129 = .ok (.getfield 16, 3) := by decide +kernel
theorem d_M_instr_132 : decode b_M_instr 132 = .ok (.iload 6, 2) := by decide +kernel
theorem d_M_instr_134 : decode b_M_instr 134 = .ok (.iload 4, 2) := by decide +kernel
theorem d_M_instr_136 : decode b_M_instr 136 = .ok (.iastore, 1) := by decide +kernel
theorem d_M_instr_137 : decode b_M_instr 137 = .ok (.aload_n 0, 1) := by decide +kernel
theorem d_M_instr_138 : decode b_M_instr 138 = .ok (.getfield 19, 3) := by decide +kernel
theorem d_M_instr_141 : decode b_M_instr 141 = .ok (.iload_n 1, 1) := by decide +kernel
theorem d_M_instr_142 : decode b_M_instr 142 = .ok (.dup2, 1) := by decide +kernel
theorem d_M_instr_143 : decode b_M_instr 143 = .ok (.iaload, 1) := by decide +kernel
theorem d_M_instr_144 : decode b_M_instr 144 = .ok (.iconst 1, 1) := by decide +kernel
theorem d_M_instr_145 : decode b_M_instr 145 = .ok (.iadd, 1) := by decide +kernel
theorem d_M_instr_146 : decode b_M_instr 146 = .ok (.iastore, 1) := by decide +kernel
theorem d_M_instr_147 : decode b_M_instr 147 = .ok (.aload_n 0, 1) := by decide +kernel
theorem d_M_instr_148 : decode b_M_instr 148 = .ok (.getfield 19, 3) := by decide +kernel
theorem d_M_instr_151 : decode b_M_instr 151 = .ok (.iload_n 1, 1) := by decide +kernel
theorem d_M_instr_152 : decode b_M_instr 152 = .ok (.iaload, 1) := by decide +kernel
theorem d_M_instr_153 : decode b_M_instr 153 = .ok (.ireturn, 1) := by decide +kernel
theorem d_M_ready_0 : decode b_M_ready 0 = .ok (.aload_n 0, 1) := by decide +kernel
theorem d_M_ready_1 : decode b_M_ready 1 = .ok (.getfield 34, 3) := by decide +kernel
theorem d_M_ready_4 : decode b_M_ready 4 = .ok (.iload_n 1, 1) := by decide +kernel
theorem d_M_ready_5 : decode b_M_ready 5 = .ok (.iconst 1, 1) := by decide +kernel
theorem d_M_ready_6 : decode b_M_ready 6 = .ok (.iastore, 1) := by decide +kernel
theorem d_M_ready_7 : decode b_M_ready 7 = .ok (.aload_n 0, 1) := by decide +kernel
theorem d_M_ready_8 : decode b_M_ready 8 = .ok (.getfield 37, 3) := by decide +kernel
theorem d_M_ready_11 : decode b_M_ready 11 = .ok (.iload_n 1, 1) := by decide +kernel
theorem d_M_ready_12 : decode b_M_ready 12 = .ok (.aload_n 0, 1) := by decide +kernel
theorem d_M_ready_13 : decode b_M_ready 13 = .ok (.invokevirtual 88, 3) := by decide +kernel
theorem d_M_ready_16 : decode b_M_ready 16 = .ok (.iastore, 1) := by decide +kernel
theorem d_M_ready_17 : decode b_M_ready 17 = .ok (.aload_n 0, 1) := by decide +kernel
theorem d_M_ready_18 : decode b_M_ready 18 = .ok (.getfield 40, 3) := by decide +kernel
theorem d_M_ready_21 : decode b_M_ready 21 = .ok (.iload_n 1, 1) := by decide +kernel
theorem d_M_ready_22 : decode b_M_ready 22 = .ok (.iconst 0, 1) := by decide +kernel
theorem d_M_ready_23 : decode b_M_ready 23 = .ok (.iastore, 1) := by decide +kernel
theorem d_M_ready_24 : decode b_M_ready 24 = .ok (.aload_n 0, 1) := by decide +kernel
theorem d_M_ready_25 : decode b_M_ready 25 = .ok (.getfield 49, 3) := by decide +kernel
theorem d_M_ready_28 : decode b_M_ready 28 = .ok (.iload_n 1, 1) := by decide +kernel
theorem d_M_ready_29 : decode b_M_ready 29 = .ok (.bipush 8, 2) := by decide +kernel
theorem d_M_ready_31 : decode b_M_ready 31 = .ok (.iastore, 1) := by decide +kernel
theorem d_M_ready_32 : decode b_M_ready 32 = .ok (.return_, 1) := by decide +kernel
theorem d_M_make_0 : decode b_M_make 0 = .ok (.aload_n 0, 1) := by decide +kernel
theorem d_M_make_1 : decode b_M_make 1 = .ok (.getfield 81, 3) := by decide +kernel
theorem d_M_make_4 : decode b_M_make 4 = .ok (.bipush 8, 2) := by decide +kernel
theorem d_M_make_6 : decode b_M_make 6 = .ok (.if_icmp .ne 5, 3) := by decide +kernel
theorem d_M_make_9 : decode b_M_make 9 = .ok (.iconst (-1), 1) := by decide +kernel
theorem d_M_make_10 : decode b_M_make 10 = .ok (.ireturn, 1) := by decide +kernel
theorem d_M_make_11 : decode b_M_make 11 = .ok (.aload_n 0, 1) := by decide +kernel
theorem d_M_make_12 : decode b_M_make 12 = .ok (.getfield 81, 3) := by decide +kernel
theorem d_M_make_15 : decode b_M_make 15 = .ok (.istore_n 3, 1) := by decide +kernel
theorem d_M_make_16 : decode b_M_make 16 = .ok (.aload_n 0, 1) := by decide +kernel
theorem d_M_make_17 : decode b_M_make 17 = .ok (.dup, 1) := by decide +kernel
theorem d_M_make_18 : decode b_M_make 18 = .ok (.getfield 81, 3) := by decide +kernel
theorem d_M_make_21 : decode b_M_make 21 = .ok (.iconst 1, 1) := by decide +kernel
theorem d_M_make_22 : decode b_M_make 22 = .ok (.iadd, 1) := by decide +kernel
theorem d_M_make_23 : decode b_M_make 23 = .ok (.putfield 81, 3) := by decide +kernel
theorem d_M_make_26 : decode b_M_make 26 = .ok (.aload_n 0, 1) := by decide +kernel
theorem d_M_make_27 : decode b_M_make 27 = .ok (.getfield 22, 3) := by decide +kernel
theorem d_M_make_30 : decode b_M_make 30 = .ok (.iload_n 3, 1) := by decide +kernel
theorem d_M_make_31 : decode b_M_make 31 = .ok (.iload_n 1, 1) := by decide +kernel
theorem d_M_make_32 : decode b_M_make 32 = .ok (.iastore, 1) := by decide +kernel
theorem d_M_make_33 : decode b_M_make 33 = .ok (.aload_n 0, 1) := by decide +kernel
theorem d_M_make_34 : decode b_M_make 34 = .ok (.getfield 31, 3) := by decide +kernel
theorem d_M_make_37 : decode b_M_make 37 = .ok (.iload_n 3, 1) := by decide +kernel
theorem d_M_make_38 : decode b_M_make 38 = .ok (.iload_n 2, 1) := by decide +kernel
theorem d_M_make_39 : decode b_M_make 39 = .ok (.iastore, 1) := by decide +kernel
theorem d_M_make_40 : decode b_M_make 40 = .ok (.iconst 0, 1) := by decide +kernel
theorem d_M_make_41 : decode b_M_make 41 = .ok (.istore 4, 2) := by decide +kernel
theorem d_M_make_43 : decode b_M_make 43 = .ok (.iload 4, 2) := by decide +kernel
theorem d_M_make_45 : decode b_M_make 45 = .ok (.iconst 3, 1) := by decide +kernel
theorem d_M_make_46 : decode b_M_make 46 = .ok (.if_icmp .ge 22, 3) := by decide +kernel
theorem d_M_make_49 : decode b_M_make 49 = .ok (.aload_n 0, 1) := by decide +kernel
theorem d_M_make_50 : decode b_M_make 50 = .ok (.getfield 74, 3) := by decide +kernel
theorem d_M_make_53 : decode b_M_make 53 = .ok (.bipush 8, 2) := by decide +kernel
theorem d_M_make_55 : decode b_M_make 55 = .ok (.iload 4, 2) := by decide +kernel
theorem d_M_make_57 : decode b_M_make 57 = .ok (.imul, 1) := by decide +kernel
theorem d_M_make_58 : decode b_M_make 58 = .ok (.iload_n 3, 1) := by decide +kernel
theorem d_M_make_59 : decode b_M_make 59 = .ok (.iadd, 1) := by decide +kernel
theorem d_M_make_60 : decode b_M_make 60 = .ok (.iload_n 2, 1) := by decide +kernel
theorem d_M_make_61 : decode b_M_make 61 = .ok (.iastore, 1) := by decide +kernel
theorem d_M_make_62 : decode b_M_make 62 = .ok (.iinc 4 1, 3) := by decide +kernel
theorem d_M_make_65 : decode b_M_make 65 = .ok (.goto (-22), 3) := by decide +kernel
theorem d_M_make_68 : decode b_M_make 68 = .ok (.aload_n 0, 1) := by decide +kernel
theorem d_M_make_69 : decode b_M_make 69 = .ok (.iload_n 3, 1) := by decide +kernel
theorem d_M_make_70 : decode b_M_make 70 = .ok (.invokevirtual 92, 3) := by decide +kernel
theorem d_M_make_73 : decode b_M_make 73 = .ok (.iload_n 3, 1) := by decide +kernel
theorem d_M_make_74 : decode b_M_make 74 = .ok (.ireturn, 1) := by decide +kernel
theorem d_M_spawn_0 : decode b_M_spawn 0 = .ok (.iload_n 1, 1) := by decide +kernel
theorem d_M_spawn_1 : decode b_M_spawn 1 = .ok (.iconst 3, 1) := by decide +kernel
theorem d_M_spawn_2 : decode b_M_spawn 2 = .ok (.invokestatic 84, 3) := by decide +kernel
theorem d_M_spawn_5 : decode b_M_spawn 5 = .ok (.ifCond .ne 11, 3) := by decide +kernel
theorem d_M_spawn_8 : decode b_M_spawn 8 = .ok (.iload_n 2, 1) := by decide +kernel
theorem d_M_spawn_9 : decode b_M_spawn 9 = .ok (.iconst 2, 1) := by decide +kernel
theorem d_M_spawn_10 : decode b_M_spawn 10 = .ok (.invokestatic 84, 3) := by decide +kernel
theorem d_M_spawn_13 : decode b_M_spawn 13 = .ok (.ifCond .eq 5, 3) := by decide +kernel
theorem d_M_spawn_16 : decode b_M_spawn 16 = .ok (.iconst (-1), 1) := by decide +kernel
theorem d_M_spawn_17 : decode b_M_spawn 17 = .ok (.ireturn, 1) := by decide +kernel
theorem d_M_spawn_18 : decode b_M_spawn 18 = .ok (.aload_n 0, 1) := by decide +kernel
theorem d_M_spawn_19 : decode b_M_spawn 19 = .ok (.iload_n 1, 1) := by decide +kernel
theorem d_M_spawn_20 : decode b_M_spawn 20 = .ok (.iload_n 2, 1) := by decide +kernel
theorem d_M_spawn_21 : decode b_M_spawn 21 = .ok (.invokevirtual 96, 3) := by decide +kernel
theorem d_M_spawn_24 : decode b_M_spawn 24 = .ok (.istore_n 3, 1) := by decide +kernel
theorem d_M_spawn_25 : decode b_M_spawn 25 = .ok (.iload_n 3, 1) := by decide +kernel
theorem d_M_spawn_26 : decode b_M_spawn 26 = .ok (.ifCond .ge 8, 3) := by decide +kernel
theorem d_M_spawn_29 : decode b_M_spawn 29 = .ok (.bipush (-2), 2) := by decide +kernel
theorem d_M_spawn_31 : decode b_M_spawn 31 = .ok (.goto 4, 3) := by decide +kernel
theorem d_M_spawn_34 : decode b_M_spawn 34 = .ok (.iload_n 3, 1) := by decide +kernel
theorem d_M_spawn_35 : decode b_M_spawn 35 = .ok (.ireturn, 1) := by decide +kernel
theorem d_M_standing_0 : decode b_M_standing 0 = .ok (.iconst 0, 1) := by decide +kernel
theorem d_M_standing_1 : decode b_M_standing 1 = .ok (.istore_n 3, 1) := by decide +kernel
theorem d_M_standing_2 : decode b_M_standing 2 = .ok (.iload_n 3, 1) := by decide +kernel
theorem d_M_standing_3 : decode b_M_standing 3 = .ok (.aload_n 0, 1) := by decide +kernel
theorem d_M_standing_4 : decode b_M_standing 4 = .ok (.getfield 81, 3) := by decide +kernel
theorem d_M_standing_7 : decode b_M_standing 7 = .ok (.if_icmp .ge 102, 3) := by decide +kernel
theorem d_M_standing_10 : decode b_M_standing 10 = .ok (.aload_n 0, 1) := by decide +kernel
theorem d_M_standing_11 : decode b_M_standing 11 = .ok (.getfield 34, 3) := by decide +kernel
theorem d_M_standing_14 : decode b_M_standing 14 = .ok (.iload_n 3, 1) := by decide +kernel
theorem d_M_standing_15 : decode b_M_standing 15 = .ok (.iaload, 1) := by decide +kernel
theorem d_M_standing_16 : decode b_M_standing 16 = .ok (.iconst 1, 1) := by decide +kernel
theorem d_M_standing_17 : decode b_M_standing 17 = .ok (.if_icmp .ne 86, 3) := by decide +kernel
theorem d_M_standing_20 : decode b_M_standing 20 = .ok (.aload_n 0, 1) := by decide +kernel
theorem d_M_standing_21 : decode b_M_standing 21 = .ok (.getfield 31, 3) := by decide +kernel
theorem d_M_standing_24 : decode b_M_standing 24 = .ok (.iload_n 3, 1) := by decide +kernel
theorem d_M_standing_25 : decode b_M_standing 25 = .ok (.iaload, 1) := by decide +kernel
theorem d_M_standing_26 : decode b_M_standing 26 = .ok (.iload_n 1, 1) := by decide +kernel
theorem d_M_standing_27 : decode b_M_standing 27 = .ok (.if_icmp .eq 6, 3) := by decide +kernel
theorem d_M_standing_30 : decode b_M_standing 30 = .ok (.goto 73, 3) := by decide +kernel
theorem d_M_standing_33 : decode b_M_standing 33 = .ok (.iconst 0, 1) := by decide +kernel
theorem d_M_standing_34 : decode b_M_standing 34 = .ok (.istore 4, 2) := by decide +kernel
theorem d_M_standing_36 : decode b_M_standing 36 = .ok (.iconst 0, 1) := by decide +kernel
theorem d_M_standing_37 : decode b_M_standing 37 = .ok (.istore 5, 2) := by decide +kernel
theorem d_M_standing_39 : decode b_M_standing 39 = .ok (.iload 5, 2) := by decide +kernel
theorem d_M_standing_41 : decode b_M_standing 41 = .ok (.aload_n 0, 1) := by decide +kernel
theorem d_M_standing_42 : decode b_M_standing 42 = .ok (.getfield 81, 3) := by decide +kernel
theorem d_M_standing_45 : decode b_M_standing 45 = .ok (.if_icmp .ge 50, 3) := by decide +kernel
theorem d_M_standing_48 : decode b_M_standing 48 = .ok (.aload_n 0, 1) := by decide +kernel
theorem d_M_standing_49 : decode b_M_standing 49 = .ok (.getfield 34, 3) := by decide +kernel
theorem d_M_standing_52 : decode b_M_standing 52 = .ok (.iload 5, 2) := by decide +kernel
theorem d_M_standing_54 : decode b_M_standing 54 = .ok (.iaload, 1) := by decide +kernel
theorem d_M_standing_55 : decode b_M_standing 55 = .ok (.iconst 1, 1) := by decide +kernel
theorem d_M_standing_56 : decode b_M_standing 56 = .ok (.if_icmp .ne 33, 3) := by decide +kernel
theorem d_M_standing_59 : decode b_M_standing 59 = .ok (.aload_n 0, 1) := by decide +kernel
theorem d_M_standing_60 : decode b_M_standing 60 = .ok (.getfield 31, 3) := by decide +kernel
theorem d_M_standing_63 : decode b_M_standing 63 = .ok (.iload 5, 2) := by decide +kernel
theorem d_M_standing_65 : decode b_M_standing 65 = .ok (.iaload, 1) := by decide +kernel
theorem d_M_standing_66 : decode b_M_standing 66 = .ok (.iload_n 1, 1) := by decide +kernel
theorem d_M_standing_67 : decode b_M_standing 67 = .ok (.if_icmp .ne 22, 3) := by decide +kernel
theorem d_M_standing_70 : decode b_M_standing 70 = .ok (.aload_n 0, 1) := by decide +kernel
theorem d_M_standing_71 : decode b_M_standing 71 = .ok (.getfield 37, 3) := by decide +kernel
theorem d_M_standing_74 : decode b_M_standing 74 = .ok (.iload 5, 2) := by decide +kernel
theorem d_M_standing_76 : decode b_M_standing 76 = .ok (.iaload, 1) := by decide +kernel
theorem d_M_standing_77 : decode b_M_standing 77 = .ok (.aload_n 0, 1) := by decide +kernel
theorem d_M_standing_78 : decode b_M_standing 78 = .ok (.getfield 37, 3) := by decide +kernel
theorem d_M_standing_81 : decode b_M_standing 81 = .ok (.iload_n 3, 1) := by decide +kernel
theorem d_M_standing_82 : decode b_M_standing 82 = .ok (.iaload, 1) := by decide +kernel
theorem d_M_standing_83 : decode b_M_standing 83 = .ok (.if_icmp .ge 6, 3) := by decide +kernel
theorem d_M_standing_86 : decode b_M_standing 86 = .ok (.iinc 4 1, 3) := by decide +kernel
theorem d_M_standing_89 : decode b_M_standing 89 = .ok (.iinc 5 1, 3) := by decide +kernel
theorem d_M_standing_92 : decode b_M_standing 92 = .ok (.goto (-53), 3) := by decide +kernel
theorem d_M_standing_95 : decode b_M_standing 95 = .ok (.iload 4, 2) := by decide +kernel
theorem d_M_standing_97 : decode b_M_standing 97 = .ok (.iload_n 2, 1) := by decide +kernel
theorem d_M_standing_98 : decode b_M_standing 98 = .ok (.if_icmp .ne 5, 3) := by decide +kernel
theorem d_M_standing_101 : decode b_M_standing 101 = .ok (.iload_n 3, 1) := by decide +kernel
theorem d_M_standing_102 : decode b_M_standing 102 = .ok (.ireturn, 1) := by decide +kernel
theorem d_M_standing_103 : decode b_M_standing 103 = .ok (.iinc 3 1, 3) := by decide +kernel
theorem d_M_standing_106 : decode b_M_standing 106 = .ok (.goto (-104), 3) := by decide +kernel
theorem d_M_standing_109 : decode b_M_standing 109 = .ok (.bipush 8, 2) := by decide +kernel
theorem d_M_standing_111 : decode b_M_standing 111 = .ok (.ireturn, 1) := by decide +kernel
theorem d_M_end_0 : decode b_M_end 0 = .ok (.aload_n 0, 1) := by decide +kernel
theorem d_M_end_1 : decode b_M_end 1 = .ok (.getfield 34, 3) := by decide +kernel
theorem d_M_end_4 : decode b_M_end 4 = .ok (.iload_n 1, 1) := by decide +kernel
theorem d_M_end_5 : decode b_M_end 5 = .ok (.iconst 4, 1) := by decide +kernel
theorem d_M_end_6 : decode b_M_end 6 = .ok (.iastore, 1) := by decide +kernel
theorem d_M_end_7 : decode b_M_end 7 = .ok (.aload_n 0, 1) := by decide +kernel
theorem d_M_end_8 : decode b_M_end 8 = .ok (.getfield 43, 3) := by decide +kernel
theorem d_M_end_11 : decode b_M_end 11 = .ok (.iload_n 1, 1) := by decide +kernel
theorem d_M_end_12 : decode b_M_end 12 = .ok (.iload_n 2, 1) := by decide +kernel
theorem d_M_end_13 : decode b_M_end 13 = .ok (.iastore, 1) := by decide +kernel
theorem d_M_end_14 : decode b_M_end 14 = .ok (.aload_n 0, 1) := by decide +kernel
theorem d_M_end_15 : decode b_M_end 15 = .ok (.getfield 49, 3) := by decide +kernel
theorem d_M_end_18 : decode b_M_end 18 = .ok (.iload_n 1, 1) := by decide +kernel
theorem d_M_end_19 : decode b_M_end 19 = .ok (.bipush 8, 2) := by decide +kernel
theorem d_M_end_21 : decode b_M_end 21 = .ok (.iastore, 1) := by decide +kernel
theorem d_M_end_22 : decode b_M_end 22 = .ok (.iconst 0, 1) := by decide +kernel
theorem d_M_end_23 : decode b_M_end 23 = .ok (.istore_n 3, 1) := by decide +kernel
theorem d_M_end_24 : decode b_M_end 24 = .ok (.iload_n 3, 1) := by decide +kernel
theorem d_M_end_25 : decode b_M_end 25 = .ok (.aload_n 0, 1) := by decide +kernel
theorem d_M_end_26 : decode b_M_end 26 = .ok (.getfield 81, 3) := by decide +kernel
theorem d_M_end_29 : decode b_M_end 29 = .ok (.if_icmp .ge 34, 3) := by decide +kernel
theorem d_M_end_32 : decode b_M_end 32 = .ok (.aload_n 0, 1) := by decide +kernel
theorem d_M_end_33 : decode b_M_end 33 = .ok (.getfield 34, 3) := by decide +kernel
theorem d_M_end_36 : decode b_M_end 36 = .ok (.iload_n 3, 1) := by decide +kernel
theorem d_M_end_37 : decode b_M_end 37 = .ok (.iaload, 1) := by decide +kernel
theorem d_M_end_38 : decode b_M_end 38 = .ok (.iconst 3, 1) := by decide +kernel
theorem d_M_end_39 : decode b_M_end 39 = .ok (.if_icmp .ne 18, 3) := by decide +kernel
theorem d_M_end_42 : decode b_M_end 42 = .ok (.aload_n 0, 1) := by decide +kernel
theorem d_M_end_43 : decode b_M_end 43 = .ok (.getfield 46, 3) := by decide +kernel
theorem d_M_end_46 : decode b_M_end 46 = .ok (.iload_n 3, 1) := by decide +kernel
theorem d_M_end_47 : decode b_M_end 47 = .ok (.iaload, 1) := by decide +kernel
theorem d_M_end_48 : decode b_M_end 48 = .ok (.iload_n 1, 1) := by decide +kernel
theorem d_M_end_49 : decode b_M_end 49 = .ok (.if_icmp .ne 8, 3) := by decide +kernel
theorem d_M_end_52 : decode b_M_end 52 = .ok (.aload_n 0, 1) := by decide +kernel
theorem d_M_end_53 : decode b_M_end 53 = .ok (.iload_n 3, 1) := by decide +kernel
theorem d_M_end_54 : decode b_M_end 54 = .ok (.invokevirtual 92, 3) := by decide +kernel
theorem d_M_end_57 : decode b_M_end 57 = .ok (.iinc 3 1, 3) := by decide +kernel
theorem d_M_end_60 : decode b_M_end 60 = .ok (.goto (-36), 3) := by decide +kernel
theorem d_M_end_63 : decode b_M_end 63 = .ok (.return_, 1) := by decide +kernel
theorem d_M_ended_0 : decode b_M_ended 0 = .ok (.aload_n 0, 1) := by decide +kernel
theorem d_M_ended_1 : decode b_M_ended 1 = .ok (.iload_n 1, 1) := by decide +kernel
theorem d_M_ended_2 : decode b_M_ended 2 = .ok (.invokevirtual 100, 3) := by decide +kernel
theorem d_M_ended_5 : decode b_M_ended 5 = .ok (.ifCond .ne 17, 3) := by decide +kernel
theorem d_M_ended_8 : decode b_M_ended 8 = .ok (.aload_n 0, 1) := by decide +kernel
theorem d_M_ended_9 : decode b_M_ended 9 = .ok (.getfield 34, 3) := by decide +kernel
theorem d_M_ended_12 : decode b_M_ended 12 = .ok (.iload_n 1, 1) := by decide +kernel
theorem d_M_ended_13 : decode b_M_ended 13 = .ok (.iaload, 1) := by decide +kernel
theorem d_M_ended_14 : decode b_M_ended 14 = .ok (.iconst 4, 1) := by decide +kernel
theorem d_M_ended_15 : decode b_M_ended 15 = .ok (.if_icmp .ne 7, 3) := by decide +kernel
theorem d_M_ended_18 : decode b_M_ended 18 = .ok (.iconst 1, 1) := by decide +kernel
theorem d_M_ended_19 : decode b_M_ended 19 = .ok (.goto 4, 3) := by decide +kernel
theorem d_M_ended_22 : decode b_M_ended 22 = .ok (.iconst 0, 1) := by decide +kernel
theorem d_M_ended_23 : decode b_M_ended 23 = .ok (.ireturn, 1) := by decide +kernel
theorem d_M_fault_0 : decode b_M_fault 0 = .ok (.iload_n 2, 1) := by decide +kernel
theorem d_M_fault_1 : decode b_M_fault 1 = .ok (.iconst 2, 1) := by decide +kernel
theorem d_M_fault_2 : decode b_M_fault 2 = .ok (.if_icmp .lt 8, 3) := by decide +kernel
theorem d_M_fault_5 : decode b_M_fault 5 = .ok (.iload_n 2, 1) := by decide +kernel
theorem d_M_fault_6 : decode b_M_fault 6 = .ok (.iconst 4, 1) := by decide +kernel
theorem d_M_fault_7 : decode b_M_fault 7 = .ok (.if_icmp .le 5, 3) := by decide +kernel
theorem d_M_fault_10 : decode b_M_fault 10 = .ok (.iconst 0, 1) := by decide +kernel
theorem d_M_fault_11 : decode b_M_fault 11 = .ok (.ireturn, 1) := by decide +kernel
theorem d_M_fault_12 : decode b_M_fault 12 = .ok (.aload_n 0, 1) := by decide +kernel
theorem d_M_fault_13 : decode b_M_fault 13 = .ok (.getfield 65, 3) := by decide +kernel
theorem d_M_fault_16 : decode b_M_fault 16 = .ok (.bipush 8, 2) := by decide +kernel
theorem d_M_fault_18 : decode b_M_fault 18 = .ok (.aload_n 0, 1) := by decide +kernel
theorem d_M_fault_19 : decode b_M_fault 19 = .ok (.getfield 31, 3) := by decide +kernel
theorem d_M_fault_22 : decode b_M_fault 22 = .ok (.iload_n 1, 1) := by decide +kernel
theorem d_M_fault_23 : decode b_M_fault 23 = .ok (.iaload, 1) := by decide +kernel
theorem d_M_fault_24 : decode b_M_fault 24 = .ok (.imul, 1) := by decide +kernel
theorem d_M_fault_25 : decode b_M_fault 25 = .ok (.iload_n 3, 1) := by decide +kernel
theorem d_M_fault_26 : decode b_M_fault 26 = .ok (.iconst 4, 1) := by decide +kernel
theorem d_M_fault_27 : decode b_M_fault 27 = .ok (.idiv, 1) := by decide +kernel
theorem d_M_fault_28 : decode b_M_fault 28 = .ok (.iadd, 1) := by decide +kernel
theorem d_M_fault_29 : decode b_M_fault 29 = .ok (.iaload, 1) := by decide +kernel
theorem d_M_fault_30 : decode b_M_fault 30 = .ok (.istore 4, 2) := by decide +kernel
theorem d_M_fault_32 : decode b_M_fault 32 = .ok (.iload 4, 2) := by decide +kernel
theorem d_M_fault_34 : decode b_M_fault 34 = .ok (.iconst 2, 1) := by decide +kernel
theorem d_M_fault_35 : decode b_M_fault 35 = .ok (.if_icmp .eq 14, 3) := by decide +kernel
theorem d_M_fault_38 : decode b_M_fault 38 = .ok (.iload 4, 2) := by decide +kernel
theorem d_M_fault_40 : decode b_M_fault 40 = .ok (.iconst 1, 1) := by decide +kernel
theorem d_M_fault_41 : decode b_M_fault 41 = .ok (.if_icmp .ne 10, 3) := by decide +kernel
theorem d_M_fault_44 : decode b_M_fault 44 = .ok (.iload_n 2, 1) := by decide +kernel
theorem d_M_fault_45 : decode b_M_fault 45 = .ok (.iconst 2, 1) := by decide +kernel
theorem d_M_fault_46 : decode b_M_fault 46 = .ok (.if_icmp .ne 5, 3) := by decide +kernel
theorem d_M_fault_49 : decode b_M_fault 49 = .ok (.iconst 0, 1) := by decide +kernel
theorem d_M_fault_50 : decode b_M_fault 50 = .ok (.ireturn, 1) := by decide +kernel
theorem d_M_fault_51 : decode b_M_fault 51 = .ok (.aload_n 0, 1) := by decide +kernel
theorem d_M_fault_52 : decode b_M_fault 52 = .ok (.dup, 1) := by decide +kernel
theorem d_M_fault_53 : decode b_M_fault 53 = .ok (.getfield 104, 3) := by decide +kernel
theorem d_M_fault_56 : decode b_M_fault 56 = .ok (.iconst 1, 1) := by decide +kernel
theorem d_M_fault_57 : decode b_M_fault 57 = .ok (.iadd, 1) := by decide +kernel
theorem d_M_fault_58 : decode b_M_fault 58 = .ok (.putfield 104, 3) := by decide +kernel
theorem d_M_fault_61 : decode b_M_fault 61 = .ok (.aload_n 0, 1) := by decide +kernel
theorem d_M_fault_62 : decode b_M_fault 62 = .ok (.getfield 34, 3) := by decide +kernel
theorem d_M_fault_65 : decode b_M_fault 65 = .ok (.iload_n 1, 1) := by decide +kernel
theorem d_M_fault_66 : decode b_M_fault 66 = .ok (.iconst 2, 1) := by decide +kernel
theorem d_M_fault_67 : decode b_M_fault 67 = .ok (.iastore, 1) := by decide +kernel
theorem d_M_fault_68 : decode b_M_fault 68 = .ok (.aload_n 0, 1) := by decide +kernel
theorem d_M_fault_69 : decode b_M_fault 69 = .ok (.getfield 49, 3) := by decide +kernel
theorem d_M_fault_72 : decode b_M_fault 72 = .ok (.iload_n 1, 1) := by decide +kernel
theorem d_M_fault_73 : decode b_M_fault 73 = .ok (.iload_n 3, 1) := by decide +kernel
theorem d_M_fault_74 : decode b_M_fault 74 = .ok (.iconst 4, 1) := by decide +kernel
theorem d_M_fault_75 : decode b_M_fault 75 = .ok (.idiv, 1) := by decide +kernel
theorem d_M_fault_76 : decode b_M_fault 76 = .ok (.iastore, 1) := by decide +kernel
theorem d_M_fault_77 : decode b_M_fault 77 = .ok (.aload_n 0, 1) := by decide +kernel
theorem d_M_fault_78 : decode b_M_fault 78 = .ok (.getfield 52, 3) := by decide +kernel
theorem d_M_fault_81 : decode b_M_fault 81 = .ok (.iload_n 1, 1) := by decide +kernel
theorem d_M_fault_82 : decode b_M_fault 82 = .ok (.aload_n 0, 1) := by decide +kernel
theorem d_M_fault_83 : decode b_M_fault 83 = .ok (.invokevirtual 88, 3) := by decide +kernel
theorem d_M_fault_86 : decode b_M_fault 86 = .ok (.iastore, 1) := by decide +kernel
theorem d_M_fault_87 : decode b_M_fault 87 = .ok (.aload_n 0, 1) := by decide +kernel
theorem d_M_fault_88 : decode b_M_fault 88 = .ok (.getfield 55, 3) := by decide +kernel
theorem d_M_fault_91 : decode b_M_fault 91 = .ok (.iload_n 1, 1) := by decide +kernel
theorem d_M_fault_92 : decode b_M_fault 92 = .ok (.iload_n 3, 1) := by decide +kernel
theorem d_M_fault_93 : decode b_M_fault 93 = .ok (.iconst 4, 1) := by decide +kernel
theorem d_M_fault_94 : decode b_M_fault 94 = .ok (.idiv, 1) := by decide +kernel
theorem d_M_fault_95 : decode b_M_fault 95 = .ok (.iastore, 1) := by decide +kernel
theorem d_M_fault_96 : decode b_M_fault 96 = .ok (.aload_n 0, 1) := by decide +kernel
theorem d_M_fault_97 : decode b_M_fault 97 = .ok (.getfield 58, 3) := by decide +kernel
theorem d_M_fault_100 : decode b_M_fault 100 = .ok (.iload_n 1, 1) := by decide +kernel
theorem d_M_fault_101 : decode b_M_fault 101 = .ok (.iload_n 2, 1) := by decide +kernel
theorem d_M_fault_102 : decode b_M_fault 102 = .ok (.iconst 2, 1) := by decide +kernel
theorem d_M_fault_103 : decode b_M_fault 103 = .ok (.if_icmp .eq 7, 3) := by decide +kernel
theorem d_M_fault_106 : decode b_M_fault 106 = .ok (.iconst 1, 1) := by decide +kernel
theorem d_M_fault_107 : decode b_M_fault 107 = .ok (.goto 4, 3) := by decide +kernel
theorem d_M_fault_110 : decode b_M_fault 110 = .ok (.iconst 0, 1) := by decide +kernel
theorem d_M_fault_111 : decode b_M_fault 111 = .ok (.bastore, 1) := by decide +kernel
theorem d_M_fault_112 : decode b_M_fault 112 = .ok (.iconst 1, 1) := by decide +kernel
theorem d_M_fault_113 : decode b_M_fault 113 = .ok (.ireturn, 1) := by decide +kernel
theorem d_M_touch_0 : decode b_M_touch 0 = .ok (.iload_n 2, 1) := by decide +kernel
theorem d_M_touch_1 : decode b_M_touch 1 = .ok (.iconst 2, 1) := by decide +kernel
theorem d_M_touch_2 : decode b_M_touch 2 = .ok (.if_icmp .ne 19, 3) := by decide +kernel
theorem d_M_touch_5 : decode b_M_touch 5 = .ok (.aload_n 0, 1) := by decide +kernel
theorem d_M_touch_6 : decode b_M_touch 6 = .ok (.getfield 25, 3) := by decide +kernel
theorem d_M_touch_9 : decode b_M_touch 9 = .ok (.iload_n 3, 1) := by decide +kernel
theorem d_M_touch_10 : decode b_M_touch 10 = .ok (.aload_n 0, 1) := by decide +kernel
theorem d_M_touch_11 : decode b_M_touch 11 = .ok (.getfield 62, 3) := by decide +kernel
theorem d_M_touch_14 : decode b_M_touch 14 = .ok (.iload 4, 2) := by decide +kernel
theorem d_M_touch_16 : decode b_M_touch 16 = .ok (.iaload, 1) := by decide +kernel
theorem d_M_touch_17 : decode b_M_touch 17 = .ok (.iastore, 1) := by decide +kernel
theorem d_M_touch_18 : decode b_M_touch 18 = .ok (.goto 90, 3) := by decide +kernel
theorem d_M_touch_21 : decode b_M_touch 21 = .ok (.iload_n 2, 1) := by decide +kernel
theorem d_M_touch_22 : decode b_M_touch 22 = .ok (.iconst 3, 1) := by decide +kernel
theorem d_M_touch_23 : decode b_M_touch 23 = .ok (.if_icmp .ne 19, 3) := by decide +kernel
theorem d_M_touch_26 : decode b_M_touch 26 = .ok (.aload_n 0, 1) := by decide +kernel
theorem d_M_touch_27 : decode b_M_touch 27 = .ok (.getfield 62, 3) := by decide +kernel
theorem d_M_touch_30 : decode b_M_touch 30 = .ok (.iload 4, 2) := by decide +kernel
theorem d_M_touch_32 : decode b_M_touch 32 = .ok (.aload_n 0, 1) := by decide +kernel
theorem d_M_touch_33 : decode b_M_touch 33 = .ok (.getfield 25, 3) := by decide +kernel
theorem d_M_touch_36 : decode b_M_touch 36 = .ok (.iload_n 3, 1) := by decide +kernel
theorem d_M_touch_37 : decode b_M_touch 37 = .ok (.iaload, 1) := by decide +kernel
theorem d_M_touch_38 : decode b_M_touch 38 = .ok (.iastore, 1) := by decide +kernel
theorem d_M_touch_39 : decode b_M_touch 39 = .ok (.goto 69, 3) := by decide +kernel
theorem d_M_touch_42 : decode b_M_touch 42 = .ok (.iconst 4, 1) := by decide +kernel
theorem d_M_touch_43 : decode b_M_touch 43 = .ok (.iload_n 1, 1) := by decide +kernel
theorem d_M_touch_44 : decode b_M_touch 44 = .ok (.imul, 1) := by decide +kernel
theorem d_M_touch_45 : decode b_M_touch 45 = .ok (.iconst 3, 1) := by decide +kernel
theorem d_M_touch_46 : decode b_M_touch 46 = .ok (.iadd, 1) := by decide +kernel
theorem d_M_touch_47 : decode b_M_touch 47 = .ok (.istore 5, 2) := by decide +kernel
theorem d_M_touch_49 : decode b_M_touch 49 = .ok (.aload_n 0, 1) := by decide +kernel
theorem d_M_touch_50 : decode b_M_touch 50 = .ok (.getfield 62, 3) := by decide +kernel
theorem d_M_touch_53 : decode b_M_touch 53 = .ok (.iload 4, 2) := by decide +kernel
theorem d_M_touch_55 : decode b_M_touch 55 = .ok (.iaload, 1) := by decide +kernel
theorem d_M_touch_56 : decode b_M_touch 56 = .ok (.aload_n 0, 1) := by decide +kernel
theorem d_M_touch_57 : decode b_M_touch 57 = .ok (.getfield 25, 3) := by decide +kernel
theorem d_M_touch_60 : decode b_M_touch 60 = .ok (.iload 5, 2) := by decide +kernel
theorem d_M_touch_62 : decode b_M_touch 62 = .ok (.iaload, 1) := by decide +kernel
theorem d_M_touch_63 : decode b_M_touch 63 = .ok (.if_icmp .ne 7, 3) := by decide +kernel
theorem d_M_touch_66 : decode b_M_touch 66 = .ok (.iconst 1, 1) := by decide +kernel
theorem d_M_touch_67 : decode b_M_touch 67 = .ok (.goto 4, 3) := by decide +kernel
theorem d_M_touch_70 : decode b_M_touch 70 = .ok (.iconst 0, 1) := by decide +kernel
theorem d_M_touch_71 : decode b_M_touch 71 = .ok (.istore 6, 2) := by decide +kernel
theorem d_M_touch_73 : decode b_M_touch 73 = .ok (.iload 6, 2) := by decide +kernel
theorem d_M_touch_75 : decode b_M_touch 75 = .ok (.ifCond .eq 16, 3) := by decide +kernel
theorem d_M_touch_78 : decode b_M_touch 78 = .ok (.aload_n 0, 1) := by decide +kernel
theorem d_M_touch_79 : decode b_M_touch 79 = .ok (.getfield 62, 3) := by decide +kernel
theorem d_M_touch_82 : decode b_M_touch 82 = .ok (.iload 4, 2) := by decide +kernel
theorem d_M_touch_84 : decode b_M_touch 84 = .ok (.aload_n 0, 1) := by decide +kernel
theorem d_M_touch_85 : decode b_M_touch 85 = .ok (.getfield 25, 3) := by decide +kernel
theorem d_M_touch_88 : decode b_M_touch 88 = .ok (.iload_n 3, 1) := by decide +kernel
theorem d_M_touch_89 : decode b_M_touch 89 = .ok (.iaload, 1) := by decide +kernel
theorem d_M_touch_90 : decode b_M_touch 90 = .ok (.iastore, 1) := by decide +kernel
theorem d_M_touch_91 : decode b_M_touch 91 = .ok (.aload_n 0, 1) := by decide +kernel
theorem d_M_touch_92 : decode b_M_touch 92 = .ok (.getfield 25, 3) := by decide +kernel
theorem d_M_touch_95 : decode b_M_touch 95 = .ok (.iload 5, 2) := by decide +kernel
theorem d_M_touch_97 : decode b_M_touch 97 = .ok (.iload 6, 2) := by decide +kernel
theorem d_M_touch_99 : decode b_M_touch 99 = .ok (.ifCond .eq 7, 3) := by decide +kernel
theorem d_M_touch_102 : decode b_M_touch 102 = .ok (.iconst 1, 1) := by decide +kernel
theorem d_M_touch_103 : decode b_M_touch 103 = .ok (.goto 4, 3) := by decide +kernel
theorem d_M_touch_106 : decode b_M_touch 106 = .ok (.iconst 0, 1) := by decide +kernel
theorem d_M_touch_107 : decode b_M_touch 107 = .ok (.iastore, 1) := by decide +kernel
theorem d_M_touch_108 : decode b_M_touch 108 = .ok (.aload_n 0, 1) := by decide +kernel
theorem d_M_touch_109 : decode b_M_touch 109 = .ok (.getfield 68, 3) := by decide +kernel
theorem d_M_touch_112 : decode b_M_touch 112 = .ok (.bipush 8, 2) := by decide +kernel
theorem d_M_touch_114 : decode b_M_touch 114 = .ok (.aload_n 0, 1) := by decide +kernel
theorem d_M_touch_115 : decode b_M_touch 115 = .ok (.getfield 31, 3) := by decide +kernel
theorem d_M_touch_118 : decode b_M_touch 118 = .ok (.iload_n 1, 1) := by decide +kernel
theorem d_M_touch_119 : decode b_M_touch 119 = .ok (.iaload, 1) := by decide +kernel
theorem d_M_touch_120 : decode b_M_touch 120 = .ok (.imul, 1) := by decide +kernel
theorem d_M_touch_121 : decode b_M_touch 121 = .ok (.iload 4, 2) := by decide +kernel
theorem d_M_touch_123 : decode b_M_touch 123 = .ok (.iconst 4, 1) := by decide +kernel
theorem d_M_touch_124 : decode b_M_touch 124 = .ok (.idiv, 1) := by decide +kernel
theorem d_M_touch_125 : decode b_M_touch 125 = .ok (.iadd, 1) := by decide +kernel
theorem d_M_touch_126 : decode b_M_touch 126 = .ok (.aload_n 0, 1) := by decide +kernel
theorem d_M_touch_127 : decode b_M_touch 127 = .ok (.invokevirtual 88, 3) := by decide +kernel
theorem d_M_touch_130 : decode b_M_touch 130 = .ok (.iastore, 1) := by decide +kernel
theorem d_M_touch_131 : decode b_M_touch 131 = .ok (.return_, 1) := by decide +kernel
theorem d_M_perform_0 : decode b_M_perform 0 = .ok (.aload_n 0, 1) := by decide +kernel
theorem d_M_perform_1 : decode b_M_perform 1 = .ok (.getfield 25, 3) := by decide +kernel
theorem d_M_perform_4 : decode b_M_perform 4 = .ok (.iload_n 3, 1) := by decide +kernel
theorem d_M_perform_5 : decode b_M_perform 5 = .ok (.iaload, 1) := by decide +kernel
theorem d_M_perform_6 : decode b_M_perform 6 = .ok (.istore 6, 2) := by decide +kernel
theorem d_M_perform_8 : decode b_M_perform 8 = .ok (.iload_n 2, 1) := by decide +kernel
theorem d_M_perform_9 : decode b_M_perform 9 = .ok (.tableswitch 300 0 11 #[63, 74, 93, 93, 93, 300, 113, 134, 210, 265, 275, 285], 63) := by decide +kernel
theorem d_M_perform_72 : decode b_M_perform 72 = .ok (.aload_n 0, 1) := by decide +kernel
theorem d_M_perform_73 : decode b_M_perform 73 = .ok (.getfield 25, 3) := by decide +kernel
theorem d_M_perform_76 : decode b_M_perform 76 = .ok (.iload_n 3, 1) := by decide +kernel
theorem d_M_perform_77 : decode b_M_perform 77 = .ok (.iload 5, 2) := by decide +kernel
theorem d_M_perform_79 : decode b_M_perform 79 = .ok (.iastore, 1) := by decide +kernel
theorem d_M_perform_80 : decode b_M_perform 80 = .ok (.goto 229, 3) := by decide +kernel
theorem d_M_perform_83 : decode b_M_perform 83 = .ok (.aload_n 0, 1) := by decide +kernel
theorem d_M_perform_84 : decode b_M_perform 84 = .ok (.getfield 25, 3) := by decide +kernel
theorem d_M_perform_87 : decode b_M_perform 87 = .ok (.iload_n 3, 1) := by decide +kernel
theorem d_M_perform_88 : decode b_M_perform 88 = .ok (.dup2, 1) := by decide +kernel
theorem d_M_perform_89 : decode b_M_perform 89 = .ok (.iaload, 1) := by decide +kernel
theorem d_M_perform_90 : decode b_M_perform 90 = .ok (.aload_n 0, 1) := by decide +kernel
theorem d_M_perform_91 : decode b_M_perform 91 = .ok (.getfield 25, 3) := by decide +kernel
theorem d_M_perform_94 : decode b_M_perform 94 = .ok (.iload 4, 2) := by decide +kernel
theorem d_M_perform_96 : decode b_M_perform 96 = .ok (.iaload, 1) := by decide +kernel
theorem d_M_perform_97 : decode b_M_perform 97 = .ok (.iadd, 1) := by decide +kernel
theorem d_M_perform_98 : decode b_M_perform 98 = .ok (.iastore, 1) := by decide +kernel
theorem d_M_perform_99 : decode b_M_perform 99 = .ok (.goto 210, 3) := by decide +kernel
theorem d_M_perform_102 : decode b_M_perform 102 = .ok (.aload_n 0, 1) := by decide +kernel
theorem d_M_perform_103 : decode b_M_perform 103 = .ok (.iload_n 1, 1) := by decide +kernel
theorem d_M_perform_104 : decode b_M_perform 104 = .ok (.iload_n 2, 1) := by decide +kernel
theorem d_M_perform_105 : decode b_M_perform 105 = .ok (.iload_n 3, 1) := by decide +kernel
theorem d_M_perform_106 : decode b_M_perform 106 = .ok (.aload_n 0, 1) := by decide +kernel
theorem d_M_perform_107 : decode b_M_perform 107 = .ok (.getfield 25, 3) := by decide +kernel
theorem d_M_perform_110 : decode b_M_perform 110 = .ok (.iload 4, 2) := by decide +kernel
theorem d_M_perform_112 : decode b_M_perform 112 = .ok (.iaload, 1) := by decide +kernel
theorem d_M_perform_113 : decode b_M_perform 113 = .ok (.bipush 31, 2) := by decide +kernel
theorem d_M_perform_115 : decode b_M_perform 115 = .ok (.iand, 1) := by decide +kernel
theorem d_M_perform_116 : decode b_M_perform 116 = .ok (.invokevirtual 107, 3) := by decide +kernel
theorem d_M_perform_119 : decode b_M_perform 119 = .ok (.goto 190, 3) := by decide +kernel
theorem d_M_perform_122 : decode b_M_perform 122 = .ok (.aload_n 0, 1) := by decide +kernel
theorem d_M_perform_123 : decode b_M_perform 123 = .ok (.getfield 25, 3) := by decide +kernel
theorem d_M_perform_126 : decode b_M_perform 126 = .ok (.iload_n 3, 1) := by decide +kernel
theorem d_M_perform_127 : decode b_M_perform 127 = .ok (.aload_n 0, 1) := by decide +kernel
theorem d_M_perform_128 : decode b_M_perform 128 = .ok (.iload 5, 2) := by decide +kernel
theorem d_M_perform_130 : decode b_M_perform 130 = .ok (.aload_n 0, 1) := by decide +kernel
theorem d_M_perform_131 : decode b_M_perform 131 = .ok (.getfield 31, 3) := by decide +kernel
theorem d_M_perform_134 : decode b_M_perform 134 = .ok (.iload_n 1, 1) := by decide +kernel
theorem d_M_perform_135 : decode b_M_perform 135 = .ok (.iaload, 1) := by decide +kernel
theorem d_M_perform_136 : decode b_M_perform 136 = .ok (.invokevirtual 96, 3) := by decide +kernel
theorem d_M_perform_139 : decode b_M_perform 139 = .ok (.iastore, 1) := by decide +kernel
theorem d_M_perform_140 : decode b_M_perform 140 = .ok (.goto 169, 3) := by decide +kernel
theorem d_M_perform_143 : decode b_M_perform 143 = .ok (.aload_n 0, 1) := by decide +kernel
theorem d_M_perform_144 : decode b_M_perform 144 = .ok (.iload 6, 2) := by decide +kernel
theorem d_M_perform_146 : decode b_M_perform 146 = .ok (.invokevirtual 100, 3) := by decide +kernel
theorem d_M_perform_149 : decode b_M_perform 149 = .ok (.ifCond .ne 35, 3) := by decide +kernel
theorem d_M_perform_152 : decode b_M_perform 152 = .ok (.iload 6, 2) := by decide +kernel
theorem d_M_perform_154 : decode b_M_perform 154 = .ok (.iload_n 1, 1) := by decide +kernel
theorem d_M_perform_155 : decode b_M_perform 155 = .ok (.if_icmp .eq 29, 3) := by decide +kernel
theorem d_M_perform_158 : decode b_M_perform 158 = .ok (.aload_n 0, 1) := by decide +kernel
theorem d_M_perform_159 : decode b_M_perform 159 = .ok (.iload 6, 2) := by decide +kernel
theorem d_M_perform_161 : decode b_M_perform 161 = .ok (.invokevirtual 111, 3) := by decide +kernel
theorem d_M_perform_164 : decode b_M_perform 164 = .ok (.ifCond .ne 20, 3) := by decide +kernel
theorem d_M_perform_167 : decode b_M_perform 167 = .ok (.aload_n 0, 1) := by decide +kernel
theorem d_M_perform_168 : decode b_M_perform 168 = .ok (.getfield 34, 3) := by decide +kernel
theorem d_M_perform_171 : decode b_M_perform 171 = .ok (.iload_n 1, 1) := by decide +kernel
theorem d_M_perform_172 : decode b_M_perform 172 = .ok (.iconst 3, 1) := by decide +kernel
theorem d_M_perform_173 : decode b_M_perform 173 = .ok (.iastore, 1) := by decide +kernel
theorem d_M_perform_174 : decode b_M_perform 174 = .ok (.aload_n 0, 1) := by decide +kernel
theorem d_M_perform_175 : decode b_M_perform 175 = .ok (.getfield 46, 3) := by decide +kernel
theorem d_M_perform_178 : decode b_M_perform 178 = .ok (.iload_n 1, 1) := by decide +kernel
theorem d_M_perform_179 : decode b_M_perform 179 = .ok (.iload 6, 2) := by decide +kernel
theorem d_M_perform_181 : decode b_M_perform 181 = .ok (.iastore, 1) := by decide +kernel
theorem d_M_perform_182 : decode b_M_perform 182 = .ok (.iconst 0, 1) := by decide +kernel
theorem d_M_perform_183 : decode b_M_perform 183 = .ok (.ireturn, 1) := by decide +kernel
theorem d_M_perform_184 : decode b_M_perform 184 = .ok (.aload_n 0, 1) := by decide +kernel
theorem d_M_perform_185 : decode b_M_perform 185 = .ok (.getfield 25, 3) := by decide +kernel
theorem d_M_perform_188 : decode b_M_perform 188 = .ok (.iload_n 3, 1) := by decide +kernel
theorem d_M_perform_189 : decode b_M_perform 189 = .ok (.aload_n 0, 1) := by decide +kernel
theorem d_M_perform_190 : decode b_M_perform 190 = .ok (.iload 6, 2) := by decide +kernel
theorem d_M_perform_192 : decode b_M_perform 192 = .ok (.invokevirtual 100, 3) := by decide +kernel
theorem d_M_perform_195 : decode b_M_perform 195 = .ok (.ifCond .ne 9, 3) := by decide +kernel
theorem d_M_perform_198 : decode b_M_perform 198 = .ok (.iload 6, 2) := by decide +kernel
theorem d_M_perform_200 : decode b_M_perform 200 = .ok (.iload_n 1, 1) := by decide +kernel
theorem d_M_perform_201 : decode b_M_perform 201 = .ok (.if_icmp .ne 7, 3) := by decide +kernel
theorem d_M_perform_204 : decode b_M_perform 204 = .ok (.iconst (-1), 1) := by decide +kernel
theorem d_M_perform_205 : decode b_M_perform 205 = .ok (.goto 10, 3) := by decide +kernel
theorem d_M_perform_208 : decode b_M_perform 208 = .ok (.aload_n 0, 1) := by decide +kernel
theorem d_M_perform_209 : decode b_M_perform 209 = .ok (.getfield 43, 3) := by decide +kernel
theorem d_M_perform_212 : decode b_M_perform 212 = .ok (.iload 6, 2) := by decide +kernel
theorem d_M_perform_214 : decode b_M_perform 214 = .ok (.iaload, 1) := by decide +kernel
theorem d_M_perform_215 : decode b_M_perform 215 = .ok (.iastore, 1) := by decide +kernel
theorem d_M_perform_216 : decode b_M_perform 216 = .ok (.goto 93, 3) := by decide +kernel
theorem d_M_perform_219 : decode b_M_perform 219 = .ok (.aload_n 0, 1) := by decide +kernel
theorem d_M_perform_220 : decode b_M_perform 220 = .ok (.getfield 25, 3) := by decide +kernel
theorem d_M_perform_223 : decode b_M_perform 223 = .ok (.iload_n 3, 1) := by decide +kernel
theorem d_M_perform_224 : decode b_M_perform 224 = .ok (.aload_n 0, 1) := by decide +kernel
theorem d_M_perform_225 : decode b_M_perform 225 = .ok (.iload 6, 2) := by decide +kernel
theorem d_M_perform_227 : decode b_M_perform 227 = .ok (.invokevirtual 100, 3) := by decide +kernel
theorem d_M_perform_230 : decode b_M_perform 230 = .ok (.ifCond .ne 18, 3) := by decide +kernel
theorem d_M_perform_233 : decode b_M_perform 233 = .ok (.iload 6, 2) := by decide +kernel
theorem d_M_perform_235 : decode b_M_perform 235 = .ok (.iload_n 1, 1) := by decide +kernel
theorem d_M_perform_236 : decode b_M_perform 236 = .ok (.if_icmp .eq 12, 3) := by decide +kernel
theorem d_M_perform_239 : decode b_M_perform 239 = .ok (.aload_n 0, 1) := by decide +kernel
theorem d_M_perform_240 : decode b_M_perform 240 = .ok (.iload 6, 2) := by decide +kernel
theorem d_M_perform_242 : decode b_M_perform 242 = .ok (.invokevirtual 111, 3) := by decide +kernel
theorem d_M_perform_245 : decode b_M_perform 245 = .ok (.ifCond .eq 7, 3) := by decide +kernel
theorem d_M_perform_248 : decode b_M_perform 248 = .ok (.iconst (-1), 1) := by decide +kernel
theorem d_M_perform_249 : decode b_M_perform 249 = .ok (.goto 4, 3) := by decide +kernel
theorem d_M_perform_252 : decode b_M_perform 252 = .ok (.iconst 0, 1) := by decide +kernel
theorem d_M_perform_253 : decode b_M_perform 253 = .ok (.iastore, 1) := by decide +kernel
theorem d_M_perform_254 : decode b_M_perform 254 = .ok (.aload_n 0, 1) := by decide +kernel
theorem d_M_perform_255 : decode b_M_perform 255 = .ok (.getfield 25, 3) := by decide +kernel
theorem d_M_perform_258 : decode b_M_perform 258 = .ok (.iload_n 3, 1) := by decide +kernel
theorem d_M_perform_259 : decode b_M_perform 259 = .ok (.iaload, 1) := by decide +kernel
theorem d_M_perform_260 : decode b_M_perform 260 = .ok (.ifCond .ne 49, 3) := by decide +kernel
theorem d_M_perform_263 : decode b_M_perform 263 = .ok (.aload_n 0, 1) := by decide +kernel
theorem d_M_perform_264 : decode b_M_perform 264 = .ok (.iload 6, 2) := by decide +kernel
theorem d_M_perform_266 : decode b_M_perform 266 = .ok (.bipush (-9), 2) := by decide +kernel
theorem d_M_perform_268 : decode b_M_perform 268 = .ok (.invokevirtual 114, 3) := by decide +kernel
theorem d_M_perform_271 : decode b_M_perform 271 = .ok (.goto 38, 3) := by decide +kernel
theorem d_M_perform_274 : decode b_M_perform 274 = .ok (.aload_n 0, 1) := by decide +kernel
theorem d_M_perform_275 : decode b_M_perform 275 = .ok (.iload_n 1, 1) := by decide +kernel
theorem d_M_perform_276 : decode b_M_perform 276 = .ok (.iload 6, 2) := by decide +kernel
theorem d_M_perform_278 : decode b_M_perform 278 = .ok (.invokevirtual 114, 3) := by decide +kernel
theorem d_M_perform_281 : decode b_M_perform 281 = .ok (.goto 28, 3) := by decide +kernel
theorem d_M_perform_284 : decode b_M_perform 284 = .ok (.aload_n 0, 1) := by decide +kernel
theorem d_M_perform_285 : decode b_M_perform 285 = .ok (.getfield 25, 3) := by decide +kernel
theorem d_M_perform_288 : decode b_M_perform 288 = .ok (.iload_n 3, 1) := by decide +kernel
theorem d_M_perform_289 : decode b_M_perform 289 = .ok (.iload_n 1, 1) := by decide +kernel
theorem d_M_perform_290 : decode b_M_perform 290 = .ok (.iastore, 1) := by decide +kernel
theorem d_M_perform_291 : decode b_M_perform 291 = .ok (.goto 18, 3) := by decide +kernel
theorem d_M_perform_294 : decode b_M_perform 294 = .ok (.aload_n 0, 1) := by decide +kernel
theorem d_M_perform_295 : decode b_M_perform 295 = .ok (.getfield 25, 3) := by decide +kernel
theorem d_M_perform_298 : decode b_M_perform 298 = .ok (.iload_n 3, 1) := by decide +kernel
theorem d_M_perform_299 : decode b_M_perform 299 = .ok (.aload_n 0, 1) := by decide +kernel
theorem d_M_perform_300 : decode b_M_perform 300 = .ok (.getfield 31, 3) := by decide +kernel
theorem d_M_perform_303 : decode b_M_perform 303 = .ok (.iload_n 1, 1) := by decide +kernel
theorem d_M_perform_304 : decode b_M_perform 304 = .ok (.iaload, 1) := by decide +kernel
theorem d_M_perform_305 : decode b_M_perform 305 = .ok (.iastore, 1) := by decide +kernel
theorem d_M_perform_306 : decode b_M_perform 306 = .ok (.goto 3, 3) := by decide +kernel
theorem d_M_perform_309 : decode b_M_perform 309 = .ok (.iconst 1, 1) := by decide +kernel
theorem d_M_perform_310 : decode b_M_perform 310 = .ok (.ireturn, 1) := by decide +kernel
theorem d_M_step_0 : decode b_M_step 0 = .ok (.iload_n 1, 1) := by decide +kernel
theorem d_M_step_1 : decode b_M_step 1 = .ok (.iconst 2, 1) := by decide +kernel
theorem d_M_step_2 : decode b_M_step 2 = .ok (.invokestatic 84, 3) := by decide +kernel
theorem d_M_step_5 : decode b_M_step 5 = .ok (.ifCond .eq 5, 3) := by decide +kernel
theorem d_M_step_8 : decode b_M_step 8 = .ok (.iconst (-1), 1) := by decide +kernel
theorem d_M_step_9 : decode b_M_step 9 = .ok (.ireturn, 1) := by decide +kernel
theorem d_M_step_10 : decode b_M_step 10 = .ok (.aload_n 0, 1) := by decide +kernel
theorem d_M_step_11 : decode b_M_step 11 = .ok (.iload_n 1, 1) := by decide +kernel
theorem d_M_step_12 : decode b_M_step 12 = .ok (.iconst 0, 1) := by decide +kernel
theorem d_M_step_13 : decode b_M_step 13 = .ok (.invokevirtual 118, 3) := by decide +kernel
theorem d_M_step_16 : decode b_M_step 16 = .ok (.istore_n 2, 1) := by decide +kernel
theorem d_M_step_17 : decode b_M_step 17 = .ok (.iload_n 2, 1) := by decide +kernel
theorem d_M_step_18 : decode b_M_step 18 = .ok (.bipush 8, 2) := by decide +kernel
theorem d_M_step_20 : decode b_M_step 20 = .ok (.if_icmp .ne 6, 3) := by decide +kernel
theorem d_M_step_23 : decode b_M_step 23 = .ok (.bipush (-3), 2) := by decide +kernel
theorem d_M_step_25 : decode b_M_step 25 = .ok (.ireturn, 1) := by decide +kernel
theorem d_M_step_26 : decode b_M_step 26 = .ok (.aload_n 0, 1) := by decide +kernel
theorem d_M_step_27 : decode b_M_step 27 = .ok (.getfield 28, 3) := by decide +kernel
theorem d_M_step_30 : decode b_M_step 30 = .ok (.iload_n 2, 1) := by decide +kernel
theorem d_M_step_31 : decode b_M_step 31 = .ok (.iaload, 1) := by decide +kernel
theorem d_M_step_32 : decode b_M_step 32 = .ok (.aload_n 0, 1) := by decide +kernel
theorem d_M_step_33 : decode b_M_step 33 = .ok (.getfield 19, 3) := by decide +kernel
theorem d_M_step_36 : decode b_M_step 36 = .ok (.aload_n 0, 1) := by decide +kernel
theorem d_M_step_37 : decode b_M_step 37 = .ok (.getfield 22, 3) := by decide +kernel
theorem d_M_step_40 : decode b_M_step 40 = .ok (.iload_n 2, 1) := by decide +kernel
theorem d_M_step_41 : decode b_M_step 41 = .ok (.iaload, 1) := by decide +kernel
theorem d_M_step_42 : decode b_M_step 42 = .ok (.iaload, 1) := by decide +kernel
theorem d_M_step_43 : decode b_M_step 43 = .ok (.if_icmp .lt 14, 3) := by decide +kernel
theorem d_M_step_46 : decode b_M_step 46 = .ok (.aload_n 0, 1) := by decide +kernel
theorem d_M_step_47 : decode b_M_step 47 = .ok (.iload_n 2, 1) := by decide +kernel
theorem d_M_step_48 : decode b_M_step 48 = .ok (.iconst 0, 1) := by decide +kernel
theorem d_M_step_49 : decode b_M_step 49 = .ok (.invokevirtual 114, 3) := by decide +kernel
theorem d_M_step_52 : decode b_M_step 52 = .ok (.bipush 30, 2) := by decide +kernel
theorem d_M_step_54 : decode b_M_step 54 = .ok (.iload_n 2, 1) := by decide +kernel
theorem d_M_step_55 : decode b_M_step 55 = .ok (.iadd, 1) := by decide +kernel
theorem d_M_step_56 : decode b_M_step 56 = .ok (.ireturn, 1) := by decide +kernel
theorem d_M_step_57 : decode b_M_step 57 = .ok (.bipush 12, 2) := by decide +kernel
theorem d_M_step_59 : decode b_M_step 59 = .ok (.aload_n 0, 1) := by decide +kernel
theorem d_M_step_60 : decode b_M_step 60 = .ok (.getfield 22, 3) := by decide +kernel
theorem d_M_step_63 : decode b_M_step 63 = .ok (.iload_n 2, 1) := by decide +kernel
theorem d_M_step_64 : decode b_M_step 64 = .ok (.iaload, 1) := by decide +kernel
theorem d_M_step_65 : decode b_M_step 65 = .ok (.imul, 1) := by decide +kernel
theorem d_M_step_66 : decode b_M_step 66 = .ok (.aload_n 0, 1) := by decide +kernel
theorem d_M_step_67 : decode b_M_step 67 = .ok (.getfield 28, 3) := by decide +kernel
theorem d_M_step_70 : decode b_M_step 70 = .ok (.iload_n 2, 1) := by decide +kernel
theorem d_M_step_71 : decode b_M_step 71 = .ok (.iaload, 1) := by decide +kernel
theorem d_M_step_72 : decode b_M_step 72 = .ok (.iadd, 1) := by decide +kernel
theorem d_M_step_73 : decode b_M_step 73 = .ok (.istore_n 3, 1) := by decide +kernel
theorem d_M_step_74 : decode b_M_step 74 = .ok (.aload_n 0, 1) := by decide +kernel
theorem d_M_step_75 : decode b_M_step 75 = .ok (.getfield 7, 3) := by decide +kernel
theorem d_M_step_78 : decode b_M_step 78 = .ok (.iload_n 3, 1) := by decide +kernel
theorem d_M_step_79 : decode b_M_step 79 = .ok (.iaload, 1) := by decide +kernel
theorem d_M_step_80 : decode b_M_step 80 = .ok (.istore 4, 2) := by decide +kernel
theorem d_M_step_82 : decode b_M_step 82 = .ok (.iconst 4, 1) := by decide +kernel
theorem d_M_step_83 : decode b_M_step 83 = .ok (.iload_n 2, 1) := by decide +kernel
theorem d_M_step_84 : decode b_M_step 84 = .ok (.imul, 1) := by decide +kernel
theorem d_M_step_85 : decode b_M_step 85 = .ok (.aload_n 0, 1) := by decide +kernel
theorem d_M_step_86 : decode b_M_step 86 = .ok (.getfield 13, 3) := by decide +kernel
theorem d_M_step_89 : decode b_M_step 89 = .ok (.iload_n 3, 1) := by decide +kernel
theorem d_M_step_90 : decode b_M_step 90 = .ok (.iaload, 1) := by decide +kernel
theorem d_M_step_91 : decode b_M_step 91 = .ok (.iadd, 1) := by decide +kernel
theorem d_M_step_92 : decode b_M_step 92 = .ok (.istore 5, 2) := by decide +kernel
theorem d_M_step_94 : decode b_M_step 94 = .ok (.iconst 4, 1) := by decide +kernel
theorem d_M_step_95 : decode b_M_step 95 = .ok (.iload_n 2, 1) := by decide +kernel
theorem d_M_step_96 : decode b_M_step 96 = .ok (.imul, 1) := by decide +kernel
theorem d_M_step_97 : decode b_M_step 97 = .ok (.aload_n 0, 1) := by decide +kernel
theorem d_M_step_98 : decode b_M_step 98 = .ok (.getfield 16, 3) := by decide +kernel
theorem d_M_step_101 : decode b_M_step 101 = .ok (.iload_n 3, 1) := by decide +kernel
theorem d_M_step_102 : decode b_M_step 102 = .ok (.iaload, 1) := by decide +kernel
theorem d_M_step_103 : decode b_M_step 103 = .ok (.iconst 3, 1) := by decide +kernel
theorem d_M_step_104 : decode b_M_step 104 = .ok (.iand, 1) := by decide +kernel
theorem d_M_step_105 : decode b_M_step 105 = .ok (.iadd, 1) := by decide +kernel
theorem d_M_step_106 : decode b_M_step 106 = .ok (.istore 6, 2) := by decide +kernel
theorem d_M_step_108 : decode b_M_step 108 = .ok (.aload_n 0, 1) := by decide +kernel
theorem d_M_step_109 : decode b_M_step 109 = .ok (.iload_n 2, 1) := by decide +kernel
theorem d_M_step_110 : decode b_M_step 110 = .ok (.iload 4, 2) := by decide +kernel
theorem d_M_step_112 : decode b_M_step 112 = .ok (.aload_n 0, 1) := by decide +kernel
theorem d_M_step_113 : decode b_M_step 113 = .ok (.getfield 25, 3) := by decide +kernel
theorem d_M_step_116 : decode b_M_step 116 = .ok (.iload 6, 2) := by decide +kernel
theorem d_M_step_118 : decode b_M_step 118 = .ok (.iaload, 1) := by decide +kernel
theorem d_M_step_119 : decode b_M_step 119 = .ok (.bipush 31, 2) := by decide +kernel
theorem d_M_step_121 : decode b_M_step 121 = .ok (.iand, 1) := by decide +kernel
theorem d_M_step_122 : decode b_M_step 122 = .ok (.invokevirtual 121, 3) := by decide +kernel
theorem d_M_step_125 : decode b_M_step 125 = .ok (.ifCond .eq 8, 3) := by decide +kernel
theorem d_M_step_128 : decode b_M_step 128 = .ok (.bipush 10, 2) := by decide +kernel
theorem d_M_step_130 : decode b_M_step 130 = .ok (.iload_n 2, 1) := by decide +kernel
theorem d_M_step_131 : decode b_M_step 131 = .ok (.iadd, 1) := by decide +kernel
theorem d_M_step_132 : decode b_M_step 132 = .ok (.ireturn, 1) := by decide +kernel
theorem d_M_step_133 : decode b_M_step 133 = .ok (.iload 4, 2) := by decide +kernel
theorem d_M_step_135 : decode b_M_step 135 = .ok (.iconst 5, 1) := by decide +kernel
theorem d_M_step_136 : decode b_M_step 136 = .ok (.if_icmp .ne 17, 3) := by decide +kernel
theorem d_M_step_139 : decode b_M_step 139 = .ok (.aload_n 0, 1) := by decide +kernel
theorem d_M_step_140 : decode b_M_step 140 = .ok (.getfield 25, 3) := by decide +kernel
theorem d_M_step_143 : decode b_M_step 143 = .ok (.iload 5, 2) := by decide +kernel
theorem d_M_step_145 : decode b_M_step 145 = .ok (.iaload, 1) := by decide +kernel
theorem d_M_step_146 : decode b_M_step 146 = .ok (.ifCond .eq 7, 3) := by decide +kernel
theorem d_M_step_149 : decode b_M_step 149 = .ok (.iconst 1, 1) := by decide +kernel
theorem d_M_step_150 : decode b_M_step 150 = .ok (.goto 4, 3) := by decide +kernel
theorem d_M_step_153 : decode b_M_step 153 = .ok (.iconst 0, 1) := by decide +kernel
theorem d_M_step_154 : decode b_M_step 154 = .ok (.istore 7, 2) := by decide +kernel
theorem d_M_step_156 : decode b_M_step 156 = .ok (.aload_n 0, 1) := by decide +kernel
theorem d_M_step_157 : decode b_M_step 157 = .ok (.iload_n 2, 1) := by decide +kernel
theorem d_M_step_158 : decode b_M_step 158 = .ok (.iload 4, 2) := by decide +kernel
theorem d_M_step_160 : decode b_M_step 160 = .ok (.iload 5, 2) := by decide +kernel
theorem d_M_step_162 : decode b_M_step 162 = .ok (.iload 6, 2) := by decide +kernel
theorem d_M_step_164 : decode b_M_step 164 = .ok (.aload_n 0, 1) := by decide +kernel
theorem d_M_step_165 : decode b_M_step 165 = .ok (.getfield 16, 3) := by decide +kernel
theorem d_M_step_168 : decode b_M_step 168 = .ok (.iload_n 3, 1) := by decide +kernel
theorem d_M_step_169 : decode b_M_step 169 = .ok (.iaload, 1) := by decide +kernel
theorem d_M_step_170 : decode b_M_step 170 = .ok (.invokevirtual 125, 3) := by decide +kernel
theorem d_M_step_173 : decode b_M_step 173 = .ok (.ifCond .ne 8, 3) := by decide +kernel
theorem d_M_step_176 : decode b_M_step 176 = .ok (.bipush 20, 2) := by decide +kernel
theorem d_M_step_178 : decode b_M_step 178 = .ok (.iload_n 2, 1) := by decide +kernel
theorem d_M_step_179 : decode b_M_step 179 = .ok (.iadd, 1) := by decide +kernel
theorem d_M_step_180 : decode b_M_step 180 = .ok (.ireturn, 1) := by decide +kernel
theorem d_M_step_181 : decode b_M_step 181 = .ok (.aload_n 0, 1) := by decide +kernel
theorem d_M_step_182 : decode b_M_step 182 = .ok (.getfield 28, 3) := by decide +kernel
theorem d_M_step_185 : decode b_M_step 185 = .ok (.iload_n 2, 1) := by decide +kernel
theorem d_M_step_186 : decode b_M_step 186 = .ok (.iload 7, 2) := by decide +kernel
theorem d_M_step_188 : decode b_M_step 188 = .ok (.ifCond .eq 12, 3) := by decide +kernel
theorem d_M_step_191 : decode b_M_step 191 = .ok (.aload_n 0, 1) := by decide +kernel
theorem d_M_step_192 : decode b_M_step 192 = .ok (.getfield 16, 3) := by decide +kernel
theorem d_M_step_195 : decode b_M_step 195 = .ok (.iload_n 3, 1) := by decide +kernel
theorem d_M_step_196 : decode b_M_step 196 = .ok (.iaload, 1) := by decide +kernel
theorem d_M_step_197 : decode b_M_step 197 = .ok (.goto 11, 3) := by decide +kernel
theorem d_M_step_200 : decode b_M_step 200 = .ok (.aload_n 0, 1) := by decide +kernel
theorem d_M_step_201 : decode b_M_step 201 = .ok (.getfield 28, 3) := by decide +kernel
theorem d_M_step_204 : decode b_M_step 204 = .ok (.iload_n 2, 1) := by decide +kernel
theorem d_M_step_205 : decode b_M_step 205 = .ok (.iaload, 1) := by decide +kernel
theorem d_M_step_206 : decode b_M_step 206 = .ok (.iconst 1, 1) := by decide +kernel
theorem d_M_step_207 : decode b_M_step 207 = .ok (.iadd, 1) := by decide +kernel
theorem d_M_step_208 : decode b_M_step 208 = .ok (.iastore, 1) := by decide +kernel
theorem d_M_step_209 : decode b_M_step 209 = .ok (.aload_n 0, 1) := by decide +kernel
theorem d_M_step_210 : decode b_M_step 210 = .ok (.getfield 34, 3) := by decide +kernel
theorem d_M_step_213 : decode b_M_step 213 = .ok (.iload_n 2, 1) := by decide +kernel
theorem d_M_step_214 : decode b_M_step 214 = .ok (.iaload, 1) := by decide +kernel
theorem d_M_step_215 : decode b_M_step 215 = .ok (.iconst 4, 1) := by decide +kernel
theorem d_M_step_216 : decode b_M_step 216 = .ok (.if_icmp .ne 8, 3) := by decide +kernel
theorem d_M_step_219 : decode b_M_step 219 = .ok (.bipush 30, 2) := by decide +kernel
theorem d_M_step_221 : decode b_M_step 221 = .ok (.iload_n 2, 1) := by decide +kernel
theorem d_M_step_222 : decode b_M_step 222 = .ok (.iadd, 1) := by decide +kernel
theorem d_M_step_223 : decode b_M_step 223 = .ok (.ireturn, 1) := by decide +kernel
theorem d_M_step_224 : decode b_M_step 224 = .ok (.aload_n 0, 1) := by decide +kernel
theorem d_M_step_225 : decode b_M_step 225 = .ok (.getfield 40, 3) := by decide +kernel
theorem d_M_step_228 : decode b_M_step 228 = .ok (.iload_n 2, 1) := by decide +kernel
theorem d_M_step_229 : decode b_M_step 229 = .ok (.dup2, 1) := by decide +kernel
theorem d_M_step_230 : decode b_M_step 230 = .ok (.iaload, 1) := by decide +kernel
theorem d_M_step_231 : decode b_M_step 231 = .ok (.iconst 1, 1) := by decide +kernel
theorem d_M_step_232 : decode b_M_step 232 = .ok (.iadd, 1) := by decide +kernel
theorem d_M_step_233 : decode b_M_step 233 = .ok (.iastore, 1) := by decide +kernel
theorem d_M_step_234 : decode b_M_step 234 = .ok (.iload 4, 2) := by decide +kernel
theorem d_M_step_236 : decode b_M_step 236 = .ok (.bipush 12, 2) := by decide +kernel
theorem d_M_step_238 : decode b_M_step 238 = .ok (.if_icmp .eq 13, 3) := by decide +kernel
theorem d_M_step_241 : decode b_M_step 241 = .ok (.aload_n 0, 1) := by decide +kernel
theorem d_M_step_242 : decode b_M_step 242 = .ok (.getfield 40, 3) := by decide +kernel
theorem d_M_step_245 : decode b_M_step 245 = .ok (.iload_n 2, 1) := by decide +kernel
theorem d_M_step_246 : decode b_M_step 246 = .ok (.iaload, 1) := by decide +kernel
theorem d_M_step_247 : decode b_M_step 247 = .ok (.iconst 3, 1) := by decide +kernel
theorem d_M_step_248 : decode b_M_step 248 = .ok (.if_icmp .ne 8, 3) := by decide +kernel
theorem d_M_step_251 : decode b_M_step 251 = .ok (.aload_n 0, 1) := by decide +kernel
theorem d_M_step_252 : decode b_M_step 252 = .ok (.iload_n 2, 1) := by decide +kernel
theorem d_M_step_253 : decode b_M_step 253 = .ok (.invokevirtual 92, 3) := by decide +kernel
theorem d_M_step_256 : decode b_M_step 256 = .ok (.iload_n 2, 1) := by decide +kernel
theorem d_M_step_257 : decode b_M_step 257 = .ok (.ireturn, 1) := by decide +kernel
theorem d_M_firstAsking_0 : decode b_M_firstAsking 0 = .ok (.bipush 8, 2) := by decide +kernel
theorem d_M_firstAsking_2 : decode b_M_firstAsking 2 = .ok (.istore_n 2, 1) := by decide +kernel
theorem d_M_firstAsking_3 : decode b_M_firstAsking 3 = .ok (.iconst 0, 1) := by decide +kernel
theorem d_M_firstAsking_4 : decode b_M_firstAsking 4 = .ok (.istore_n 3, 1) := by decide +kernel
theorem d_M_firstAsking_5 : decode b_M_firstAsking 5 = .ok (.iload_n 3, 1) := by decide +kernel
theorem d_M_firstAsking_6 : decode b_M_firstAsking 6 = .ok (.aload_n 0, 1) := by decide +kernel
theorem d_M_firstAsking_7 : decode b_M_firstAsking 7 = .ok (.getfield 81, 3) := by decide +kernel
theorem d_M_firstAsking_10 : decode b_M_firstAsking 10 = .ok (.if_icmp .ge 54, 3) := by decide +kernel
theorem d_M_firstAsking_13 : decode b_M_firstAsking 13 = .ok (.aload_n 0, 1) := by decide +kernel
theorem d_M_firstAsking_14 : decode b_M_firstAsking 14 = .ok (.getfield 52, 3) := by decide +kernel
theorem d_M_firstAsking_17 : decode b_M_firstAsking 17 = .ok (.iload_n 3, 1) := by decide +kernel
theorem d_M_firstAsking_18 : decode b_M_firstAsking 18 = .ok (.iaload, 1) := by decide +kernel
theorem d_M_firstAsking_19 : decode b_M_firstAsking 19 = .ok (.ifCond .eq 39, 3) := by decide +kernel
theorem d_M_firstAsking_22 : decode b_M_firstAsking 22 = .ok (.aload_n 0, 1) := by decide +kernel
theorem d_M_firstAsking_23 : decode b_M_firstAsking 23 = .ok (.getfield 55, 3) := by decide +kernel
theorem d_M_firstAsking_26 : decode b_M_firstAsking 26 = .ok (.iload_n 3, 1) := by decide +kernel
theorem d_M_firstAsking_27 : decode b_M_firstAsking 27 = .ok (.iaload, 1) := by decide +kernel
theorem d_M_firstAsking_28 : decode b_M_firstAsking 28 = .ok (.iload_n 1, 1) := by decide +kernel
theorem d_M_firstAsking_29 : decode b_M_firstAsking 29 = .ok (.if_icmp .eq 6, 3) := by decide +kernel
theorem d_M_firstAsking_32 : decode b_M_firstAsking 32 = .ok (.goto 26, 3) := by decide +kernel
theorem d_M_firstAsking_35 : decode b_M_firstAsking 35 = .ok (.iload_n 2, 1) := by decide +kernel
theorem d_M_firstAsking_36 : decode b_M_firstAsking 36 = .ok (.bipush 8, 2) := by decide +kernel
theorem d_M_firstAsking_38 : decode b_M_firstAsking 38 = .ok (.if_icmp .eq 18, 3) := by decide +kernel
theorem d_M_firstAsking_41 : decode b_M_firstAsking 41 = .ok (.aload_n 0, 1) := by decide +kernel
theorem d_M_firstAsking_42 : decode b_M_firstAsking 42 = .ok (.getfield 52, 3) := by decide +kernel
theorem d_M_firstAsking_45 : decode b_M_firstAsking 45 = .ok (.iload_n 3, 1) := by decide +kernel
theorem d_M_firstAsking_46 : decode b_M_firstAsking 46 = .ok (.iaload, 1) := by decide +kernel
theorem d_M_firstAsking_47 : decode b_M_firstAsking 47 = .ok (.aload_n 0, 1) := by decide +kernel
theorem d_M_firstAsking_48 : decode b_M_firstAsking 48 = .ok (.getfield 52, 3) := by decide +kernel
theorem d_M_firstAsking_51 : decode b_M_firstAsking 51 = .ok (.iload_n 2, 1) := by decide +kernel
theorem d_M_firstAsking_52 : decode b_M_firstAsking 52 = .ok (.iaload, 1) := by decide +kernel
theorem d_M_firstAsking_53 : decode b_M_firstAsking 53 = .ok (.if_icmp .ge 5, 3) := by decide +kernel
theorem d_M_firstAsking_56 : decode b_M_firstAsking 56 = .ok (.iload_n 3, 1) := by decide +kernel
theorem d_M_firstAsking_57 : decode b_M_firstAsking 57 = .ok (.istore_n 2, 1) := by decide +kernel
theorem d_M_firstAsking_58 : decode b_M_firstAsking 58 = .ok (.iinc 3 1, 3) := by decide +kernel
theorem d_M_firstAsking_61 : decode b_M_firstAsking 61 = .ok (.goto (-56), 3) := by decide +kernel
theorem d_M_firstAsking_64 : decode b_M_firstAsking 64 = .ok (.iload_n 2, 1) := by decide +kernel
theorem d_M_firstAsking_65 : decode b_M_firstAsking 65 = .ok (.ireturn, 1) := by decide +kernel
theorem d_M_giveUp_0 : decode b_M_giveUp 0 = .ok (.bipush 8, 2) := by decide +kernel
theorem d_M_giveUp_2 : decode b_M_giveUp 2 = .ok (.istore_n 2, 1) := by decide +kernel
theorem d_M_giveUp_3 : decode b_M_giveUp 3 = .ok (.iconst 0, 1) := by decide +kernel
theorem d_M_giveUp_4 : decode b_M_giveUp 4 = .ok (.istore_n 3, 1) := by decide +kernel
theorem d_M_giveUp_5 : decode b_M_giveUp 5 = .ok (.iload_n 3, 1) := by decide +kernel
theorem d_M_giveUp_6 : decode b_M_giveUp 6 = .ok (.bipush 8, 2) := by decide +kernel
theorem d_M_giveUp_8 : decode b_M_giveUp 8 = .ok (.if_icmp .ge 56, 3) := by decide +kernel
theorem d_M_giveUp_11 : decode b_M_giveUp 11 = .ok (.aload_n 0, 1) := by decide +kernel
theorem d_M_giveUp_12 : decode b_M_giveUp 12 = .ok (.getfield 65, 3) := by decide +kernel
theorem d_M_giveUp_15 : decode b_M_giveUp 15 = .ok (.bipush 8, 2) := by decide +kernel
theorem d_M_giveUp_17 : decode b_M_giveUp 17 = .ok (.iload_n 1, 1) := by decide +kernel
theorem d_M_giveUp_18 : decode b_M_giveUp 18 = .ok (.imul, 1) := by decide +kernel
theorem d_M_giveUp_19 : decode b_M_giveUp 19 = .ok (.iload_n 3, 1) := by decide +kernel
theorem d_M_giveUp_20 : decode b_M_giveUp 20 = .ok (.iadd, 1) := by decide +kernel
theorem d_M_giveUp_21 : decode b_M_giveUp 21 = .ok (.iaload, 1) := by decide +kernel
theorem d_M_giveUp_22 : decode b_M_giveUp 22 = .ok (.ifCond .eq 36, 3) := by decide +kernel
theorem d_M_giveUp_25 : decode b_M_giveUp 25 = .ok (.iload_n 2, 1) := by decide +kernel
theorem d_M_giveUp_26 : decode b_M_giveUp 26 = .ok (.bipush 8, 2) := by decide +kernel
theorem d_M_giveUp_28 : decode b_M_giveUp 28 = .ok (.if_icmp .eq 28, 3) := by decide +kernel
theorem d_M_giveUp_31 : decode b_M_giveUp 31 = .ok (.aload_n 0, 1) := by decide +kernel
theorem d_M_giveUp_32 : decode b_M_giveUp 32 = .ok (.getfield 68, 3) := by decide +kernel
theorem d_M_giveUp_35 : decode b_M_giveUp 35 = .ok (.bipush 8, 2) := by decide +kernel
theorem d_M_giveUp_37 : decode b_M_giveUp 37 = .ok (.iload_n 1, 1) := by decide +kernel
theorem d_M_giveUp_38 : decode b_M_giveUp 38 = .ok (.imul, 1) := by decide +kernel
theorem d_M_giveUp_39 : decode b_M_giveUp 39 = .ok (.iload_n 3, 1) := by decide +kernel
theorem d_M_giveUp_40 : decode b_M_giveUp 40 = .ok (.iadd, 1) := by decide +kernel
theorem d_M_giveUp_41 : decode b_M_giveUp 41 = .ok (.iaload, 1) := by decide +kernel
theorem d_M_giveUp_42 : decode b_M_giveUp 42 = .ok (.aload_n 0, 1) := by decide +kernel
theorem d_M_giveUp_43 : decode b_M_giveUp 43 = .ok (.getfield 68, 3) := by decide +kernel
theorem d_M_giveUp_46 : decode b_M_giveUp 46 = .ok (.bipush 8, 2) := by decide +kernel
theorem d_M_giveUp_48 : decode b_M_giveUp 48 = .ok (.iload_n 1, 1) := by decide +kernel
theorem d_M_giveUp_49 : decode b_M_giveUp 49 = .ok (.imul, 1) := by decide +kernel
theorem d_M_giveUp_50 : decode b_M_giveUp 50 = .ok (.iload_n 2, 1) := by decide +kernel
theorem d_M_giveUp_51 : decode b_M_giveUp 51 = .ok (.iadd, 1) := by decide +kernel
theorem d_M_giveUp_52 : decode b_M_giveUp 52 = .ok (.iaload, 1) := by decide +kernel
theorem d_M_giveUp_53 : decode b_M_giveUp 53 = .ok (.if_icmp .ge 5, 3) := by decide +kernel
theorem d_M_giveUp_56 : decode b_M_giveUp 56 = .ok (.iload_n 3, 1) := by decide +kernel
theorem d_M_giveUp_57 : decode b_M_giveUp 57 = .ok (.istore_n 2, 1) := by decide +kernel
theorem d_M_giveUp_58 : decode b_M_giveUp 58 = .ok (.iinc 3 1, 3) := by decide +kernel
theorem d_M_giveUp_61 : decode b_M_giveUp 61 = .ok (.goto (-56), 3) := by decide +kernel
theorem d_M_giveUp_64 : decode b_M_giveUp 64 = .ok (.iload_n 2, 1) := by decide +kernel
theorem d_M_giveUp_65 : decode b_M_giveUp 65 = .ok (.bipush 8, 2) := by decide +kernel
theorem d_M_giveUp_67 : decode b_M_giveUp 67 = .ok (.if_icmp .ne 4, 3) := by decide +kernel
theorem d_M_giveUp_70 : decode b_M_giveUp 70 = .ok (.return_, 1) := by decide +kernel
theorem d_M_giveUp_71 : decode b_M_giveUp 71 = .ok (.aload_n 0, 1) := by decide +kernel
theorem d_M_giveUp_72 : decode b_M_giveUp 72 = .ok (.getfield 65, 3) := by decide +kernel
theorem d_M_giveUp_75 : decode b_M_giveUp 75 = .ok (.bipush 8, 2) := by decide +kernel
theorem d_M_giveUp_77 : decode b_M_giveUp 77 = .ok (.iload_n 1, 1) := by decide +kernel
theorem d_M_giveUp_78 : decode b_M_giveUp 78 = .ok (.imul, 1) := by decide +kernel
theorem d_M_giveUp_79 : decode b_M_giveUp 79 = .ok (.iload_n 2, 1) := by decide +kernel
theorem d_M_giveUp_80 : decode b_M_giveUp 80 = .ok (.iadd, 1) := by decide +kernel
theorem d_M_giveUp_81 : decode b_M_giveUp 81 = .ok (.iconst 0, 1) := by decide +kernel
theorem d_M_giveUp_82 : decode b_M_giveUp 82 = .ok (.iastore, 1) := by decide +kernel
theorem d_M_giveUp_83 : decode b_M_giveUp 83 = .ok (.aload_n 0, 1) := by decide +kernel
theorem d_M_giveUp_84 : decode b_M_giveUp 84 = .ok (.dup, 1) := by decide +kernel
theorem d_M_giveUp_85 : decode b_M_giveUp 85 = .ok (.getfield 129, 3) := by decide +kernel
theorem d_M_giveUp_88 : decode b_M_giveUp 88 = .ok (.iconst 1, 1) := by decide +kernel
theorem d_M_giveUp_89 : decode b_M_giveUp 89 = .ok (.iadd, 1) := by decide +kernel
theorem d_M_giveUp_90 : decode b_M_giveUp 90 = .ok (.putfield 129, 3) := by decide +kernel
theorem d_M_giveUp_93 : decode b_M_giveUp 93 = .ok (.aload_n 0, 1) := by decide +kernel
theorem d_M_giveUp_94 : decode b_M_giveUp 94 = .ok (.getfield 71, 3) := by decide +kernel
theorem d_M_giveUp_97 : decode b_M_giveUp 97 = .ok (.iload_n 2, 1) := by decide +kernel
theorem d_M_giveUp_98 : decode b_M_giveUp 98 = .ok (.iaload, 1) := by decide +kernel
theorem d_M_giveUp_99 : decode b_M_giveUp 99 = .ok (.iload_n 1, 1) := by decide +kernel
theorem d_M_giveUp_100 : decode b_M_giveUp 100 = .ok (.if_icmp .eq 4, 3) := by decide +kernel
theorem d_M_giveUp_103 : decode b_M_giveUp 103 = .ok (.return_, 1) := by decide +kernel
theorem d_M_giveUp_104 : decode b_M_giveUp 104 = .ok (.aload_n 0, 1) := by decide +kernel
theorem d_M_giveUp_105 : decode b_M_giveUp 105 = .ok (.getfield 71, 3) := by decide +kernel
theorem d_M_giveUp_108 : decode b_M_giveUp 108 = .ok (.iload_n 2, 1) := by decide +kernel
theorem d_M_giveUp_109 : decode b_M_giveUp 109 = .ok (.iconst 3, 1) := by decide +kernel
theorem d_M_giveUp_110 : decode b_M_giveUp 110 = .ok (.iastore, 1) := by decide +kernel
theorem d_M_giveUp_111 : decode b_M_giveUp 111 = .ok (.iconst 2, 1) := by decide +kernel
theorem d_M_giveUp_112 : decode b_M_giveUp 112 = .ok (.istore_n 3, 1) := by decide +kernel
theorem d_M_giveUp_113 : decode b_M_giveUp 113 = .ok (.iload_n 3, 1) := by decide +kernel
theorem d_M_giveUp_114 : decode b_M_giveUp 114 = .ok (.ifCond .lt 30, 3) := by decide +kernel
theorem d_M_giveUp_117 : decode b_M_giveUp 117 = .ok (.aload_n 0, 1) := by decide +kernel
theorem d_M_giveUp_118 : decode b_M_giveUp 118 = .ok (.getfield 65, 3) := by decide +kernel
theorem d_M_giveUp_121 : decode b_M_giveUp 121 = .ok (.bipush 8, 2) := by decide +kernel
theorem d_M_giveUp_123 : decode b_M_giveUp 123 = .ok (.iload_n 3, 1) := by decide +kernel
theorem d_M_giveUp_124 : decode b_M_giveUp 124 = .ok (.imul, 1) := by decide +kernel
theorem d_M_giveUp_125 : decode b_M_giveUp 125 = .ok (.iload_n 2, 1) := by decide +kernel
theorem d_M_giveUp_126 : decode b_M_giveUp 126 = .ok (.iadd, 1) := by decide +kernel
theorem d_M_giveUp_127 : decode b_M_giveUp 127 = .ok (.iaload, 1) := by decide +kernel
theorem d_M_giveUp_128 : decode b_M_giveUp 128 = .ok (.ifCond .eq 10, 3) := by decide +kernel
theorem d_M_giveUp_131 : decode b_M_giveUp 131 = .ok (.aload_n 0, 1) := by decide +kernel
theorem d_M_giveUp_132 : decode b_M_giveUp 132 = .ok (.getfield 71, 3) := by decide +kernel
theorem d_M_giveUp_135 : decode b_M_giveUp 135 = .ok (.iload_n 2, 1) := by decide +kernel
theorem d_M_giveUp_136 : decode b_M_giveUp 136 = .ok (.iload_n 3, 1) := by decide +kernel
theorem d_M_giveUp_137 : decode b_M_giveUp 137 = .ok (.iastore, 1) := by decide +kernel
theorem d_M_giveUp_138 : decode b_M_giveUp 138 = .ok (.iinc 3 (-1), 3) := by decide +kernel
theorem d_M_giveUp_141 : decode b_M_giveUp 141 = .ok (.goto (-28), 3) := by decide +kernel
theorem d_M_giveUp_144 : decode b_M_giveUp 144 = .ok (.aload_n 0, 1) := by decide +kernel
theorem d_M_giveUp_145 : decode b_M_giveUp 145 = .ok (.getfield 71, 3) := by decide +kernel
theorem d_M_giveUp_148 : decode b_M_giveUp 148 = .ok (.iload_n 2, 1) := by decide +kernel
theorem d_M_giveUp_149 : decode b_M_giveUp 149 = .ok (.iaload, 1) := by decide +kernel
theorem d_M_giveUp_150 : decode b_M_giveUp 150 = .ok (.iconst 3, 1) := by decide +kernel
theorem d_M_giveUp_151 : decode b_M_giveUp 151 = .ok (.if_icmp .ne 13, 3) := by decide +kernel
theorem d_M_giveUp_154 : decode b_M_giveUp 154 = .ok (.aload_n 0, 1) := by decide +kernel
theorem d_M_giveUp_155 : decode b_M_giveUp 155 = .ok (.dup, 1) := by decide +kernel
theorem d_M_giveUp_156 : decode b_M_giveUp 156 = .ok (.getfield 132, 3) := by decide +kernel
theorem d_M_giveUp_159 : decode b_M_giveUp 159 = .ok (.iconst 1, 1) := by decide +kernel
theorem d_M_giveUp_160 : decode b_M_giveUp 160 = .ok (.iadd, 1) := by decide +kernel
theorem d_M_giveUp_161 : decode b_M_giveUp 161 = .ok (.putfield 132, 3) := by decide +kernel
theorem d_M_giveUp_164 : decode b_M_giveUp 164 = .ok (.return_, 1) := by decide +kernel
theorem d_M_held_0 : decode b_M_held 0 = .ok (.iconst 0, 1) := by decide +kernel
theorem d_M_held_1 : decode b_M_held 1 = .ok (.istore_n 2, 1) := by decide +kernel
theorem d_M_held_2 : decode b_M_held 2 = .ok (.iconst 0, 1) := by decide +kernel
theorem d_M_held_3 : decode b_M_held 3 = .ok (.istore_n 3, 1) := by decide +kernel
theorem d_M_held_4 : decode b_M_held 4 = .ok (.iload_n 3, 1) := by decide +kernel
theorem d_M_held_5 : decode b_M_held 5 = .ok (.bipush 8, 2) := by decide +kernel
theorem d_M_held_7 : decode b_M_held 7 = .ok (.if_icmp .ge 26, 3) := by decide +kernel
theorem d_M_held_10 : decode b_M_held 10 = .ok (.aload_n 0, 1) := by decide +kernel
theorem d_M_held_11 : decode b_M_held 11 = .ok (.getfield 65, 3) := by decide +kernel
theorem d_M_held_14 : decode b_M_held 14 = .ok (.bipush 8, 2) := by decide +kernel
theorem d_M_held_16 : decode b_M_held 16 = .ok (.iload_n 1, 1) := by decide +kernel
theorem d_M_held_17 : decode b_M_held 17 = .ok (.imul, 1) := by decide +kernel
theorem d_M_held_18 : decode b_M_held 18 = .ok (.iload_n 3, 1) := by decide +kernel
theorem d_M_held_19 : decode b_M_held 19 = .ok (.iadd, 1) := by decide +kernel
theorem d_M_held_20 : decode b_M_held 20 = .ok (.iaload, 1) := by decide +kernel
theorem d_M_held_21 : decode b_M_held 21 = .ok (.ifCond .eq 6, 3) := by decide +kernel
theorem d_M_held_24 : decode b_M_held 24 = .ok (.iinc 2 1, 3) := by decide +kernel
theorem d_M_held_27 : decode b_M_held 27 = .ok (.iinc 3 1, 3) := by decide +kernel
theorem d_M_held_30 : decode b_M_held 30 = .ok (.goto (-26), 3) := by decide +kernel
theorem d_M_held_33 : decode b_M_held 33 = .ok (.iload_n 2, 1) := by decide +kernel
theorem d_M_held_34 : decode b_M_held 34 = .ok (.ireturn, 1) := by decide +kernel
theorem d_M_share_0 : decode b_M_share 0 = .ok (.iconst 0, 1) := by decide +kernel
theorem d_M_share_1 : decode b_M_share 1 = .ok (.istore 4, 2) := by decide +kernel
theorem d_M_share_3 : decode b_M_share 3 = .ok (.iload 4, 2) := by decide +kernel
theorem d_M_share_5 : decode b_M_share 5 = .ok (.iconst 3, 1) := by decide +kernel
theorem d_M_share_6 : decode b_M_share 6 = .ok (.if_icmp .ge 67, 3) := by decide +kernel
theorem d_M_share_9 : decode b_M_share 9 = .ok (.bipush 8, 2) := by decide +kernel
theorem d_M_share_11 : decode b_M_share 11 = .ok (.iload 4, 2) := by decide +kernel
theorem d_M_share_13 : decode b_M_share 13 = .ok (.imul, 1) := by decide +kernel
theorem d_M_share_14 : decode b_M_share 14 = .ok (.iload_n 2, 1) := by decide +kernel
theorem d_M_share_15 : decode b_M_share 15 = .ok (.iadd, 1) := by decide +kernel
theorem d_M_share_16 : decode b_M_share 16 = .ok (.istore 5, 2) := by decide +kernel
theorem d_M_share_18 : decode b_M_share 18 = .ok (.iload 4, 2) := by decide +kernel
theorem d_M_share_20 : decode b_M_share 20 = .ok (.iload_n 1, 1) := by decide +kernel
theorem d_M_share_21 : decode b_M_share 21 = .ok (.if_icmp .eq 46, 3) := by decide +kernel
theorem d_M_share_24 : decode b_M_share 24 = .ok (.aload_n 0, 1) := by decide +kernel
theorem d_M_share_25 : decode b_M_share 25 = .ok (.getfield 65, 3) := by decide +kernel
theorem d_M_share_28 : decode b_M_share 28 = .ok (.iload 5, 2) := by decide +kernel
theorem d_M_share_30 : decode b_M_share 30 = .ok (.iaload, 1) := by decide +kernel
theorem d_M_share_31 : decode b_M_share 31 = .ok (.ifCond .ne 6, 3) := by decide +kernel
theorem d_M_share_34 : decode b_M_share 34 = .ok (.goto 33, 3) := by decide +kernel
theorem d_M_share_37 : decode b_M_share 37 = .ok (.iload_n 3, 1) := by decide +kernel
theorem d_M_share_38 : decode b_M_share 38 = .ok (.ifCond .eq 13, 3) := by decide +kernel
theorem d_M_share_41 : decode b_M_share 41 = .ok (.aload_n 0, 1) := by decide +kernel
theorem d_M_share_42 : decode b_M_share 42 = .ok (.dup, 1) := by decide +kernel
theorem d_M_share_43 : decode b_M_share 43 = .ok (.getfield 132, 3) := by decide +kernel
theorem d_M_share_46 : decode b_M_share 46 = .ok (.iconst 1, 1) := by decide +kernel
theorem d_M_share_47 : decode b_M_share 47 = .ok (.iadd, 1) := by decide +kernel
theorem d_M_share_48 : decode b_M_share 48 = .ok (.putfield 132, 3) := by decide +kernel
theorem d_M_share_51 : decode b_M_share 51 = .ok (.aload_n 0, 1) := by decide +kernel
theorem d_M_share_52 : decode b_M_share 52 = .ok (.getfield 65, 3) := by decide +kernel
theorem d_M_share_55 : decode b_M_share 55 = .ok (.iload 5, 2) := by decide +kernel
theorem d_M_share_57 : decode b_M_share 57 = .ok (.iload_n 3, 1) := by decide +kernel
theorem d_M_share_58 : decode b_M_share 58 = .ok (.ifCond .eq 7, 3) := by decide +kernel
theorem d_M_share_61 : decode b_M_share 61 = .ok (.iconst 0, 1) := by decide +kernel
theorem d_M_share_62 : decode b_M_share 62 = .ok (.goto 4, 3) := by decide +kernel
theorem d_M_share_65 : decode b_M_share 65 = .ok (.iconst 1, 1) := by decide +kernel
theorem d_M_share_66 : decode b_M_share 66 = .ok (.iastore, 1) := by decide +kernel
theorem d_M_share_67 : decode b_M_share 67 = .ok (.iinc 4 1, 3) := by decide +kernel
theorem d_M_share_70 : decode b_M_share 70 = .ok (.goto (-67), 3) := by decide +kernel
theorem d_M_share_73 : decode b_M_share 73 = .ok (.iload_n 3, 1) := by decide +kernel
theorem d_M_share_74 : decode b_M_share 74 = .ok (.ifCond .ne 17, 3) := by decide +kernel
theorem d_M_share_77 : decode b_M_share 77 = .ok (.aload_n 0, 1) := by decide +kernel
theorem d_M_share_78 : decode b_M_share 78 = .ok (.getfield 65, 3) := by decide +kernel
theorem d_M_share_81 : decode b_M_share 81 = .ok (.bipush 8, 2) := by decide +kernel
theorem d_M_share_83 : decode b_M_share 83 = .ok (.iload_n 1, 1) := by decide +kernel
theorem d_M_share_84 : decode b_M_share 84 = .ok (.imul, 1) := by decide +kernel
theorem d_M_share_85 : decode b_M_share 85 = .ok (.iload_n 2, 1) := by decide +kernel
theorem d_M_share_86 : decode b_M_share 86 = .ok (.iadd, 1) := by decide +kernel
theorem d_M_share_87 : decode b_M_share 87 = .ok (.iaload, 1) := by decide +kernel
theorem d_M_share_88 : decode b_M_share 88 = .ok (.ifCond .ne 23, 3) := by decide +kernel
theorem d_M_share_91 : decode b_M_share 91 = .ok (.aload_n 0, 1) := by decide +kernel
theorem d_M_share_92 : decode b_M_share 92 = .ok (.getfield 65, 3) := by decide +kernel
theorem d_M_share_95 : decode b_M_share 95 = .ok (.bipush 8, 2) := by decide +kernel
theorem d_M_share_97 : decode b_M_share 97 = .ok (.iload_n 1, 1) := by decide +kernel
theorem d_M_share_98 : decode b_M_share 98 = .ok (.imul, 1) := by decide +kernel
theorem d_M_share_99 : decode b_M_share 99 = .ok (.iload_n 2, 1) := by decide +kernel
theorem d_M_share_100 : decode b_M_share 100 = .ok (.iadd, 1) := by decide +kernel
theorem d_M_share_101 : decode b_M_share 101 = .ok (.iload_n 3, 1) := by decide +kernel
theorem d_M_share_102 : decode b_M_share 102 = .ok (.ifCond .eq 7, 3) := by decide +kernel
theorem d_M_share_105 : decode b_M_share 105 = .ok (.iconst 2, 1) := by decide +kernel
theorem d_M_share_106 : decode b_M_share 106 = .ok (.goto 4, 3) := by decide +kernel
theorem d_M_share_109 : decode b_M_share 109 = .ok (.iconst 1, 1) := by decide +kernel
theorem d_M_share_110 : decode b_M_share 110 = .ok (.iastore, 1) := by decide +kernel
theorem d_M_share_111 : decode b_M_share 111 = .ok (.iload_n 3, 1) := by decide +kernel
theorem d_M_share_112 : decode b_M_share 112 = .ok (.ifCond .ne 13, 3) := by decide +kernel
theorem d_M_share_115 : decode b_M_share 115 = .ok (.aload_n 0, 1) := by decide +kernel
theorem d_M_share_116 : decode b_M_share 116 = .ok (.getfield 71, 3) := by decide +kernel
theorem d_M_share_119 : decode b_M_share 119 = .ok (.iload_n 2, 1) := by decide +kernel
theorem d_M_share_120 : decode b_M_share 120 = .ok (.iaload, 1) := by decide +kernel
theorem d_M_share_121 : decode b_M_share 121 = .ok (.iconst 3, 1) := by decide +kernel
theorem d_M_share_122 : decode b_M_share 122 = .ok (.if_icmp .ne 10, 3) := by decide +kernel
theorem d_M_share_125 : decode b_M_share 125 = .ok (.aload_n 0, 1) := by decide +kernel
theorem d_M_share_126 : decode b_M_share 126 = .ok (.getfield 71, 3) := by decide +kernel
theorem d_M_share_129 : decode b_M_share 129 = .ok (.iload_n 2, 1) := by decide +kernel
theorem d_M_share_130 : decode b_M_share 130 = .ok (.iload_n 1, 1) := by decide +kernel
theorem d_M_share_131 : decode b_M_share 131 = .ok (.iastore, 1) := by decide +kernel
theorem d_M_share_132 : decode b_M_share 132 = .ok (.return_, 1) := by decide +kernel
theorem d_M_serve_0 : decode b_M_serve 0 = .ok (.iload_n 1, 1) := by decide +kernel
theorem d_M_serve_1 : decode b_M_serve 1 = .ok (.bipush 7, 2) := by decide +kernel
theorem d_M_serve_3 : decode b_M_serve 3 = .ok (.invokestatic 84, 3) := by decide +kernel
theorem d_M_serve_6 : decode b_M_serve 6 = .ok (.ifCond .eq 5, 3) := by decide +kernel
theorem d_M_serve_9 : decode b_M_serve 9 = .ok (.iconst (-1), 1) := by decide +kernel
theorem d_M_serve_10 : decode b_M_serve 10 = .ok (.ireturn, 1) := by decide +kernel
theorem d_M_serve_11 : decode b_M_serve 11 = .ok (.aload_n 0, 1) := by decide +kernel
theorem d_M_serve_12 : decode b_M_serve 12 = .ok (.iload_n 1, 1) := by decide +kernel
theorem d_M_serve_13 : decode b_M_serve 13 = .ok (.invokevirtual 135, 3) := by decide +kernel
theorem d_M_serve_16 : decode b_M_serve 16 = .ok (.istore_n 2, 1) := by decide +kernel
theorem d_M_serve_17 : decode b_M_serve 17 = .ok (.iload_n 2, 1) := by decide +kernel
theorem d_M_serve_18 : decode b_M_serve 18 = .ok (.bipush 8, 2) := by decide +kernel
theorem d_M_serve_20 : decode b_M_serve 20 = .ok (.if_icmp .eq 29, 3) := by decide +kernel
theorem d_M_serve_23 : decode b_M_serve 23 = .ok (.aload_n 0, 1) := by decide +kernel
theorem d_M_serve_24 : decode b_M_serve 24 = .ok (.getfield 34, 3) := by decide +kernel
theorem d_M_serve_27 : decode b_M_serve 27 = .ok (.iload_n 2, 1) := by decide +kernel
theorem d_M_serve_28 : decode b_M_serve 28 = .ok (.iaload, 1) := by decide +kernel
theorem d_M_serve_29 : decode b_M_serve 29 = .ok (.iconst 4, 1) := by decide +kernel
theorem d_M_serve_30 : decode b_M_serve 30 = .ok (.if_icmp .ne 19, 3) := by decide +kernel
theorem d_M_serve_33 : decode b_M_serve 33 = .ok (.aload_n 0, 1) := by decide +kernel
theorem d_M_serve_34 : decode b_M_serve 34 = .ok (.getfield 52, 3) := by decide +kernel
theorem d_M_serve_37 : decode b_M_serve 37 = .ok (.iload_n 2, 1) := by decide +kernel
theorem d_M_serve_38 : decode b_M_serve 38 = .ok (.iconst 0, 1) := by decide +kernel
theorem d_M_serve_39 : decode b_M_serve 39 = .ok (.iastore, 1) := by decide +kernel
theorem d_M_serve_40 : decode b_M_serve 40 = .ok (.aload_n 0, 1) := by decide +kernel
theorem d_M_serve_41 : decode b_M_serve 41 = .ok (.iload_n 1, 1) := by decide +kernel
theorem d_M_serve_42 : decode b_M_serve 42 = .ok (.invokevirtual 135, 3) := by decide +kernel
theorem d_M_serve_45 : decode b_M_serve 45 = .ok (.istore_n 2, 1) := by decide +kernel
theorem d_M_serve_46 : decode b_M_serve 46 = .ok (.goto (-29), 3) := by decide +kernel
theorem d_M_serve_49 : decode b_M_serve 49 = .ok (.iload_n 2, 1) := by decide +kernel
theorem d_M_serve_50 : decode b_M_serve 50 = .ok (.bipush 8, 2) := by decide +kernel
theorem d_M_serve_52 : decode b_M_serve 52 = .ok (.if_icmp .ne 6, 3) := by decide +kernel
theorem d_M_serve_55 : decode b_M_serve 55 = .ok (.bipush (-3), 2) := by decide +kernel
theorem d_M_serve_57 : decode b_M_serve 57 = .ok (.ireturn, 1) := by decide +kernel
theorem d_M_serve_58 : decode b_M_serve 58 = .ok (.aload_n 0, 1) := by decide +kernel
theorem d_M_serve_59 : decode b_M_serve 59 = .ok (.getfield 52, 3) := by decide +kernel
theorem d_M_serve_62 : decode b_M_serve 62 = .ok (.iload_n 2, 1) := by decide +kernel
theorem d_M_serve_63 : decode b_M_serve 63 = .ok (.iconst 0, 1) := by decide +kernel
theorem d_M_serve_64 : decode b_M_serve 64 = .ok (.iastore, 1) := by decide +kernel
theorem d_M_serve_65 : decode b_M_serve 65 = .ok (.aload_n 0, 1) := by decide +kernel
theorem d_M_serve_66 : decode b_M_serve 66 = .ok (.getfield 31, 3) := by decide +kernel
theorem d_M_serve_69 : decode b_M_serve 69 = .ok (.iload_n 2, 1) := by decide +kernel
theorem d_M_serve_70 : decode b_M_serve 70 = .ok (.iaload, 1) := by decide +kernel
theorem d_M_serve_71 : decode b_M_serve 71 = .ok (.istore_n 3, 1) := by decide +kernel
theorem d_M_serve_72 : decode b_M_serve 72 = .ok (.aload_n 0, 1) := by decide +kernel
theorem d_M_serve_73 : decode b_M_serve 73 = .ok (.getfield 65, 3) := by decide +kernel
theorem d_M_serve_76 : decode b_M_serve 76 = .ok (.bipush 8, 2) := by decide +kernel
theorem d_M_serve_78 : decode b_M_serve 78 = .ok (.iload_n 3, 1) := by decide +kernel
theorem d_M_serve_79 : decode b_M_serve 79 = .ok (.imul, 1) := by decide +kernel
theorem d_M_serve_80 : decode b_M_serve 80 = .ok (.iload_n 1, 1) := by decide +kernel
theorem d_M_serve_81 : decode b_M_serve 81 = .ok (.iadd, 1) := by decide +kernel
theorem d_M_serve_82 : decode b_M_serve 82 = .ok (.iaload, 1) := by decide +kernel
theorem d_M_serve_83 : decode b_M_serve 83 = .ok (.ifCond .ne 7, 3) := by decide +kernel
theorem d_M_serve_86 : decode b_M_serve 86 = .ok (.iconst 1, 1) := by decide +kernel
theorem d_M_serve_87 : decode b_M_serve 87 = .ok (.goto 4, 3) := by decide +kernel
theorem d_M_serve_90 : decode b_M_serve 90 = .ok (.iconst 0, 1) := by decide +kernel
theorem d_M_serve_91 : decode b_M_serve 91 = .ok (.istore 4, 2) := by decide +kernel
theorem d_M_serve_93 : decode b_M_serve 93 = .ok (.aload_n 0, 1) := by decide +kernel
theorem d_M_serve_94 : decode b_M_serve 94 = .ok (.dup, 1) := by decide +kernel
theorem d_M_serve_95 : decode b_M_serve 95 = .ok (.getfield 132, 3) := by decide +kernel
theorem d_M_serve_98 : decode b_M_serve 98 = .ok (.iload 4, 2) := by decide +kernel
theorem d_M_serve_100 : decode b_M_serve 100 = .ok (.ifCond .eq 7, 3) := by decide +kernel
theorem d_M_serve_103 : decode b_M_serve 103 = .ok (.iconst 2, 1) := by decide +kernel
theorem d_M_serve_104 : decode b_M_serve 104 = .ok (.goto 4, 3) := by decide +kernel
theorem d_M_serve_107 : decode b_M_serve 107 = .ok (.iconst 1, 1) := by decide +kernel
theorem d_M_serve_108 : decode b_M_serve 108 = .ok (.iadd, 1) := by decide +kernel
theorem d_M_serve_109 : decode b_M_serve 109 = .ok (.putfield 132, 3) := by decide +kernel
theorem d_M_serve_112 : decode b_M_serve 112 = .ok (.iload 4, 2) := by decide +kernel
theorem d_M_serve_114 : decode b_M_serve 114 = .ok (.ifCond .eq 17, 3) := by decide +kernel
theorem d_M_serve_117 : decode b_M_serve 117 = .ok (.aload_n 0, 1) := by decide +kernel
theorem d_M_serve_118 : decode b_M_serve 118 = .ok (.iload_n 3, 1) := by decide +kernel
theorem d_M_serve_119 : decode b_M_serve 119 = .ok (.invokevirtual 139, 3) := by decide +kernel
theorem d_M_serve_122 : decode b_M_serve 122 = .ok (.iconst 3, 1) := by decide +kernel
theorem d_M_serve_123 : decode b_M_serve 123 = .ok (.if_icmp .ne 8, 3) := by decide +kernel
theorem d_M_serve_126 : decode b_M_serve 126 = .ok (.aload_n 0, 1) := by decide +kernel
theorem d_M_serve_127 : decode b_M_serve 127 = .ok (.iload_n 3, 1) := by decide +kernel
theorem d_M_serve_128 : decode b_M_serve 128 = .ok (.invokevirtual 142, 3) := by decide +kernel
theorem d_M_serve_131 : decode b_M_serve 131 = .ok (.aload_n 0, 1) := by decide +kernel
theorem d_M_serve_132 : decode b_M_serve 132 = .ok (.iload_n 3, 1) := by decide +kernel
theorem d_M_serve_133 : decode b_M_serve 133 = .ok (.iload_n 1, 1) := by decide +kernel
theorem d_M_serve_134 : decode b_M_serve 134 = .ok (.aload_n 0, 1) := by decide +kernel
theorem d_M_serve_135 : decode b_M_serve 135 = .ok (.getfield 58, 3) := by decide +kernel
theorem d_M_serve_138 : decode b_M_serve 138 = .ok (.iload_n 2, 1) := by decide +kernel
theorem d_M_serve_139 : decode b_M_serve 139 = .ok (.baload, 1) := by decide +kernel
theorem d_M_serve_140 : decode b_M_serve 140 = .ok (.invokevirtual 145, 3) := by decide +kernel
theorem d_M_serve_143 : decode b_M_serve 143 = .ok (.aload_n 0, 1) := by decide +kernel
theorem d_M_serve_144 : decode b_M_serve 144 = .ok (.getfield 68, 3) := by decide +kernel
theorem d_M_serve_147 : decode b_M_serve 147 = .ok (.bipush 8, 2) := by decide +kernel
theorem d_M_serve_149 : decode b_M_serve 149 = .ok (.iload_n 3, 1) := by decide +kernel
theorem d_M_serve_150 : decode b_M_serve 150 = .ok (.imul, 1) := by decide +kernel
theorem d_M_serve_151 : decode b_M_serve 151 = .ok (.iload_n 1, 1) := by decide +kernel
theorem d_M_serve_152 : decode b_M_serve 152 = .ok (.iadd, 1) := by decide +kernel
theorem d_M_serve_153 : decode b_M_serve 153 = .ok (.aload_n 0, 1) := by decide +kernel
theorem d_M_serve_154 : decode b_M_serve 154 = .ok (.invokevirtual 88, 3) := by decide +kernel
theorem d_M_serve_157 : decode b_M_serve 157 = .ok (.iastore, 1) := by decide +kernel
theorem d_M_serve_158 : decode b_M_serve 158 = .ok (.aload_n 0, 1) := by decide +kernel
theorem d_M_serve_159 : decode b_M_serve 159 = .ok (.dup, 1) := by decide +kernel
theorem d_M_serve_160 : decode b_M_serve 160 = .ok (.getfield 149, 3) := by decide +kernel
theorem d_M_serve_163 : decode b_M_serve 163 = .ok (.iconst 1, 1) := by decide +kernel
theorem d_M_serve_164 : decode b_M_serve 164 = .ok (.iadd, 1) := by decide +kernel
theorem d_M_serve_165 : decode b_M_serve 165 = .ok (.putfield 149, 3) := by decide +kernel
theorem d_M_serve_168 : decode b_M_serve 168 = .ok (.aload_n 0, 1) := by decide +kernel
theorem d_M_serve_169 : decode b_M_serve 169 = .ok (.iload_n 2, 1) := by decide +kernel
theorem d_M_serve_170 : decode b_M_serve 170 = .ok (.invokevirtual 92, 3) := by decide +kernel
theorem d_M_serve_173 : decode b_M_serve 173 = .ok (.iload_n 2, 1) := by decide +kernel
theorem d_M_serve_174 : decode b_M_serve 174 = .ok (.ireturn, 1) := by decide +kernel
theorem d_M_migrate_0 : decode b_M_migrate 0 = .ok (.aload_n 0, 1) := by decide +kernel
theorem d_M_migrate_1 : decode b_M_migrate 1 = .ok (.iload_n 1, 1) := by decide +kernel
theorem d_M_migrate_2 : decode b_M_migrate 2 = .ok (.invokevirtual 100, 3) := by decide +kernel
theorem d_M_migrate_5 : decode b_M_migrate 5 = .ok (.ifCond .ne 31, 3) := by decide +kernel
theorem d_M_migrate_8 : decode b_M_migrate 8 = .ok (.aload_n 0, 1) := by decide +kernel
theorem d_M_migrate_9 : decode b_M_migrate 9 = .ok (.getfield 34, 3) := by decide +kernel
theorem d_M_migrate_12 : decode b_M_migrate 12 = .ok (.iload_n 1, 1) := by decide +kernel
theorem d_M_migrate_13 : decode b_M_migrate 13 = .ok (.iaload, 1) := by decide +kernel
theorem d_M_migrate_14 : decode b_M_migrate 14 = .ok (.iconst 4, 1) := by decide +kernel
theorem d_M_migrate_15 : decode b_M_migrate 15 = .ok (.if_icmp .eq 21, 3) := by decide +kernel
theorem d_M_migrate_18 : decode b_M_migrate 18 = .ok (.iload_n 2, 1) := by decide +kernel
theorem d_M_migrate_19 : decode b_M_migrate 19 = .ok (.iconst 2, 1) := by decide +kernel
theorem d_M_migrate_20 : decode b_M_migrate 20 = .ok (.invokestatic 84, 3) := by decide +kernel
theorem d_M_migrate_23 : decode b_M_migrate 23 = .ok (.ifCond .ne 13, 3) := by decide +kernel
theorem d_M_migrate_26 : decode b_M_migrate 26 = .ok (.aload_n 0, 1) := by decide +kernel
theorem d_M_migrate_27 : decode b_M_migrate 27 = .ok (.getfield 31, 3) := by decide +kernel
theorem d_M_migrate_30 : decode b_M_migrate 30 = .ok (.iload_n 1, 1) := by decide +kernel
theorem d_M_migrate_31 : decode b_M_migrate 31 = .ok (.iaload, 1) := by decide +kernel
theorem d_M_migrate_32 : decode b_M_migrate 32 = .ok (.iload_n 2, 1) := by decide +kernel
theorem d_M_migrate_33 : decode b_M_migrate 33 = .ok (.if_icmp .ne 5, 3) := by decide +kernel
theorem d_M_migrate_36 : decode b_M_migrate 36 = .ok (.iconst (-1), 1) := by decide +kernel
theorem d_M_migrate_37 : decode b_M_migrate 37 = .ok (.ireturn, 1) := by decide +kernel
theorem d_M_migrate_38 : decode b_M_migrate 38 = .ok (.aload_n 0, 1) := by decide +kernel
theorem d_M_migrate_39 : decode b_M_migrate 39 = .ok (.getfield 31, 3) := by decide +kernel
theorem d_M_migrate_42 : decode b_M_migrate 42 = .ok (.iload_n 1, 1) := by decide +kernel
theorem d_M_migrate_43 : decode b_M_migrate 43 = .ok (.iaload, 1) := by decide +kernel
theorem d_M_migrate_44 : decode b_M_migrate 44 = .ok (.istore_n 3, 1) := by decide +kernel
theorem d_M_migrate_45 : decode b_M_migrate 45 = .ok (.aload_n 0, 1) := by decide +kernel
theorem d_M_migrate_46 : decode b_M_migrate 46 = .ok (.getfield 31, 3) := by decide +kernel
theorem d_M_migrate_49 : decode b_M_migrate 49 = .ok (.iload_n 1, 1) := by decide +kernel
theorem d_M_migrate_50 : decode b_M_migrate 50 = .ok (.iload_n 2, 1) := by decide +kernel
theorem d_M_migrate_51 : decode b_M_migrate 51 = .ok (.iastore, 1) := by decide +kernel
theorem d_M_migrate_52 : decode b_M_migrate 52 = .ok (.aload_n 0, 1) := by decide +kernel
theorem d_M_migrate_53 : decode b_M_migrate 53 = .ok (.getfield 34, 3) := by decide +kernel
theorem d_M_migrate_56 : decode b_M_migrate 56 = .ok (.iload_n 1, 1) := by decide +kernel
theorem d_M_migrate_57 : decode b_M_migrate 57 = .ok (.iaload, 1) := by decide +kernel
theorem d_M_migrate_58 : decode b_M_migrate 58 = .ok (.iconst 1, 1) := by decide +kernel
theorem d_M_migrate_59 : decode b_M_migrate 59 = .ok (.if_icmp .ne 8, 3) := by decide +kernel
theorem d_M_migrate_62 : decode b_M_migrate 62 = .ok (.aload_n 0, 1) := by decide +kernel
theorem d_M_migrate_63 : decode b_M_migrate 63 = .ok (.iload_n 1, 1) := by decide +kernel
theorem d_M_migrate_64 : decode b_M_migrate 64 = .ok (.invokevirtual 92, 3) := by decide +kernel
theorem d_M_migrate_67 : decode b_M_migrate 67 = .ok (.aload_n 0, 1) := by decide +kernel
theorem d_M_migrate_68 : decode b_M_migrate 68 = .ok (.getfield 74, 3) := by decide +kernel
theorem d_M_migrate_71 : decode b_M_migrate 71 = .ok (.bipush 8, 2) := by decide +kernel
theorem d_M_migrate_73 : decode b_M_migrate 73 = .ok (.iload_n 3, 1) := by decide +kernel
theorem d_M_migrate_74 : decode b_M_migrate 74 = .ok (.imul, 1) := by decide +kernel
theorem d_M_migrate_75 : decode b_M_migrate 75 = .ok (.iload_n 1, 1) := by decide +kernel
theorem d_M_migrate_76 : decode b_M_migrate 76 = .ok (.iadd, 1) := by decide +kernel
theorem d_M_migrate_77 : decode b_M_migrate 77 = .ok (.iload_n 2, 1) := by decide +kernel
theorem d_M_migrate_78 : decode b_M_migrate 78 = .ok (.iastore, 1) := by decide +kernel
theorem d_M_migrate_79 : decode b_M_migrate 79 = .ok (.aload_n 0, 1) := by decide +kernel
theorem d_M_migrate_80 : decode b_M_migrate 80 = .ok (.getfield 74, 3) := by decide +kernel
theorem d_M_migrate_83 : decode b_M_migrate 83 = .ok (.bipush 8, 2) := by decide +kernel
theorem d_M_migrate_85 : decode b_M_migrate 85 = .ok (.iload_n 2, 1) := by decide +kernel
theorem d_M_migrate_86 : decode b_M_migrate 86 = .ok (.imul, 1) := by decide +kernel
theorem d_M_migrate_87 : decode b_M_migrate 87 = .ok (.iload_n 1, 1) := by decide +kernel
theorem d_M_migrate_88 : decode b_M_migrate 88 = .ok (.iadd, 1) := by decide +kernel
theorem d_M_migrate_89 : decode b_M_migrate 89 = .ok (.iload_n 2, 1) := by decide +kernel
theorem d_M_migrate_90 : decode b_M_migrate 90 = .ok (.iastore, 1) := by decide +kernel
theorem d_M_migrate_91 : decode b_M_migrate 91 = .ok (.iload_n 3, 1) := by decide +kernel
theorem d_M_migrate_92 : decode b_M_migrate 92 = .ok (.ireturn, 1) := by decide +kernel
theorem d_M_find_0 : decode b_M_find 0 = .ok (.iload_n 1, 1) := by decide +kernel
theorem d_M_find_1 : decode b_M_find 1 = .ok (.iconst 2, 1) := by decide +kernel
theorem d_M_find_2 : decode b_M_find 2 = .ok (.invokestatic 84, 3) := by decide +kernel
theorem d_M_find_5 : decode b_M_find 5 = .ok (.ifCond .ne 11, 3) := by decide +kernel
theorem d_M_find_8 : decode b_M_find 8 = .ok (.aload_n 0, 1) := by decide +kernel
theorem d_M_find_9 : decode b_M_find 9 = .ok (.iload_n 2, 1) := by decide +kernel
theorem d_M_find_10 : decode b_M_find 10 = .ok (.invokevirtual 100, 3) := by decide +kernel
theorem d_M_find_13 : decode b_M_find 13 = .ok (.ifCond .eq 5, 3) := by decide +kernel
theorem d_M_find_16 : decode b_M_find 16 = .ok (.iconst (-1), 1) := by decide +kernel
theorem d_M_find_17 : decode b_M_find 17 = .ok (.ireturn, 1) := by decide +kernel
theorem d_M_find_18 : decode b_M_find 18 = .ok (.iload_n 1, 1) := by decide +kernel
theorem d_M_find_19 : decode b_M_find 19 = .ok (.istore_n 3, 1) := by decide +kernel
theorem d_M_find_20 : decode b_M_find 20 = .ok (.iconst 0, 1) := by decide +kernel
theorem d_M_find_21 : decode b_M_find 21 = .ok (.istore 4, 2) := by decide +kernel
theorem d_M_find_23 : decode b_M_find 23 = .ok (.iload_n 3, 1) := by decide +kernel
theorem d_M_find_24 : decode b_M_find 24 = .ok (.aload_n 0, 1) := by decide +kernel
theorem d_M_find_25 : decode b_M_find 25 = .ok (.getfield 31, 3) := by decide +kernel
theorem d_M_find_28 : decode b_M_find 28 = .ok (.iload_n 2, 1) := by decide +kernel
theorem d_M_find_29 : decode b_M_find 29 = .ok (.iaload, 1) := by decide +kernel
theorem d_M_find_30 : decode b_M_find 30 = .ok (.if_icmp .eq 49, 3) := by decide +kernel
theorem d_M_find_33 : decode b_M_find 33 = .ok (.iload 4, 2) := by decide +kernel
theorem d_M_find_35 : decode b_M_find 35 = .ok (.bipush 9, 2) := by decide +kernel
theorem d_M_find_37 : decode b_M_find 37 = .ok (.if_icmp .ge 42, 3) := by decide +kernel
theorem d_M_find_40 : decode b_M_find 40 = .ok (.aload_n 0, 1) := by decide +kernel
theorem d_M_find_41 : decode b_M_find 41 = .ok (.getfield 74, 3) := by decide +kernel
theorem d_M_find_44 : decode b_M_find 44 = .ok (.bipush 8, 2) := by decide +kernel
theorem d_M_find_46 : decode b_M_find 46 = .ok (.iload_n 3, 1) := by decide +kernel
theorem d_M_find_47 : decode b_M_find 47 = .ok (.imul, 1) := by decide +kernel
theorem d_M_find_48 : decode b_M_find 48 = .ok (.iload_n 2, 1) := by decide +kernel
theorem d_M_find_49 : decode b_M_find 49 = .ok (.iadd, 1) := by decide +kernel
theorem d_M_find_50 : decode b_M_find 50 = .ok (.iaload, 1) := by decide +kernel
theorem d_M_find_51 : decode b_M_find 51 = .ok (.istore 5, 2) := by decide +kernel
theorem d_M_find_53 : decode b_M_find 53 = .ok (.aload_n 0, 1) := by decide +kernel
theorem d_M_find_54 : decode b_M_find 54 = .ok (.getfield 74, 3) := by decide +kernel
theorem d_M_find_57 : decode b_M_find 57 = .ok (.bipush 8, 2) := by decide +kernel
theorem d_M_find_59 : decode b_M_find 59 = .ok (.iload_n 3, 1) := by decide +kernel
theorem d_M_find_60 : decode b_M_find 60 = .ok (.imul, 1) := by decide +kernel
theorem d_M_find_61 : decode b_M_find 61 = .ok (.iload_n 2, 1) := by decide +kernel
theorem d_M_find_62 : decode b_M_find 62 = .ok (.iadd, 1) := by decide +kernel
theorem d_M_find_63 : decode b_M_find 63 = .ok (.aload_n 0, 1) := by decide +kernel
theorem d_M_find_64 : decode b_M_find 64 = .ok (.getfield 31, 3) := by decide +kernel
theorem d_M_find_67 : decode b_M_find 67 = .ok (.iload_n 2, 1) := by decide +kernel
theorem d_M_find_68 : decode b_M_find 68 = .ok (.iaload, 1) := by decide +kernel
theorem d_M_find_69 : decode b_M_find 69 = .ok (.iastore, 1) := by decide +kernel
theorem d_M_find_70 : decode b_M_find 70 = .ok (.iload 5, 2) := by decide +kernel
theorem d_M_find_72 : decode b_M_find 72 = .ok (.istore_n 3, 1) := by decide +kernel
theorem d_M_find_73 : decode b_M_find 73 = .ok (.iinc 4 1, 3) := by decide +kernel
theorem d_M_find_76 : decode b_M_find 76 = .ok (.goto (-53), 3) := by decide +kernel
theorem d_M_find_79 : decode b_M_find 79 = .ok (.iload 4, 2) := by decide +kernel
theorem d_M_find_81 : decode b_M_find 81 = .ok (.ireturn, 1) := by decide +kernel
theorem d_M_reg_0 : decode b_M_reg 0 = .ok (.aload_n 0, 1) := by decide +kernel
theorem d_M_reg_1 : decode b_M_reg 1 = .ok (.iload_n 1, 1) := by decide +kernel
theorem d_M_reg_2 : decode b_M_reg 2 = .ok (.invokevirtual 100, 3) := by decide +kernel
theorem d_M_reg_5 : decode b_M_reg 5 = .ok (.ifCond .ne 11, 3) := by decide +kernel
theorem d_M_reg_8 : decode b_M_reg 8 = .ok (.iload_n 2, 1) := by decide +kernel
theorem d_M_reg_9 : decode b_M_reg 9 = .ok (.iconst 3, 1) := by decide +kernel
theorem d_M_reg_10 : decode b_M_reg 10 = .ok (.invokestatic 84, 3) := by decide +kernel
theorem d_M_reg_13 : decode b_M_reg 13 = .ok (.ifCond .eq 9, 3) := by decide +kernel
theorem d_M_reg_16 : decode b_M_reg 16 = .ok (.ldc2_w 152, 3) := by decide +kernel
theorem d_M_reg_19 : decode b_M_reg 19 = .ok (.goto 14, 3) := by decide +kernel
theorem d_M_reg_22 : decode b_M_reg 22 = .ok (.aload_n 0, 1) := by decide +kernel
theorem d_M_reg_23 : decode b_M_reg 23 = .ok (.getfield 25, 3) := by decide +kernel
theorem d_M_reg_26 : decode b_M_reg 26 = .ok (.iconst 4, 1) := by decide +kernel
theorem d_M_reg_27 : decode b_M_reg 27 = .ok (.iload_n 1, 1) := by decide +kernel
theorem d_M_reg_28 : decode b_M_reg 28 = .ok (.imul, 1) := by decide +kernel
theorem d_M_reg_29 : decode b_M_reg 29 = .ok (.iload_n 2, 1) := by decide +kernel
theorem d_M_reg_30 : decode b_M_reg 30 = .ok (.iadd, 1) := by decide +kernel
theorem d_M_reg_31 : decode b_M_reg 31 = .ok (.iaload, 1) := by decide +kernel
theorem d_M_reg_32 : decode b_M_reg 32 = .ok (.i2l, 1) := by decide +kernel
theorem d_M_reg_33 : decode b_M_reg 33 = .ok (.lreturn, 1) := by decide +kernel
theorem d_M_info_0 : decode b_M_info 0 = .ok (.aload_n 0, 1) := by decide +kernel
theorem d_M_info_1 : decode b_M_info 1 = .ok (.iload_n 1, 1) := by decide +kernel
theorem d_M_info_2 : decode b_M_info 2 = .ok (.invokevirtual 100, 3) := by decide +kernel
theorem d_M_info_5 : decode b_M_info 5 = .ok (.ifCond .eq 7, 3) := by decide +kernel
theorem d_M_info_8 : decode b_M_info 8 = .ok (.ldc2_w 152, 3) := by decide +kernel
theorem d_M_info_11 : decode b_M_info 11 = .ok (.lreturn, 1) := by decide +kernel
theorem d_M_info_12 : decode b_M_info 12 = .ok (.iload_n 2, 1) := by decide +kernel
theorem d_M_info_13 : decode b_M_info 13 = .ok (.tableswitch 87 0 5 #[39, 47, 55, 63, 71, 79], 39) := by decide +kernel
theorem d_M_info_52 : decode b_M_info 52 = .ok (.aload_n 0, 1) := by decide +kernel
theorem d_M_info_53 : decode b_M_info 53 = .ok (.getfield 34, 3) := by decide +kernel
theorem d_M_info_56 : decode b_M_info 56 = .ok (.iload_n 1, 1) := by decide +kernel
theorem d_M_info_57 : decode b_M_info 57 = .ok (.iaload, 1) := by decide +kernel
theorem d_M_info_58 : decode b_M_info 58 = .ok (.i2l, 1) := by decide +kernel
theorem d_M_info_59 : decode b_M_info 59 = .ok (.lreturn, 1) := by decide +kernel
theorem d_M_info_60 : decode b_M_info 60 = .ok (.aload_n 0, 1) := by decide +kernel
theorem d_M_info_61 : decode b_M_info 61 = .ok (.getfield 31, 3) := by decide +kernel
theorem d_M_info_64 : decode b_M_info 64 = .ok (.iload_n 1, 1) := by decide +kernel
theorem d_M_info_65 : decode b_M_info 65 = .ok (.iaload, 1) := by decide +kernel
theorem d_M_info_66 : decode b_M_info 66 = .ok (.i2l, 1) := by decide +kernel
theorem d_M_info_67 : decode b_M_info 67 = .ok (.lreturn, 1) := by decide +kernel
theorem d_M_info_68 : decode b_M_info 68 = .ok (.aload_n 0, 1) := by decide +kernel
theorem d_M_info_69 : decode b_M_info 69 = .ok (.getfield 28, 3) := by decide +kernel
theorem d_M_info_72 : decode b_M_info 72 = .ok (.iload_n 1, 1) := by decide +kernel
theorem d_M_info_73 : decode b_M_info 73 = .ok (.iaload, 1) := by decide +kernel
theorem d_M_info_74 : decode b_M_info 74 = .ok (.i2l, 1) := by decide +kernel
theorem d_M_info_75 : decode b_M_info 75 = .ok (.lreturn, 1) := by decide +kernel
theorem d_M_info_76 : decode b_M_info 76 = .ok (.aload_n 0, 1) := by decide +kernel
theorem d_M_info_77 : decode b_M_info 77 = .ok (.getfield 40, 3) := by decide +kernel
theorem d_M_info_80 : decode b_M_info 80 = .ok (.iload_n 1, 1) := by decide +kernel
theorem d_M_info_81 : decode b_M_info 81 = .ok (.iaload, 1) := by decide +kernel
theorem d_M_info_82 : decode b_M_info 82 = .ok (.i2l, 1) := by decide +kernel
theorem d_M_info_83 : decode b_M_info 83 = .ok (.lreturn, 1) := by decide +kernel
theorem d_M_info_84 : decode b_M_info 84 = .ok (.aload_n 0, 1) := by decide +kernel
theorem d_M_info_85 : decode b_M_info 85 = .ok (.getfield 43, 3) := by decide +kernel
theorem d_M_info_88 : decode b_M_info 88 = .ok (.iload_n 1, 1) := by decide +kernel
theorem d_M_info_89 : decode b_M_info 89 = .ok (.iaload, 1) := by decide +kernel
theorem d_M_info_90 : decode b_M_info 90 = .ok (.i2l, 1) := by decide +kernel
theorem d_M_info_91 : decode b_M_info 91 = .ok (.lreturn, 1) := by decide +kernel
theorem d_M_info_92 : decode b_M_info 92 = .ok (.aload_n 0, 1) := by decide +kernel
theorem d_M_info_93 : decode b_M_info 93 = .ok (.getfield 49, 3) := by decide +kernel
theorem d_M_info_96 : decode b_M_info 96 = .ok (.iload_n 1, 1) := by decide +kernel
theorem d_M_info_97 : decode b_M_info 97 = .ok (.iaload, 1) := by decide +kernel
theorem d_M_info_98 : decode b_M_info 98 = .ok (.i2l, 1) := by decide +kernel
theorem d_M_info_99 : decode b_M_info 99 = .ok (.lreturn, 1) := by decide +kernel
theorem d_M_info_100 : decode b_M_info 100 = .ok (.ldc2_w 152, 3) := by decide +kernel
theorem d_M_info_103 : decode b_M_info 103 = .ok (.lreturn, 1) := by decide +kernel
theorem d_M_line_0 : decode b_M_line 0 = .ok (.iload_n 1, 1) := by decide +kernel
theorem d_M_line_1 : decode b_M_line 1 = .ok (.iconst 2, 1) := by decide +kernel
theorem d_M_line_2 : decode b_M_line 2 = .ok (.invokestatic 84, 3) := by decide +kernel
theorem d_M_line_5 : decode b_M_line 5 = .ok (.ifCond .ne 7, 3) := by decide +kernel
theorem d_M_line_8 : decode b_M_line 8 = .ok (.iload_n 2, 1) := by decide +kernel
theorem d_M_line_9 : decode b_M_line 9 = .ok (.ifCond .ge 7, 3) := by decide +kernel
theorem d_M_line_12 : decode b_M_line 12 = .ok (.iconst (-1), 1) := by decide +kernel
theorem d_M_line_13 : decode b_M_line 13 = .ok (.goto 9, 3) := by decide +kernel
theorem d_M_line_16 : decode b_M_line 16 = .ok (.aload_n 0, 1) := by decide +kernel
theorem d_M_line_17 : decode b_M_line 17 = .ok (.iload_n 1, 1) := by decide +kernel
theorem d_M_line_18 : decode b_M_line 18 = .ok (.iload_n 2, 1) := by decide +kernel
theorem d_M_line_19 : decode b_M_line 19 = .ok (.invokevirtual 118, 3) := by decide +kernel
theorem d_M_line_22 : decode b_M_line 22 = .ok (.ireturn, 1) := by decide +kernel
theorem d_M_word_0 : decode b_M_word 0 = .ok (.iload_n 1, 1) := by decide +kernel
theorem d_M_word_1 : decode b_M_word 1 = .ok (.bipush 31, 2) := by decide +kernel
theorem d_M_word_3 : decode b_M_word 3 = .ok (.invokestatic 84, 3) := by decide +kernel
theorem d_M_word_6 : decode b_M_word 6 = .ok (.ifCond .eq 9, 3) := by decide +kernel
theorem d_M_word_9 : decode b_M_word 9 = .ok (.ldc2_w 152, 3) := by decide +kernel
theorem d_M_word_12 : decode b_M_word 12 = .ok (.goto 10, 3) := by decide +kernel
theorem d_M_word_15 : decode b_M_word 15 = .ok (.aload_n 0, 1) := by decide +kernel
theorem d_M_word_16 : decode b_M_word 16 = .ok (.getfield 62, 3) := by decide +kernel
theorem d_M_word_19 : decode b_M_word 19 = .ok (.iload_n 1, 1) := by decide +kernel
theorem d_M_word_20 : decode b_M_word 20 = .ok (.iaload, 1) := by decide +kernel
theorem d_M_word_21 : decode b_M_word 21 = .ok (.i2l, 1) := by decide +kernel
theorem d_M_word_22 : decode b_M_word 22 = .ok (.lreturn, 1) := by decide +kernel
theorem d_M_copy_0 : decode b_M_copy 0 = .ok (.iload_n 1, 1) := by decide +kernel
theorem d_M_copy_1 : decode b_M_copy 1 = .ok (.iconst 2, 1) := by decide +kernel
theorem d_M_copy_2 : decode b_M_copy 2 = .ok (.invokestatic 84, 3) := by decide +kernel
theorem d_M_copy_5 : decode b_M_copy 5 = .ok (.ifCond .ne 28, 3) := by decide +kernel
theorem d_M_copy_8 : decode b_M_copy 8 = .ok (.iload_n 2, 1) := by decide +kernel
theorem d_M_copy_9 : decode b_M_copy 9 = .ok (.bipush 31, 2) := by decide +kernel
theorem d_M_copy_11 : decode b_M_copy 11 = .ok (.invokestatic 84, 3) := by decide +kernel
theorem d_M_copy_14 : decode b_M_copy 14 = .ok (.ifCond .ne 19, 3) := by decide +kernel
theorem d_M_copy_17 : decode b_M_copy 17 = .ok (.aload_n 0, 1) := by decide +kernel
theorem d_M_copy_18 : decode b_M_copy 18 = .ok (.getfield 65, 3) := by decide +kernel
theorem d_M_copy_21 : decode b_M_copy 21 = .ok (.bipush 8, 2) := by decide +kernel
theorem d_M_copy_23 : decode b_M_copy 23 = .ok (.iload_n 1, 1) := by decide +kernel
theorem d_M_copy_24 : decode b_M_copy 24 = .ok (.imul, 1) := by decide +kernel
theorem d_M_copy_25 : decode b_M_copy 25 = .ok (.iload_n 2, 1) := by decide +kernel
theorem d_M_copy_26 : decode b_M_copy 26 = .ok (.iconst 4, 1) := by decide +kernel
theorem d_M_copy_27 : decode b_M_copy 27 = .ok (.idiv, 1) := by decide +kernel
theorem d_M_copy_28 : decode b_M_copy 28 = .ok (.iadd, 1) := by decide +kernel
theorem d_M_copy_29 : decode b_M_copy 29 = .ok (.iaload, 1) := by decide +kernel
theorem d_M_copy_30 : decode b_M_copy 30 = .ok (.ifCond .ne 7, 3) := by decide +kernel
theorem d_M_copy_33 : decode b_M_copy 33 = .ok (.ldc2_w 152, 3) := by decide +kernel
theorem d_M_copy_36 : decode b_M_copy 36 = .ok (.lreturn, 1) := by decide +kernel
theorem d_M_copy_37 : decode b_M_copy 37 = .ok (.aload_n 0, 1) := by decide +kernel
theorem d_M_copy_38 : decode b_M_copy 38 = .ok (.getfield 62, 3) := by decide +kernel
theorem d_M_copy_41 : decode b_M_copy 41 = .ok (.iload_n 2, 1) := by decide +kernel
theorem d_M_copy_42 : decode b_M_copy 42 = .ok (.iaload, 1) := by decide +kernel
theorem d_M_copy_43 : decode b_M_copy 43 = .ok (.i2l, 1) := by decide +kernel
theorem d_M_copy_44 : decode b_M_copy 44 = .ok (.lreturn, 1) := by decide +kernel
theorem d_M_right_0 : decode b_M_right 0 = .ok (.iload_n 1, 1) := by decide +kernel
theorem d_M_right_1 : decode b_M_right 1 = .ok (.iconst 2, 1) := by decide +kernel
theorem d_M_right_2 : decode b_M_right 2 = .ok (.invokestatic 84, 3) := by decide +kernel
theorem d_M_right_5 : decode b_M_right 5 = .ok (.ifCond .ne 12, 3) := by decide +kernel
theorem d_M_right_8 : decode b_M_right 8 = .ok (.iload_n 2, 1) := by decide +kernel
theorem d_M_right_9 : decode b_M_right 9 = .ok (.bipush 7, 2) := by decide +kernel
theorem d_M_right_11 : decode b_M_right 11 = .ok (.invokestatic 84, 3) := by decide +kernel
theorem d_M_right_14 : decode b_M_right 14 = .ok (.ifCond .eq 7, 3) := by decide +kernel
theorem d_M_right_17 : decode b_M_right 17 = .ok (.iconst (-1), 1) := by decide +kernel
theorem d_M_right_18 : decode b_M_right 18 = .ok (.goto 14, 3) := by decide +kernel
theorem d_M_right_21 : decode b_M_right 21 = .ok (.aload_n 0, 1) := by decide +kernel
theorem d_M_right_22 : decode b_M_right 22 = .ok (.getfield 65, 3) := by decide +kernel
theorem d_M_right_25 : decode b_M_right 25 = .ok (.bipush 8, 2) := by decide +kernel
theorem d_M_right_27 : decode b_M_right 27 = .ok (.iload_n 1, 1) := by decide +kernel
theorem d_M_right_28 : decode b_M_right 28 = .ok (.imul, 1) := by decide +kernel
theorem d_M_right_29 : decode b_M_right 29 = .ok (.iload_n 2, 1) := by decide +kernel
theorem d_M_right_30 : decode b_M_right 30 = .ok (.iadd, 1) := by decide +kernel
theorem d_M_right_31 : decode b_M_right 31 = .ok (.iaload, 1) := by decide +kernel
theorem d_M_right_32 : decode b_M_right 32 = .ok (.ireturn, 1) := by decide +kernel
theorem d_M_owner_0 : decode b_M_owner 0 = .ok (.iload_n 1, 1) := by decide +kernel
theorem d_M_owner_1 : decode b_M_owner 1 = .ok (.bipush 7, 2) := by decide +kernel
theorem d_M_owner_3 : decode b_M_owner 3 = .ok (.invokestatic 84, 3) := by decide +kernel
theorem d_M_owner_6 : decode b_M_owner 6 = .ok (.ifCond .eq 7, 3) := by decide +kernel
theorem d_M_owner_9 : decode b_M_owner 9 = .ok (.iconst (-1), 1) := by decide +kernel
theorem d_M_owner_10 : decode b_M_owner 10 = .ok (.goto 9, 3) := by decide +kernel
theorem d_M_owner_13 : decode b_M_owner 13 = .ok (.aload_n 0, 1) := by decide +kernel
theorem d_M_owner_14 : decode b_M_owner 14 = .ok (.getfield 71, 3) := by decide +kernel
theorem d_M_owner_17 : decode b_M_owner 17 = .ok (.iload_n 1, 1) := by decide +kernel
theorem d_M_owner_18 : decode b_M_owner 18 = .ok (.iaload, 1) := by decide +kernel
theorem d_M_owner_19 : decode b_M_owner 19 = .ok (.ireturn, 1) := by decide +kernel
theorem d_M_count_0 : decode b_M_count 0 = .ok (.iconst 0, 1) := by decide +kernel
theorem d_M_count_1 : decode b_M_count 1 = .ok (.istore_n 2, 1) := by decide +kernel
theorem d_M_count_2 : decode b_M_count 2 = .ok (.iconst 0, 1) := by decide +kernel
theorem d_M_count_3 : decode b_M_count 3 = .ok (.istore_n 3, 1) := by decide +kernel
theorem d_M_count_4 : decode b_M_count 4 = .ok (.iconst 0, 1) := by decide +kernel
theorem d_M_count_5 : decode b_M_count 5 = .ok (.istore 4, 2) := by decide +kernel
theorem d_M_count_7 : decode b_M_count 7 = .ok (.iload 4, 2) := by decide +kernel
theorem d_M_count_9 : decode b_M_count 9 = .ok (.aload_n 0, 1) := by decide +kernel
theorem d_M_count_10 : decode b_M_count 10 = .ok (.getfield 81, 3) := by decide +kernel
theorem d_M_count_13 : decode b_M_count 13 = .ok (.if_icmp .ge 36, 3) := by decide +kernel
theorem d_M_count_16 : decode b_M_count 16 = .ok (.aload_n 0, 1) := by decide +kernel
theorem d_M_count_17 : decode b_M_count 17 = .ok (.getfield 52, 3) := by decide +kernel
theorem d_M_count_20 : decode b_M_count 20 = .ok (.iload 4, 2) := by decide +kernel
theorem d_M_count_22 : decode b_M_count 22 = .ok (.iaload, 1) := by decide +kernel
theorem d_M_count_23 : decode b_M_count 23 = .ok (.ifCond .eq 6, 3) := by decide +kernel
theorem d_M_count_26 : decode b_M_count 26 = .ok (.iinc 2 1, 3) := by decide +kernel
theorem d_M_count_29 : decode b_M_count 29 = .ok (.aload_n 0, 1) := by decide +kernel
theorem d_M_count_30 : decode b_M_count 30 = .ok (.getfield 34, 3) := by decide +kernel
theorem d_M_count_33 : decode b_M_count 33 = .ok (.iload 4, 2) := by decide +kernel
theorem d_M_count_35 : decode b_M_count 35 = .ok (.iaload, 1) := by decide +kernel
theorem d_M_count_36 : decode b_M_count 36 = .ok (.iconst 1, 1) := by decide +kernel
theorem d_M_count_37 : decode b_M_count 37 = .ok (.if_icmp .ne 6, 3) := by decide +kernel
theorem d_M_count_40 : decode b_M_count 40 = .ok (.iinc 3 1, 3) := by decide +kernel
theorem d_M_count_43 : decode b_M_count 43 = .ok (.iinc 4 1, 3) := by decide +kernel
theorem d_M_count_46 : decode b_M_count 46 = .ok (.goto (-39), 3) := by decide +kernel
theorem d_M_count_49 : decode b_M_count 49 = .ok (.iload_n 1, 1) := by decide +kernel
theorem d_M_count_50 : decode b_M_count 50 = .ok (.tableswitch 71 0 6 #[42, 47, 52, 57, 62, 64, 66], 42) := by decide +kernel
theorem d_M_count_92 : decode b_M_count 92 = .ok (.aload_n 0, 1) := by decide +kernel
theorem d_M_count_93 : decode b_M_count 93 = .ok (.getfield 81, 3) := by decide +kernel
theorem d_M_count_96 : decode b_M_count 96 = .ok (.ireturn, 1) := by decide +kernel
theorem d_M_count_97 : decode b_M_count 97 = .ok (.aload_n 0, 1) := by decide +kernel
theorem d_M_count_98 : decode b_M_count 98 = .ok (.getfield 132, 3) := by decide +kernel
theorem d_M_count_101 : decode b_M_count 101 = .ok (.ireturn, 1) := by decide +kernel
theorem d_M_count_102 : decode b_M_count 102 = .ok (.aload_n 0, 1) := by decide +kernel
theorem d_M_count_103 : decode b_M_count 103 = .ok (.getfield 104, 3) := by decide +kernel
theorem d_M_count_106 : decode b_M_count 106 = .ok (.ireturn, 1) := by decide +kernel
theorem d_M_count_107 : decode b_M_count 107 = .ok (.aload_n 0, 1) := by decide +kernel
theorem d_M_count_108 : decode b_M_count 108 = .ok (.getfield 129, 3) := by decide +kernel
theorem d_M_count_111 : decode b_M_count 111 = .ok (.ireturn, 1) := by decide +kernel
theorem d_M_count_112 : decode b_M_count 112 = .ok (.iload_n 2, 1) := by decide +kernel
theorem d_M_count_113 : decode b_M_count 113 = .ok (.ireturn, 1) := by decide +kernel
theorem d_M_count_114 : decode b_M_count 114 = .ok (.iload_n 3, 1) := by decide +kernel
theorem d_M_count_115 : decode b_M_count 115 = .ok (.ireturn, 1) := by decide +kernel
theorem d_M_count_116 : decode b_M_count 116 = .ok (.aload_n 0, 1) := by decide +kernel
theorem d_M_count_117 : decode b_M_count 117 = .ok (.getfield 149, 3) := by decide +kernel
theorem d_M_count_120 : decode b_M_count 120 = .ok (.ireturn, 1) := by decide +kernel
theorem d_M_count_121 : decode b_M_count 121 = .ok (.iconst (-1), 1) := by decide +kernel
theorem d_M_count_122 : decode b_M_count 122 = .ok (.ireturn, 1) := by decide +kernel
end
section
theorem d_law_0 : decode code 0 = .ok (.new 7, 3) := by decide +kernel
theorem d_law_3 : decode code 3 = .ok (.dup, 1) := by decide +kernel
theorem d_law_4 : decode code 4 = .ok (.invokespecial 9, 3) := by decide +kernel
theorem d_law_7 : decode code 7 = .ok (.astore_n 1, 1) := by decide +kernel
theorem d_law_8 : decode code 8 = .ok (.new 10, 3) := by decide +kernel
theorem d_law_11 : decode code 11 = .ok (.dup, 1) := by decide +kernel
theorem d_law_12 : decode code 12 = .ok (.invokespecial 12, 3) := by decide +kernel
theorem d_law_15 : decode code 15 = .ok (.astore_n 2, 1) := by decide +kernel
theorem d_law_16 : decode code 16 = .ok (.iconst 0, 1) := by decide +kernel
theorem d_law_17 : decode code 17 = .ok (.istore_n 3, 1) := by decide +kernel
theorem d_law_18 : decode code 18 = .ok (.iload_n 3, 1) := by decide +kernel
theorem d_law_19 : decode code 19 = .ok (.aload_n 0, 1) := by decide +kernel
theorem d_law_20 : decode code 20 = .ok (.arraylength, 1) := by decide +kernel
theorem d_law_21 : decode code 21 = .ok (.iconst 5, 1) := by decide +kernel
theorem d_law_22 : decode code 22 = .ok (.isub, 1) := by decide +kernel
theorem d_law_23 : decode code 23 = .ok (.if_icmp .gt 519, 3) := by decide +kernel
theorem d_law_26 : decode code 26 = .ok (.aload_n 0, 1) := by decide +kernel
theorem d_law_27 : decode code 27 = .ok (.iload_n 3, 1) := by decide +kernel
theorem d_law_28 : decode code 28 = .ok (.iaload, 1) := by decide +kernel
theorem d_law_29 : decode code 29 = .ok (.bipush 15, 2) := by decide +kernel
theorem d_law_31 : decode code 31 = .ok (.iand, 1) := by decide +kernel
theorem d_law_32 : decode code 32 = .ok (.tableswitch 504 0 13 #[72, 125, 158, 181, 204, 237, 270, 303, 336, 369, 392, 425, 458, 481], 72) := by decide +kernel
theorem d_law_104 : decode code 104 = .ok (.aload_n 1, 1) := by decide +kernel
theorem d_law_105 : decode code 105 = .ok (.aload_n 0, 1) := by decide +kernel
theorem d_law_106 : decode code 106 = .ok (.iload_n 3, 1) := by decide +kernel
theorem d_law_107 : decode code 107 = .ok (.iconst 1, 1) := by decide +kernel
theorem d_law_108 : decode code 108 = .ok (.iadd, 1) := by decide +kernel
theorem d_law_109 : decode code 109 = .ok (.iaload, 1) := by decide +kernel
theorem d_law_110 : decode code 110 = .ok (.aload_n 0, 1) := by decide +kernel
theorem d_law_111 : decode code 111 = .ok (.iload_n 3, 1) := by decide +kernel
theorem d_law_112 : decode code 112 = .ok (.iconst 2, 1) := by decide +kernel
theorem d_law_113 : decode code 113 = .ok (.iadd, 1) := by decide +kernel
theorem d_law_114 : decode code 114 = .ok (.iaload, 1) := by decide +kernel
theorem d_law_115 : decode code 115 = .ok (.aload_n 0, 1) := by decide +kernel
theorem d_law_116 : decode code 116 = .ok (.iload_n 3, 1) := by decide +kernel
theorem d_law_117 : decode code 117 = .ok (.iconst 3, 1) := by decide +kernel
theorem d_law_118 : decode code 118 = .ok (.iadd, 1) := by decide +kernel
theorem d_law_119 : decode code 119 = .ok (.iaload, 1) := by decide +kernel
theorem d_law_120 : decode code 120 = .ok (.aload_n 0, 1) := by decide +kernel
theorem d_law_121 : decode code 121 = .ok (.iload_n 3, 1) := by decide +kernel
theorem d_law_122 : decode code 122 = .ok (.iconst 4, 1) := by decide +kernel
theorem d_law_123 : decode code 123 = .ok (.iadd, 1) := by decide +kernel
theorem d_law_124 : decode code 124 = .ok (.iaload, 1) := by decide +kernel
theorem d_law_125 : decode code 125 = .ok (.invokevirtual 13, 3) := by decide +kernel
theorem d_law_128 : decode code 128 = .ok (.aload_n 2, 1) := by decide +kernel
theorem d_law_129 : decode code 129 = .ok (.aload_n 0, 1) := by decide +kernel
theorem d_law_130 : decode code 130 = .ok (.iload_n 3, 1) := by decide +kernel
theorem d_law_131 : decode code 131 = .ok (.iconst 1, 1) := by decide +kernel
theorem d_law_132 : decode code 132 = .ok (.iadd, 1) := by decide +kernel
theorem d_law_133 : decode code 133 = .ok (.iaload, 1) := by decide +kernel
theorem d_law_134 : decode code 134 = .ok (.aload_n 0, 1) := by decide +kernel
theorem d_law_135 : decode code 135 = .ok (.iload_n 3, 1) := by decide +kernel
theorem d_law_136 : decode code 136 = .ok (.iconst 2, 1) := by decide +kernel
theorem d_law_137 : decode code 137 = .ok (.iadd, 1) := by decide +kernel
theorem d_law_138 : decode code 138 = .ok (.iaload, 1) := by decide +kernel
theorem d_law_139 : decode code 139 = .ok (.aload_n 0, 1) := by decide +kernel
theorem d_law_140 : decode code 140 = .ok (.iload_n 3, 1) := by decide +kernel
theorem d_law_141 : decode code 141 = .ok (.iconst 3, 1) := by decide +kernel
theorem d_law_142 : decode code 142 = .ok (.iadd, 1) := by decide +kernel
theorem d_law_143 : decode code 143 = .ok (.iaload, 1) := by decide +kernel
theorem d_law_144 : decode code 144 = .ok (.aload_n 0, 1) := by decide +kernel
theorem d_law_145 : decode code 145 = .ok (.iload_n 3, 1) := by decide +kernel
theorem d_law_146 : decode code 146 = .ok (.iconst 4, 1) := by decide +kernel
theorem d_law_147 : decode code 147 = .ok (.iadd, 1) := by decide +kernel
theorem d_law_148 : decode code 148 = .ok (.iaload, 1) := by decide +kernel
theorem d_law_149 : decode code 149 = .ok (.invokevirtual 17, 3) := by decide +kernel
theorem d_law_152 : decode code 152 = .ok (.if_icmp .eq 384, 3) := by decide +kernel
theorem d_law_155 : decode code 155 = .ok (.iconst 0, 1) := by decide +kernel
theorem d_law_156 : decode code 156 = .ok (.ireturn, 1) := by decide +kernel
theorem d_law_157 : decode code 157 = .ok (.aload_n 1, 1) := by decide +kernel
theorem d_law_158 : decode code 158 = .ok (.aload_n 0, 1) := by decide +kernel
theorem d_law_159 : decode code 159 = .ok (.iload_n 3, 1) := by decide +kernel
theorem d_law_160 : decode code 160 = .ok (.iconst 1, 1) := by decide +kernel
theorem d_law_161 : decode code 161 = .ok (.iadd, 1) := by decide +kernel
theorem d_law_162 : decode code 162 = .ok (.iaload, 1) := by decide +kernel
theorem d_law_163 : decode code 163 = .ok (.aload_n 0, 1) := by decide +kernel
theorem d_law_164 : decode code 164 = .ok (.iload_n 3, 1) := by decide +kernel
theorem d_law_165 : decode code 165 = .ok (.iconst 2, 1) := by decide +kernel
theorem d_law_166 : decode code 166 = .ok (.iadd, 1) := by decide +kernel
theorem d_law_167 : decode code 167 = .ok (.iaload, 1) := by decide +kernel
theorem d_law_168 : decode code 168 = .ok (.invokevirtual 18, 3) := by decide +kernel
theorem d_law_171 : decode code 171 = .ok (.pop, 1) := by decide +kernel
theorem d_law_172 : decode code 172 = .ok (.aload_n 2, 1) := by decide +kernel
theorem d_law_173 : decode code 173 = .ok (.aload_n 0, 1) := by decide +kernel
theorem d_law_174 : decode code 174 = .ok (.iload_n 3, 1) := by decide +kernel
theorem d_law_175 : decode code 175 = .ok (.iconst 1, 1) := by decide +kernel
theorem d_law_176 : decode code 176 = .ok (.iadd, 1) := by decide +kernel
theorem d_law_177 : decode code 177 = .ok (.iaload, 1) := by decide +kernel
theorem d_law_178 : decode code 178 = .ok (.aload_n 0, 1) := by decide +kernel
theorem d_law_179 : decode code 179 = .ok (.iload_n 3, 1) := by decide +kernel
theorem d_law_180 : decode code 180 = .ok (.iconst 2, 1) := by decide +kernel
theorem d_law_181 : decode code 181 = .ok (.iadd, 1) := by decide +kernel
theorem d_law_182 : decode code 182 = .ok (.iaload, 1) := by decide +kernel
theorem d_law_183 : decode code 183 = .ok (.invokevirtual 22, 3) := by decide +kernel
theorem d_law_186 : decode code 186 = .ok (.pop, 1) := by decide +kernel
theorem d_law_187 : decode code 187 = .ok (.goto 349, 3) := by decide +kernel
theorem d_law_190 : decode code 190 = .ok (.aload_n 1, 1) := by decide +kernel
theorem d_law_191 : decode code 191 = .ok (.aload_n 0, 1) := by decide +kernel
theorem d_law_192 : decode code 192 = .ok (.iload_n 3, 1) := by decide +kernel
theorem d_law_193 : decode code 193 = .ok (.iconst 1, 1) := by decide +kernel
theorem d_law_194 : decode code 194 = .ok (.iadd, 1) := by decide +kernel
theorem d_law_195 : decode code 195 = .ok (.iaload, 1) := by decide +kernel
theorem d_law_196 : decode code 196 = .ok (.invokevirtual 23, 3) := by decide +kernel
theorem d_law_199 : decode code 199 = .ok (.pop, 1) := by decide +kernel
theorem d_law_200 : decode code 200 = .ok (.aload_n 2, 1) := by decide +kernel
theorem d_law_201 : decode code 201 = .ok (.aload_n 0, 1) := by decide +kernel
theorem d_law_202 : decode code 202 = .ok (.iload_n 3, 1) := by decide +kernel
theorem d_law_203 : decode code 203 = .ok (.iconst 1, 1) := by decide +kernel
theorem d_law_204 : decode code 204 = .ok (.iadd, 1) := by decide +kernel
theorem d_law_205 : decode code 205 = .ok (.iaload, 1) := by decide +kernel
theorem d_law_206 : decode code 206 = .ok (.invokevirtual 27, 3) := by decide +kernel
theorem d_law_209 : decode code 209 = .ok (.pop, 1) := by decide +kernel
theorem d_law_210 : decode code 210 = .ok (.goto 326, 3) := by decide +kernel
theorem d_law_213 : decode code 213 = .ok (.aload_n 1, 1) := by decide +kernel
theorem d_law_214 : decode code 214 = .ok (.aload_n 0, 1) := by decide +kernel
theorem d_law_215 : decode code 215 = .ok (.iload_n 3, 1) := by decide +kernel
theorem d_law_216 : decode code 216 = .ok (.iconst 1, 1) := by decide +kernel
theorem d_law_217 : decode code 217 = .ok (.iadd, 1) := by decide +kernel
theorem d_law_218 : decode code 218 = .ok (.iaload, 1) := by decide +kernel
theorem d_law_219 : decode code 219 = .ok (.invokevirtual 28, 3) := by decide +kernel
theorem d_law_222 : decode code 222 = .ok (.pop, 1) := by decide +kernel
theorem d_law_223 : decode code 223 = .ok (.aload_n 2, 1) := by decide +kernel
theorem d_law_224 : decode code 224 = .ok (.aload_n 0, 1) := by decide +kernel
theorem d_law_225 : decode code 225 = .ok (.iload_n 3, 1) := by decide +kernel
theorem d_law_226 : decode code 226 = .ok (.iconst 1, 1) := by decide +kernel
theorem d_law_227 : decode code 227 = .ok (.iadd, 1) := by decide +kernel
theorem d_law_228 : decode code 228 = .ok (.iaload, 1) := by decide +kernel
theorem d_law_229 : decode code 229 = .ok (.invokevirtual 31, 3) := by decide +kernel
theorem d_law_232 : decode code 232 = .ok (.pop, 1) := by decide +kernel
theorem d_law_233 : decode code 233 = .ok (.goto 303, 3) := by decide +kernel
theorem d_law_236 : decode code 236 = .ok (.aload_n 1, 1) := by decide +kernel
theorem d_law_237 : decode code 237 = .ok (.aload_n 0, 1) := by decide +kernel
theorem d_law_238 : decode code 238 = .ok (.iload_n 3, 1) := by decide +kernel
theorem d_law_239 : decode code 239 = .ok (.iconst 1, 1) := by decide +kernel
theorem d_law_240 : decode code 240 = .ok (.iadd, 1) := by decide +kernel
theorem d_law_241 : decode code 241 = .ok (.iaload, 1) := by decide +kernel
theorem d_law_242 : decode code 242 = .ok (.aload_n 0, 1) := by decide +kernel
theorem d_law_243 : decode code 243 = .ok (.iload_n 3, 1) := by decide +kernel
theorem d_law_244 : decode code 244 = .ok (.iconst 2, 1) := by decide +kernel
theorem d_law_245 : decode code 245 = .ok (.iadd, 1) := by decide +kernel
theorem d_law_246 : decode code 246 = .ok (.iaload, 1) := by decide +kernel
theorem d_law_247 : decode code 247 = .ok (.invokevirtual 32, 3) := by decide +kernel
theorem d_law_250 : decode code 250 = .ok (.pop, 1) := by decide +kernel
theorem d_law_251 : decode code 251 = .ok (.aload_n 2, 1) := by decide +kernel
theorem d_law_252 : decode code 252 = .ok (.aload_n 0, 1) := by decide +kernel
theorem d_law_253 : decode code 253 = .ok (.iload_n 3, 1) := by decide +kernel
theorem d_law_254 : decode code 254 = .ok (.iconst 1, 1) := by decide +kernel
theorem d_law_255 : decode code 255 = .ok (.iadd, 1) := by decide +kernel
theorem d_law_256 : decode code 256 = .ok (.iaload, 1) := by decide +kernel
theorem d_law_257 : decode code 257 = .ok (.aload_n 0, 1) := by decide +kernel
theorem d_law_258 : decode code 258 = .ok (.iload_n 3, 1) := by decide +kernel
theorem d_law_259 : decode code 259 = .ok (.iconst 2, 1) := by decide +kernel
theorem d_law_260 : decode code 260 = .ok (.iadd, 1) := by decide +kernel
theorem d_law_261 : decode code 261 = .ok (.iaload, 1) := by decide +kernel
theorem d_law_262 : decode code 262 = .ok (.invokevirtual 35, 3) := by decide +kernel
theorem d_law_265 : decode code 265 = .ok (.pop, 1) := by decide +kernel
theorem d_law_266 : decode code 266 = .ok (.goto 270, 3) := by decide +kernel
theorem d_law_269 : decode code 269 = .ok (.aload_n 1, 1) := by decide +kernel
theorem d_law_270 : decode code 270 = .ok (.aload_n 0, 1) := by decide +kernel
theorem d_law_271 : decode code 271 = .ok (.iload_n 3, 1) := by decide +kernel
theorem d_law_272 : decode code 272 = .ok (.iconst 1, 1) := by decide +kernel
theorem d_law_273 : decode code 273 = .ok (.iadd, 1) := by decide +kernel
theorem d_law_274 : decode code 274 = .ok (.iaload, 1) := by decide +kernel
theorem d_law_275 : decode code 275 = .ok (.aload_n 0, 1) := by decide +kernel
theorem d_law_276 : decode code 276 = .ok (.iload_n 3, 1) := by decide +kernel
theorem d_law_277 : decode code 277 = .ok (.iconst 2, 1) := by decide +kernel
theorem d_law_278 : decode code 278 = .ok (.iadd, 1) := by decide +kernel
theorem d_law_279 : decode code 279 = .ok (.iaload, 1) := by decide +kernel
theorem d_law_280 : decode code 280 = .ok (.invokevirtual 36, 3) := by decide +kernel
theorem d_law_283 : decode code 283 = .ok (.pop, 1) := by decide +kernel
theorem d_law_284 : decode code 284 = .ok (.aload_n 2, 1) := by decide +kernel
theorem d_law_285 : decode code 285 = .ok (.aload_n 0, 1) := by decide +kernel
theorem d_law_286 : decode code 286 = .ok (.iload_n 3, 1) := by decide +kernel
theorem d_law_287 : decode code 287 = .ok (.iconst 1, 1) := by decide +kernel
theorem d_law_288 : decode code 288 = .ok (.iadd, 1) := by decide +kernel
theorem d_law_289 : decode code 289 = .ok (.iaload, 1) := by decide +kernel
theorem d_law_290 : decode code 290 = .ok (.aload_n 0, 1) := by decide +kernel
theorem d_law_291 : decode code 291 = .ok (.iload_n 3, 1) := by decide +kernel
theorem d_law_292 : decode code 292 = .ok (.iconst 2, 1) := by decide +kernel
theorem d_law_293 : decode code 293 = .ok (.iadd, 1) := by decide +kernel
theorem d_law_294 : decode code 294 = .ok (.iaload, 1) := by decide +kernel
theorem d_law_295 : decode code 295 = .ok (.invokevirtual 39, 3) := by decide +kernel
theorem d_law_298 : decode code 298 = .ok (.pop, 1) := by decide +kernel
theorem d_law_299 : decode code 299 = .ok (.goto 237, 3) := by decide +kernel
theorem d_law_302 : decode code 302 = .ok (.aload_n 1, 1) := by decide +kernel
theorem d_law_303 : decode code 303 = .ok (.aload_n 0, 1) := by decide +kernel
theorem d_law_304 : decode code 304 = .ok (.iload_n 3, 1) := by decide +kernel
theorem d_law_305 : decode code 305 = .ok (.iconst 1, 1) := by decide +kernel
theorem d_law_306 : decode code 306 = .ok (.iadd, 1) := by decide +kernel
theorem d_law_307 : decode code 307 = .ok (.iaload, 1) := by decide +kernel
theorem d_law_308 : decode code 308 = .ok (.aload_n 0, 1) := by decide +kernel
theorem d_law_309 : decode code 309 = .ok (.iload_n 3, 1) := by decide +kernel
theorem d_law_310 : decode code 310 = .ok (.iconst 2, 1) := by decide +kernel
theorem d_law_311 : decode code 311 = .ok (.iadd, 1) := by decide +kernel
theorem d_law_312 : decode code 312 = .ok (.iaload, 1) := by decide +kernel
theorem d_law_313 : decode code 313 = .ok (.invokevirtual 40, 3) := by decide +kernel
theorem d_law_316 : decode code 316 = .ok (.pop2, 1) := by decide +kernel
theorem d_law_317 : decode code 317 = .ok (.aload_n 2, 1) := by decide +kernel
theorem d_law_318 : decode code 318 = .ok (.aload_n 0, 1) := by decide +kernel
theorem d_law_319 : decode code 319 = .ok (.iload_n 3, 1) := by decide +kernel
theorem d_law_320 : decode code 320 = .ok (.iconst 1, 1) := by decide +kernel
theorem d_law_321 : decode code 321 = .ok (.iadd, 1) := by decide +kernel
theorem d_law_322 : decode code 322 = .ok (.iaload, 1) := by decide +kernel
theorem d_law_323 : decode code 323 = .ok (.aload_n 0, 1) := by decide +kernel
theorem d_law_324 : decode code 324 = .ok (.iload_n 3, 1) := by decide +kernel
theorem d_law_325 : decode code 325 = .ok (.iconst 2, 1) := by decide +kernel
theorem d_law_326 : decode code 326 = .ok (.iadd, 1) := by decide +kernel
theorem d_law_327 : decode code 327 = .ok (.iaload, 1) := by decide +kernel
theorem d_law_328 : decode code 328 = .ok (.invokevirtual 44, 3) := by decide +kernel
theorem d_law_331 : decode code 331 = .ok (.pop2, 1) := by decide +kernel
theorem d_law_332 : decode code 332 = .ok (.goto 204, 3) := by decide +kernel
theorem d_law_335 : decode code 335 = .ok (.aload_n 1, 1) := by decide +kernel
theorem d_law_336 : decode code 336 = .ok (.aload_n 0, 1) := by decide +kernel
theorem d_law_337 : decode code 337 = .ok (.iload_n 3, 1) := by decide +kernel
theorem d_law_338 : decode code 338 = .ok (.iconst 1, 1) := by decide +kernel
theorem d_law_339 : decode code 339 = .ok (.iadd, 1) := by decide +kernel
theorem d_law_340 : decode code 340 = .ok (.iaload, 1) := by decide +kernel
theorem d_law_341 : decode code 341 = .ok (.aload_n 0, 1) := by decide +kernel
theorem d_law_342 : decode code 342 = .ok (.iload_n 3, 1) := by decide +kernel
theorem d_law_343 : decode code 343 = .ok (.iconst 2, 1) := by decide +kernel
theorem d_law_344 : decode code 344 = .ok (.iadd, 1) := by decide +kernel
theorem d_law_345 : decode code 345 = .ok (.iaload, 1) := by decide +kernel
theorem d_law_346 : decode code 346 = .ok (.invokevirtual 45, 3) := by decide +kernel
theorem d_law_349 : decode code 349 = .ok (.pop2, 1) := by decide +kernel
theorem d_law_350 : decode code 350 = .ok (.aload_n 2, 1) := by decide +kernel
theorem d_law_351 : decode code 351 = .ok (.aload_n 0, 1) := by decide +kernel
theorem d_law_352 : decode code 352 = .ok (.iload_n 3, 1) := by decide +kernel
theorem d_law_353 : decode code 353 = .ok (.iconst 1, 1) := by decide +kernel
theorem d_law_354 : decode code 354 = .ok (.iadd, 1) := by decide +kernel
theorem d_law_355 : decode code 355 = .ok (.iaload, 1) := by decide +kernel
theorem d_law_356 : decode code 356 = .ok (.aload_n 0, 1) := by decide +kernel
theorem d_law_357 : decode code 357 = .ok (.iload_n 3, 1) := by decide +kernel
theorem d_law_358 : decode code 358 = .ok (.iconst 2, 1) := by decide +kernel
theorem d_law_359 : decode code 359 = .ok (.iadd, 1) := by decide +kernel
theorem d_law_360 : decode code 360 = .ok (.iaload, 1) := by decide +kernel
theorem d_law_361 : decode code 361 = .ok (.invokevirtual 48, 3) := by decide +kernel
theorem d_law_364 : decode code 364 = .ok (.pop2, 1) := by decide +kernel
theorem d_law_365 : decode code 365 = .ok (.goto 171, 3) := by decide +kernel
theorem d_law_368 : decode code 368 = .ok (.aload_n 1, 1) := by decide +kernel
theorem d_law_369 : decode code 369 = .ok (.aload_n 0, 1) := by decide +kernel
theorem d_law_370 : decode code 370 = .ok (.iload_n 3, 1) := by decide +kernel
theorem d_law_371 : decode code 371 = .ok (.iconst 1, 1) := by decide +kernel
theorem d_law_372 : decode code 372 = .ok (.iadd, 1) := by decide +kernel
theorem d_law_373 : decode code 373 = .ok (.iaload, 1) := by decide +kernel
theorem d_law_374 : decode code 374 = .ok (.aload_n 0, 1) := by decide +kernel
theorem d_law_375 : decode code 375 = .ok (.iload_n 3, 1) := by decide +kernel
theorem d_law_376 : decode code 376 = .ok (.iconst 2, 1) := by decide +kernel
theorem d_law_377 : decode code 377 = .ok (.iadd, 1) := by decide +kernel
theorem d_law_378 : decode code 378 = .ok (.iaload, 1) := by decide +kernel
theorem d_law_379 : decode code 379 = .ok (.invokevirtual 49, 3) := by decide +kernel
theorem d_law_382 : decode code 382 = .ok (.pop, 1) := by decide +kernel
theorem d_law_383 : decode code 383 = .ok (.aload_n 2, 1) := by decide +kernel
theorem d_law_384 : decode code 384 = .ok (.aload_n 0, 1) := by decide +kernel
theorem d_law_385 : decode code 385 = .ok (.iload_n 3, 1) := by decide +kernel
theorem d_law_386 : decode code 386 = .ok (.iconst 1, 1) := by decide +kernel
theorem d_law_387 : decode code 387 = .ok (.iadd, 1) := by decide +kernel
theorem d_law_388 : decode code 388 = .ok (.iaload, 1) := by decide +kernel
theorem d_law_389 : decode code 389 = .ok (.aload_n 0, 1) := by decide +kernel
theorem d_law_390 : decode code 390 = .ok (.iload_n 3, 1) := by decide +kernel
theorem d_law_391 : decode code 391 = .ok (.iconst 2, 1) := by decide +kernel
theorem d_law_392 : decode code 392 = .ok (.iadd, 1) := by decide +kernel
theorem d_law_393 : decode code 393 = .ok (.iaload, 1) := by decide +kernel
theorem d_law_394 : decode code 394 = .ok (.invokevirtual 52, 3) := by decide +kernel
theorem d_law_397 : decode code 397 = .ok (.pop, 1) := by decide +kernel
theorem d_law_398 : decode code 398 = .ok (.goto 138, 3) := by decide +kernel
theorem d_law_401 : decode code 401 = .ok (.aload_n 1, 1) := by decide +kernel
theorem d_law_402 : decode code 402 = .ok (.aload_n 0, 1) := by decide +kernel
theorem d_law_403 : decode code 403 = .ok (.iload_n 3, 1) := by decide +kernel
theorem d_law_404 : decode code 404 = .ok (.iconst 1, 1) := by decide +kernel
theorem d_law_405 : decode code 405 = .ok (.iadd, 1) := by decide +kernel
theorem d_law_406 : decode code 406 = .ok (.iaload, 1) := by decide +kernel
theorem d_law_407 : decode code 407 = .ok (.invokevirtual 53, 3) := by decide +kernel
theorem d_law_410 : decode code 410 = .ok (.pop2, 1) := by decide +kernel
theorem d_law_411 : decode code 411 = .ok (.aload_n 2, 1) := by decide +kernel
theorem d_law_412 : decode code 412 = .ok (.aload_n 0, 1) := by decide +kernel
theorem d_law_413 : decode code 413 = .ok (.iload_n 3, 1) := by decide +kernel
theorem d_law_414 : decode code 414 = .ok (.iconst 1, 1) := by decide +kernel
theorem d_law_415 : decode code 415 = .ok (.iadd, 1) := by decide +kernel
theorem d_law_416 : decode code 416 = .ok (.iaload, 1) := by decide +kernel
theorem d_law_417 : decode code 417 = .ok (.invokevirtual 57, 3) := by decide +kernel
theorem d_law_420 : decode code 420 = .ok (.pop2, 1) := by decide +kernel
theorem d_law_421 : decode code 421 = .ok (.goto 115, 3) := by decide +kernel
theorem d_law_424 : decode code 424 = .ok (.aload_n 1, 1) := by decide +kernel
theorem d_law_425 : decode code 425 = .ok (.aload_n 0, 1) := by decide +kernel
theorem d_law_426 : decode code 426 = .ok (.iload_n 3, 1) := by decide +kernel
theorem d_law_427 : decode code 427 = .ok (.iconst 1, 1) := by decide +kernel
theorem d_law_428 : decode code 428 = .ok (.iadd, 1) := by decide +kernel
theorem d_law_429 : decode code 429 = .ok (.iaload, 1) := by decide +kernel
theorem d_law_430 : decode code 430 = .ok (.aload_n 0, 1) := by decide +kernel
theorem d_law_431 : decode code 431 = .ok (.iload_n 3, 1) := by decide +kernel
theorem d_law_432 : decode code 432 = .ok (.iconst 2, 1) := by decide +kernel
theorem d_law_433 : decode code 433 = .ok (.iadd, 1) := by decide +kernel
theorem d_law_434 : decode code 434 = .ok (.iaload, 1) := by decide +kernel
theorem d_law_435 : decode code 435 = .ok (.invokevirtual 58, 3) := by decide +kernel
theorem d_law_438 : decode code 438 = .ok (.pop2, 1) := by decide +kernel
theorem d_law_439 : decode code 439 = .ok (.aload_n 2, 1) := by decide +kernel
theorem d_law_440 : decode code 440 = .ok (.aload_n 0, 1) := by decide +kernel
theorem d_law_441 : decode code 441 = .ok (.iload_n 3, 1) := by decide +kernel
theorem d_law_442 : decode code 442 = .ok (.iconst 1, 1) := by decide +kernel
theorem d_law_443 : decode code 443 = .ok (.iadd, 1) := by decide +kernel
theorem d_law_444 : decode code 444 = .ok (.iaload, 1) := by decide +kernel
theorem d_law_445 : decode code 445 = .ok (.aload_n 0, 1) := by decide +kernel
theorem d_law_446 : decode code 446 = .ok (.iload_n 3, 1) := by decide +kernel
theorem d_law_447 : decode code 447 = .ok (.iconst 2, 1) := by decide +kernel
theorem d_law_448 : decode code 448 = .ok (.iadd, 1) := by decide +kernel
theorem d_law_449 : decode code 449 = .ok (.iaload, 1) := by decide +kernel
theorem d_law_450 : decode code 450 = .ok (.invokevirtual 61, 3) := by decide +kernel
theorem d_law_453 : decode code 453 = .ok (.pop2, 1) := by decide +kernel
theorem d_law_454 : decode code 454 = .ok (.goto 82, 3) := by decide +kernel
theorem d_law_457 : decode code 457 = .ok (.aload_n 1, 1) := by decide +kernel
theorem d_law_458 : decode code 458 = .ok (.aload_n 0, 1) := by decide +kernel
theorem d_law_459 : decode code 459 = .ok (.iload_n 3, 1) := by decide +kernel
theorem d_law_460 : decode code 460 = .ok (.iconst 1, 1) := by decide +kernel
theorem d_law_461 : decode code 461 = .ok (.iadd, 1) := by decide +kernel
theorem d_law_462 : decode code 462 = .ok (.iaload, 1) := by decide +kernel
theorem d_law_463 : decode code 463 = .ok (.aload_n 0, 1) := by decide +kernel
theorem d_law_464 : decode code 464 = .ok (.iload_n 3, 1) := by decide +kernel
theorem d_law_465 : decode code 465 = .ok (.iconst 2, 1) := by decide +kernel
theorem d_law_466 : decode code 466 = .ok (.iadd, 1) := by decide +kernel
theorem d_law_467 : decode code 467 = .ok (.iaload, 1) := by decide +kernel
theorem d_law_468 : decode code 468 = .ok (.invokevirtual 62, 3) := by decide +kernel
theorem d_law_471 : decode code 471 = .ok (.pop, 1) := by decide +kernel
theorem d_law_472 : decode code 472 = .ok (.aload_n 2, 1) := by decide +kernel
theorem d_law_473 : decode code 473 = .ok (.aload_n 0, 1) := by decide +kernel
theorem d_law_474 : decode code 474 = .ok (.iload_n 3, 1) := by decide +kernel
theorem d_law_475 : decode code 475 = .ok (.iconst 1, 1) := by decide +kernel
theorem d_law_476 : decode code 476 = .ok (.iadd, 1) := by decide +kernel
theorem d_law_477 : decode code 477 = .ok (.iaload, 1) := by decide +kernel
theorem d_law_478 : decode code 478 = .ok (.aload_n 0, 1) := by decide +kernel
theorem d_law_479 : decode code 479 = .ok (.iload_n 3, 1) := by decide +kernel
theorem d_law_480 : decode code 480 = .ok (.iconst 2, 1) := by decide +kernel
theorem d_law_481 : decode code 481 = .ok (.iadd, 1) := by decide +kernel
theorem d_law_482 : decode code 482 = .ok (.iaload, 1) := by decide +kernel
theorem d_law_483 : decode code 483 = .ok (.invokevirtual 65, 3) := by decide +kernel
theorem d_law_486 : decode code 486 = .ok (.pop, 1) := by decide +kernel
theorem d_law_487 : decode code 487 = .ok (.goto 49, 3) := by decide +kernel
theorem d_law_490 : decode code 490 = .ok (.aload_n 1, 1) := by decide +kernel
theorem d_law_491 : decode code 491 = .ok (.aload_n 0, 1) := by decide +kernel
theorem d_law_492 : decode code 492 = .ok (.iload_n 3, 1) := by decide +kernel
theorem d_law_493 : decode code 493 = .ok (.iconst 1, 1) := by decide +kernel
theorem d_law_494 : decode code 494 = .ok (.iadd, 1) := by decide +kernel
theorem d_law_495 : decode code 495 = .ok (.iaload, 1) := by decide +kernel
theorem d_law_496 : decode code 496 = .ok (.invokevirtual 66, 3) := by decide +kernel
theorem d_law_499 : decode code 499 = .ok (.pop, 1) := by decide +kernel
theorem d_law_500 : decode code 500 = .ok (.aload_n 2, 1) := by decide +kernel
theorem d_law_501 : decode code 501 = .ok (.aload_n 0, 1) := by decide +kernel
theorem d_law_502 : decode code 502 = .ok (.iload_n 3, 1) := by decide +kernel
theorem d_law_503 : decode code 503 = .ok (.iconst 1, 1) := by decide +kernel
theorem d_law_504 : decode code 504 = .ok (.iadd, 1) := by decide +kernel
theorem d_law_505 : decode code 505 = .ok (.iaload, 1) := by decide +kernel
theorem d_law_506 : decode code 506 = .ok (.invokevirtual 69, 3) := by decide +kernel
theorem d_law_509 : decode code 509 = .ok (.pop, 1) := by decide +kernel
theorem d_law_510 : decode code 510 = .ok (.goto 26, 3) := by decide +kernel
theorem d_law_513 : decode code 513 = .ok (.aload_n 1, 1) := by decide +kernel
theorem d_law_514 : decode code 514 = .ok (.aload_n 0, 1) := by decide +kernel
theorem d_law_515 : decode code 515 = .ok (.iload_n 3, 1) := by decide +kernel
theorem d_law_516 : decode code 516 = .ok (.iconst 1, 1) := by decide +kernel
theorem d_law_517 : decode code 517 = .ok (.iadd, 1) := by decide +kernel
theorem d_law_518 : decode code 518 = .ok (.iaload, 1) := by decide +kernel
theorem d_law_519 : decode code 519 = .ok (.invokevirtual 70, 3) := by decide +kernel
theorem d_law_522 : decode code 522 = .ok (.pop, 1) := by decide +kernel
theorem d_law_523 : decode code 523 = .ok (.aload_n 2, 1) := by decide +kernel
theorem d_law_524 : decode code 524 = .ok (.aload_n 0, 1) := by decide +kernel
theorem d_law_525 : decode code 525 = .ok (.iload_n 3, 1) := by decide +kernel
theorem d_law_526 : decode code 526 = .ok (.iconst 1, 1) := by decide +kernel
theorem d_law_527 : decode code 527 = .ok (.iadd, 1) := by decide +kernel
theorem d_law_528 : decode code 528 = .ok (.iaload, 1) := by decide +kernel
theorem d_law_529 : decode code 529 = .ok (.invokevirtual 73, 3) := by decide +kernel
theorem d_law_532 : decode code 532 = .ok (.pop, 1) := by decide +kernel
theorem d_law_533 : decode code 533 = .ok (.goto 3, 3) := by decide +kernel
theorem d_law_536 : decode code 536 = .ok (.iinc 3 5, 3) := by decide +kernel
theorem d_law_539 : decode code 539 = .ok (.goto (-521), 3) := by decide +kernel
theorem d_law_542 : decode code 542 = .ok (.iconst 1, 1) := by decide +kernel
theorem d_law_543 : decode code 543 = .ok (.ireturn, 1) := by decide +kernel
end
section
/-! WORLDS BY NUMBER: a world of n cells; the k-th lies at the address ad k and holds ct k. -/
def wl (n : Nat) (ad : Nat → Nat) (ct : Nat → va_E) : va_W := (List.range n).map (fun k => (ad k, ct k))
theorem wl_len (n : Nat) (ad : Nat → Nat) (ct : Nat → va_E) : (wl n ad ct).length = n := by simp [wl]
theorem wl_get {n : Nat} {ad : Nat → Nat} {ct : Nat → va_E} {k : Nat} (h : k < n) : (wl n ad ct)[k]? = some (ad k, ct k) := by
  simp [wl, h]
theorem wl_out {n : Nat} {ad : Nat → Nat} {ct : Nat → va_E} {k : Nat} (h : n ≤ k) : (wl n ad ct)[k]? = none := by
  simp [wl, h]
theorem wl_some {n : Nat} {ad : Nat → Nat} {ct : Nat → va_E} {k : Nat} {q : Nat × va_E} (h : (wl n ad ct)[k]? = some q) : k < n ∧ q = (ad k, ct k) := by
  have hk : k < n := by
    rcases Nat.lt_or_ge k n with h1 | h1
    · exact h1
    · rw [wl_out h1] at h; cases h
  rw [wl_get hk] at h
  exact ⟨hk, (Option.some.inj h).symm⟩
theorem wl_congr {n : Nat} {ad ad' : Nat → Nat} {ct ct' : Nat → va_E} (ha : ∀ k, k < n → ad k = ad' k) (h : ∀ k, k < n → ct k = ct' k) : wl n ad ct = wl n ad' ct' := by
  apply List.ext_getElem?
  intro j
  by_cases hj : j < n
  · rw [wl_get hj, wl_get hj, ha j hj, h j hj]
  · rw [wl_out (by omega), wl_out (by omega)]
theorem wl_set {n : Nat} {ad : Nat → Nat} {ct : Nat → va_E} {k : Nat} {e : va_E} (h : k < n) : (wl n ad ct).set k (ad k, e) = wl n ad (va_up ct k e) := by
  apply List.ext_getElem?
  intro j
  by_cases hj : j = k
  · subst hj
    rw [List.getElem?_set_self (by rw [wl_len]; exact h), wl_get h, va_up_self]
  · rw [List.getElem?_set_ne (Ne.symm hj)]
    by_cases hn : j < n
    · rw [wl_get hn, wl_get hn, va_up_ne _ _ hj]
    · rw [wl_out (by omega), wl_out (by omega)]
theorem wl_push {n : Nat} {ad : Nat → Nat} {ct : Nat → va_E} {q : Nat} {e : va_E} : wl n ad ct ++ [(q, e)] = wl (n + 1) (va_up ad n q) (va_up ct n e) := by
  apply List.ext_getElem?
  intro j
  by_cases hn : j < n
  · rw [List.getElem?_append_left (by rw [wl_len]; exact hn), wl_get hn, wl_get (by omega), va_up_ne _ _ (by omega), va_up_ne _ _ (by omega)]
  · by_cases hj : j = n
    · subst hj
      rw [List.getElem?_append_right (by rw [wl_len]; exact Nat.le_refl _), wl_len, Nat.sub_self, wl_get (by omega), va_up_self, va_up_self]
      rfl
    · rw [wl_out (by omega), List.getElem?_eq_none (by rw [List.length_append, wl_len]; simp; omega)]
/-- the slots: cell, place -/
abbrev Vs : Type := Nat → Nat → Int32
def u2 (v : Vs) (k j : Nat) (x : Int32) : Vs := fun k' => if k' = k then upd (v k) j x else v k'
theorem u2_row {v : Vs} {k j : Nat} {x : Int32} : u2 v k j x k = upd (v k) j x := by simp [u2]
theorem u2_oth {v : Vs} {k j k' : Nat} {x : Int32} (h : k' ≠ k) : u2 v k j x k' = v k' := by simp [u2, h]
theorem u2_s {v : Vs} {k j : Nat} {x : Int32} : u2 v k j x k j = x := by simp [u2, upd]
theorem u2_n {v : Vs} {k j j' : Nat} {x : Int32} (h : j' ≠ j) : u2 v k j x k j' = v k j' := by simp [u2, upd, h]
theorem u2_a {v : Vs} {k j k' j' : Nat} {x : Int32} (h : k' ≠ k ∨ j' ≠ j) : u2 v k j x k' j' = v k' j' := by
  by_cases hk : k' = k
  · subst hk
    exact u2_n (by rcases h with h | h; exact absurd rfl h; exact h)
  · rw [u2_oth hk]
/-- a row of a cell set at once -/
def u1 (v : Vs) (k : Nat) (r : Nat → Int32) : Vs := fun k' => if k' = k then r else v k'
theorem u1_row {v : Vs} {k : Nat} {r : Nat → Int32} : u1 v k r k = r := by simp [u1]
theorem u1_oth {v : Vs} {k k' : Nat} {r : Nat → Int32} (h : k' ≠ k) : u1 v k r k' = v k' := by simp [u1, h]
/-- a world whose cell k is made of its number and its row -/
def mw (n : Nat) (ad : Nat → Nat) (mk : Nat → (Nat → Int32) → va_E) (v : Vs) : va_W := wl n ad (fun k => mk k (v k))
theorem mw_get {n : Nat} {ad : Nat → Nat} {mk : Nat → (Nat → Int32) → va_E} {v : Vs} {k : Nat} {e : va_E} (h : k < n) (he : mk k (v k) = e) : (mw n ad mk v)[k]? = some (ad k, e) := by
  rw [mw, wl_get h, he]
theorem mw_set {n : Nat} {ad : Nat → Nat} {mk : Nat → (Nat → Int32) → va_E} {v : Vs} {k j : Nat} {x : Int32} {e : va_E} (h : k < n) (he : mk k (upd (v k) j x) = e) : (mw n ad mk v).set k (ad k, e) = mw n ad mk (u2 v k j x) := by
  rw [mw, wl_set h, mw]
  apply wl_congr (fun _ _ => rfl)
  intro k' _
  by_cases hk : k' = k
  · subst hk
    rw [va_up_self, u2_row, he]
  · rw [va_up_ne _ _ hk, u2_oth hk]
end
section
/-! ROWS over numbered worlds -/
section MW
variable {p : Program} {l : Launch} {e : Env} {R : Room} {s : State} {m : MethodId} {args : Array Value} {below : List Frame} {meth : Method} {c : Code} {H : Heap} {locs : List Loc} {cells slots : Nat} {Q : State → Prop}
variable {cc : ByteArray} {pc : Nat} {ls : Array Slot} {rest : List Value} {D : va_G} {cl : List vw_C} {A : Nat → Prop} {tys : List (ClassId × FieldType)} {H0 : Heap} {n : Nat} {ad : Nat → Nat} {mk : Nat → (Nat → Int32) → va_E} {v : Vs}
/-- the tables, the cells, that they are apart, and what stays -/
def Wd (D : va_G) (cl : List vw_C) (tys : List (ClassId × FieldType)) (s : State) (A : Nat → Prop) (ws : va_W) (H : Heap) (locs : List Loc) : Prop := va_K D cl tys s ∧ va_P D cl ws H ∧ va_D A ws ∧ va_S A s.heap H locs
theorem wg (hx : p.tables.exec = Jvm.exec) (hb : c.code = cc) {own C : String} {T : u_T} {N ci index : Nat} {Ts : List Cond} (hts : ∀ w ∈ Ts, w.before args s = true) (hin : ∀ w ∈ u_ws C T N, w ∈ Ts) (hown : s.vm.findClass own = some m.cls) (hW : Wd D cl tys s A (mw n ad mk v) H locs) (k : Nat) (hk : k < n) {fs : List Value} (he : mk k (v k) = .inr (ci, fs)) (hc : cl[ci]? = some (C, T, N)) (j : Nat) (hj : j < N) (hlink : (Cond.fieldLink own index (T j).1 (T j).2.1 (T j).2.2.1).before args s = true) {x : Value} (hv : fs[j]? = some x) (hdg : decode cc pc = .ok (.getfield index, 3))
    (kk : W p l e R s m args below meth c H locs cells slots Q (F0 m (pc + 3) ls (x :: rest))) : W p l e R s m args below meth c H locs cells slots Q (F0 m pc ls (.ref (ad k) :: rest)) :=
  va_get hx hb hts hin hown hW.1 hW.2.1 k (mw_get hk he) hc j hj hlink (fun _ h => h) hv hdg kk
theorem wp (hx : p.tables.exec = Jvm.exec) (hb : c.code = cc) {own C : String} {T : u_T} {N ci index : Nat} {Ts : List Cond} (hts : ∀ w ∈ Ts, w.before args s = true) (hin : ∀ w ∈ u_ws C T N, w ∈ Ts) (ty0 : Nat → FieldType) (hty : ∀ k, k < N → parseFieldDescriptor (T k).2.2.1 = some (ty0 k)) (hnm : ∀ a, a < N → ∀ b, b < N → a ≠ b → (T a).2.1 ≠ (T b).2.1) (hown : s.vm.findClass own = some m.cls) (hW : Wd D cl tys s A (mw n ad mk v) H locs) (k : Nat) (hk : k < n) {fs : List Value} (he : mk k (v k) = .inr (ci, fs)) (hc : cl[ci]? = some (C, T, N)) (j : Nat) (hj : j < N) (hlink : (Cond.fieldLink own index (T j).1 (T j).2.1 (T j).2.2.1).before args s = true) (hfin : (T j).2.2.2 = false) (hd : parseFieldDescriptor (T j).2.2.1 = some .int) {x : Int32} (hl : j < fs.length) (hs : mk k (upd (v k) j x) = .inr (ci, fs.set j (.int x))) (hdg : decode cc pc = .ok (.putfield index, 3))
    (kk : ∀ (H1 : Heap) (locs1 : List Loc), Wd D cl tys s A (mw n ad mk (u2 v k j x)) H1 locs1 → W p l e R s m args below meth c H1 locs1 cells slots Q (F0 m (pc + 3) ls rest)) : W p l e R s m args below meth c H locs cells slots Q (F0 m pc ls (.int x :: .ref (ad k) :: rest)) := by
  refine va_put hx hb hts hin ty0 hty hnm hown hW.1 hW.2.1 hW.2.2.1 hW.2.2.2 k (mw_get hk he) hc j hj hlink (fun _ h => h) hfin hd rfl rfl hl hdg (fun H1 locs1 h1 h2 h3 => kk H1 locs1 ?_)
  rw [mw_set hk hs] at h1 h2
  exact ⟨hW.1, h1, h2, h3⟩
theorem wi (hx : p.tables.exec = Jvm.exec) (hb : c.code = cc) (hW : Wd D cl tys s A (mw n ad mk v) H locs) (k : Nat) (hk : k < n) {cA : ClassId} {N : Nat} {f : Nat → Int32} (he : mk k (v k) = .inl (cA, N, .inl f)) (t0 : Nat) (ht : tys[t0]? = some (cA, .int)) (i : Nat) {x : Int32} (hxi : x = nI i) (hi : i < N) (hN : N < 2 ^ 31) (hdg : decode cc pc = .ok (.iaload, 1))
    (kk : W p l e R s m args below meth c H locs cells slots Q (F0 m (pc + 1) ls (.int (f i) :: rest))) : W p l e R s m args below meth c H locs cells slots Q (F0 m pc ls (.int x :: .ref (ad k) :: rest)) := by
  subst hxi
  refine va_iald hx hb hW.1 hW.2.1 k t0 (mw_get hk he) ht (vp_in_nI hi hN) hdg ?_
  rw [nI_clamp (by omega)]
  exact kk
theorem wis (hx : p.tables.exec = Jvm.exec) (hb : c.code = cc) (hW : Wd D cl tys s A (mw n ad mk v) H locs) (k : Nat) (hk : k < n) {cA : ClassId} {N : Nat} {f : Nat → Int32} (he : mk k (v k) = .inl (cA, N, .inl f)) (t0 : Nat) (ht : tys[t0]? = some (cA, .int)) (i : Nat) {y : Int32} (hyi : y = nI i) (hi : i < N) (hN : N < 2 ^ 31) {x : Int32} (hs : mk k (upd (v k) i x) = .inl (cA, N, .inl (upd f i x))) (hdg : decode cc pc = .ok (.iastore, 1))
    (kk : ∀ (H1 : Heap) (locs1 : List Loc), Wd D cl tys s A (mw n ad mk (u2 v k i x)) H1 locs1 → W p l e R s m args below meth c H1 locs1 cells slots Q (F0 m (pc + 1) ls rest)) : W p l e R s m args below meth c H locs cells slots Q (F0 m pc ls (.int x :: .int y :: .ref (ad k) :: rest)) := by
  subst hyi
  refine va_iast hx hb hW.1 hW.2.1 hW.2.2.1 hW.2.2.2 k t0 (mw_get hk he) ht (vp_in_nI hi hN) hdg (fun H1 locs1 h1 h2 h3 => kk H1 locs1 ?_)
  rw [nI_clamp (by omega), mw_set hk hs] at h1 h2
  exact ⟨hW.1, h1, h2, h3⟩
theorem wa (hx : p.tables.exec = Jvm.exec) (hb : c.code = cc) (hW : Wd D cl tys s A (mw n ad mk v) H locs) (k : Nat) (hk : k < n) {cA : ClassId} {C : String} {N : Nat} {f : Nat → Option Nat} (he : mk k (v k) = .inl (cA, N, .inr (.inr (.inr (.inr f))))) (t0 : Nat) (ht : tys[t0]? = some (cA, .object C)) (i : Nat) {x : Int32} (hxi : x = nI i) (hi : i < N) (hN : N < 2 ^ 31) {a : Nat} (hf : f i = some a) (hdg : decode cc pc = .ok (.aaload, 1))
    (kk : W p l e R s m args below meth c H locs cells slots Q (F0 m (pc + 1) ls (.ref a :: rest))) : W p l e R s m args below meth c H locs cells slots Q (F0 m pc ls (.int x :: .ref (ad k) :: rest)) := by
  subst hxi
  refine va_aldq hx hb hW.1 hW.2.1 k t0 (mw_get hk he) ht (vp_in_nI hi hN) hdg ?_
  rw [nI_clamp (by omega), hf]
  exact kk
end MW
/-! CALLS: a contract over a whole world -/
def PcW (D : va_G) (cl : List vw_C) (tys : List (ClassId × FieldType)) (av : List Value) (sz : Nat) (w : va_W) : Array Value → State → Prop := va_Pc av (fun U => U.heap.size = sz ∧ va_P D cl w U.heap ∧ va_K D cl tys U ∧ va_D (fun _ => True) w)
def BtW {S : Type} (D : va_G) (cl : List vw_C) (tys : List (ClassId × FieldType)) (A : Nat → Prop) (w' : S → va_W) (u : S) (t : State) : Prop := va_P D cl (w' u) t.heap ∧ va_K D cl tys t ∧ va_D A (w' u)
def MtI {S : Type} (l : Launch) (y : MethodName) (ws : List Cond) (rm : Room) (D : va_G) (cl : List vw_C) (tys : List (ClassId × FieldType)) (av : List Value) (w : va_W) (post : Int32 → S → Prop) (w' : S → va_W) (mc ms : Nat) : Prop := ∀ sz : Nat, Met l y ws rm (PcW D cl tys av sz w) (va_Qi post (BtW D cl tys (va_A w sz) w') (va_A w sz)) mc ms (va_A w sz)
def MtL {S : Type} (l : Launch) (y : MethodName) (ws : List Cond) (rm : Room) (D : va_G) (cl : List vw_C) (tys : List (ClassId × FieldType)) (av : List Value) (w : va_W) (post : Int64 → S → Prop) (w' : S → va_W) (mc ms : Nat) : Prop := ∀ sz : Nat, Met l y ws rm (PcW D cl tys av sz w) (va_Ql post (BtW D cl tys (va_A w sz) w') (va_A w sz)) mc ms (va_A w sz)
def MtV {S : Type} (l : Launch) (y : MethodName) (ws : List Cond) (rm : Room) (D : va_G) (cl : List vw_C) (tys : List (ClassId × FieldType)) (av : List Value) (w : va_W) (post : S → Prop) (w' : S → va_W) (mc ms : Nat) : Prop := ∀ sz : Nat, Met l y ws rm (PcW D cl tys av sz w) (va_Qv post (BtW D cl tys (va_A w sz) w') (va_A w sz)) mc ms (va_A w sz)
section MC
variable {p : Program} {l : Launch} {e : Env} {R : Room} {s : State} {m : MethodId} {args : Array Value} {below : List Frame} {meth : Method} {c : Code} {H : Heap} {locs : List Loc} {cells slots : Nat} {Q : State → Prop}
variable {pc : Nat} {ls : Array Slot} {rest st0 : List Value} {a : Array Value} {D : va_G} {cl : List vw_C} {A : Nat → Prop} {tys : List (ClassId × FieldType)} {mc ms : Nat} {w : va_W}
theorem Wd.free (hW : Wd D cl tys s A w H locs) (hA : ∀ q, s.heap.size ≤ q → A q) : ∀ q, va_A w H.size q → A q := by
  intro q h
  rcases h with ⟨k, e, h⟩ | h
  · exact hW.2.2.1.2 k (q, e) h
  · exact hA q (Nat.le_trans hW.2.2.2.1 h)
theorem preW {b : Nat} {As : List Value} {C : String} (hW : Wd D cl tys s A w H locs) {q0 ci : Nat} {r : vw_C} {fs : List Value} (hc : cl[ci]? = some r) (hC : r.1 = C) (he : w[q0]? = some (b, .inr (ci, fs))) : PreV s H C b (PcW D cl tys (.ref b :: As) H.size w) As := by
  subst hC
  refine ⟨fun a U g mk q => ?_, va_recv hW.1 hW.2.1 hc he, fun U hU hw => ⟨rfl, by rw [hU], by rw [hU]; exact hW.2.1, va_K.moved hw.alike hW.1, hW.2.2.1.weaken (fun _ _ _ _ => trivial)⟩⟩
  obtain ⟨q0, q1, qP, qK, qD⟩ := q
  exact ⟨q0, q1, qP, va_K.moved (u := U) (U := U.calling g mk a) (Vm.Alike.refl U.vm) qK, qD⟩
theorem preWS {As : List Value} (hW : Wd D cl tys s A w H locs) : PreS s H (PcW D cl tys As H.size w) As := by
  refine ⟨fun a U g mk q => ?_, fun U hU hw => ⟨rfl, by rw [hU], by rw [hU]; exact hW.2.1, va_K.moved hw.alike hW.1, hW.2.2.1.weaken (fun _ _ _ _ => trivial)⟩⟩
  obtain ⟨q0, q1, qP, qK, qD⟩ := q
  exact ⟨q0, q1, qP, va_K.moved (u := U) (U := U.calling g mk a) (Vm.Alike.refl U.vm) qK, qD⟩
theorem wci {S : Type} {post : Int32 → S → Prop} {w' : S → va_W} (hW : Wd D cl tys s A w H locs) (hA : ∀ q, s.heap.size ≤ q → A q) (hr : va_Run p l e R s m args below meth c H locs cells slots mc ms (F0 m pc ls st0) rest (va_Qi post (BtW D cl tys (va_A w H.size) w') (va_A w H.size) a) (va_A w H.size))
    (kk : ∀ (r : Int32) (u : S) (H1 : Heap) (locs1 : List Loc), post r u → Wd D cl tys s A (w' u) H1 locs1 → W p l e R s m args below meth c H1 locs1 (cells + mc) (slots + ms) Q (F0 m (pc + 3) ls (.int r :: rest))) : W p l e R s m args below meth c H locs cells slots Q (F0 m pc ls st0) := by
  have hF := hW.free hA
  refine va_calli hr hW.2.2.2 (fun q _ h => hF q h) hF (fun r u t H1 locs1 ht hvm hp hB hz hk hS => kk r u H1 locs1 hp ⟨hW.1, ?_, hB.2.2.weaken (fun _ q _ h => hF q.1 h), hS⟩)
  rw [← ht]
  exact hB.1
theorem wcl {S : Type} {post : Int64 → S → Prop} {w' : S → va_W} (hW : Wd D cl tys s A w H locs) (hA : ∀ q, s.heap.size ≤ q → A q) (hr : va_Run p l e R s m args below meth c H locs cells slots mc ms (F0 m pc ls st0) rest (va_Ql post (BtW D cl tys (va_A w H.size) w') (va_A w H.size) a) (va_A w H.size))
    (kk : ∀ (r : Int64) (u : S) (H1 : Heap) (locs1 : List Loc), post r u → Wd D cl tys s A (w' u) H1 locs1 → W p l e R s m args below meth c H1 locs1 (cells + mc) (slots + ms) Q (F0 m (pc + 3) ls (.long r :: rest))) : W p l e R s m args below meth c H locs cells slots Q (F0 m pc ls st0) := by
  have hF := hW.free hA
  refine va_calll hr hW.2.2.2 (fun q _ h => hF q h) hF (fun r u t H1 locs1 ht hvm hp hB hz hk hS => kk r u H1 locs1 hp ⟨hW.1, ?_, hB.2.2.weaken (fun _ q _ h => hF q.1 h), hS⟩)
  rw [← ht]
  exact hB.1
theorem wcv {S : Type} {post : S → Prop} {w' : S → va_W} (hW : Wd D cl tys s A w H locs) (hA : ∀ q, s.heap.size ≤ q → A q) (hr : va_Run p l e R s m args below meth c H locs cells slots mc ms (F0 m pc ls st0) rest (va_Qv post (BtW D cl tys (va_A w H.size) w') (va_A w H.size) a) (va_A w H.size))
    (kk : ∀ (u : S) (H1 : Heap) (locs1 : List Loc), post u → Wd D cl tys s A (w' u) H1 locs1 → W p l e R s m args below meth c H1 locs1 (cells + mc) (slots + ms) Q (F0 m (pc + 3) ls rest)) : W p l e R s m args below meth c H locs cells slots Q (F0 m pc ls st0) := by
  have hF := hW.free hA
  refine va_callv hr hW.2.2.2 (fun q _ h => hF q h) hF (fun u t H1 locs1 ht hvm hp hB hz hk hS => kk u H1 locs1 hp ⟨hW.1, ?_, hB.2.2.weaken (fun _ q _ h => hF q.1 h), hS⟩)
  rw [← ht]
  exact hB.1
end MC
/-- a method's start: the world that it stands in -/
theorem Wd.start {D : va_G} {cl : List vw_C} {tys : List (ClassId × FieldType)} {s : State} {w : va_W} (hP : va_P D cl w s.heap) (hK : va_K D cl tys s) (hD : va_D (fun _ => True) w) : Wd D cl tys s (va_A w s.heap.size) w s.heap [] := ⟨hK, hP, hD.self, va_S.rf⟩
/-- as Met.ofW, of a method for which no native stands in -/
theorem met_ofF {l : Launch} {y : MethodName} {ws ws' : List Cond} {rm : Room} {Pc : Array Value → State → Prop} {Qc : Array Value → State → Outcome → State → Prop} {mc ms : Nat} {free : Addr → Prop} {cc : ByteArray} {maxL : Nat} {ret : Option FieldType}
    (hy : plainFor y = true) (hw : ws = Cond.code y cc maxL ret :: ws')
    (body : ∀ p e s m args below meth c s₁, BodyLoose p l y (headSpec ws rm) cc maxL ret e s m args below meth c s₁ → c.maxLocals = maxL → Pc args s →
      W p l e (headSpec ws rm).room s m args below meth c s.heap [] 0 0 (MQ below Qc args s mc ms free) (entryFrame m args maxL)) : Met l y ws rm Pc Qc mc ms free := by
  refine MetFree.of_bodySF (code := cc) (maxLocals := maxL) (ret := ret) hy ?_ ?_
  · intro args s m h hn
    obtain ⟨meth, c, h1, h2, h3, h4, h5, h6, -, -⟩ := Cond.code_spec hn (atoms_spec (ws := ws) h _ (by rw [hw]; exact List.mem_cons_self))
    exact ⟨meth, c, h1, h2, h3, h4, h5, h6⟩
  · intro p e s m args below meth c s₁ B hml hP _
    have hh0 : s₁.heap = s.heap := by rw [B.state]; rfl
    obtain ⟨t, a1, o, b1, b2, b3⟩ := body p e s m args below meth c s₁ B hml hP s₁ hh0 (Stand.of_body B)
    exact ⟨t, o, a1, b1, b2, ⟨b3.1, b3.2⟩⟩
/-- what a method's walk has at hand -/
def Cx (p : Program) (s : State) (m : MethodId) (args : Array Value) (meth : Method) (c : Code) (own : String) (cc : ByteArray) (maxL : Nat) (ret : Option FieldType) (ws : List Cond) : Prop :=
  p.tables.exec = Jvm.exec ∧ c.code = cc ∧ meth.sig.returnType = ret ∧ c.maxLocals = maxL ∧ s.vm.findClass own = some m.cls ∧ (∀ w ∈ ws, w.before args s = true) ∧ meth.locks = false
section MS
variable {S : Type} {l : Launch} {y : MethodName} {ws ws' : List Cond} {rm : Room} {D : va_G} {cl : List vw_C} {tys : List (ClassId × FieldType)} {av : List Value} {w : va_W} {w' : S → va_W} {mc ms : Nat} {cc : ByteArray} {maxL : Nat}
theorem mt_i {post : Int32 → S → Prop} {ty : FieldType} (hn : ∀ r u, post r u → narrow ty (.int r) = .int r) (hy : plainFor y = true) (hw : ws = Cond.code y cc maxL (some ty) :: ws') (hL : (lg_sl av).length ≤ maxL)
    (body : ∀ (p : Program) (e : Env) (s : State) (m : MethodId) (args : Array Value) (below : List Frame) (meth : Method) (c : Code) (Q : State → Prop) (A : Nat → Prop), Cx p s m args meth c y.cls cc maxL (some ty) ws → (∀ q, s.heap.size ≤ q → A q) → Wd D cl tys s A w s.heap [] →
      (∀ (r : Int32) (u : S) (H : Heap) (locs : List Loc) (cells slots pc : Nat) (ls : Array Slot), post r u → Wd D cl tys s A (w' u) H locs → cells ≤ mc → slots ≤ ms → decode cc pc = .ok (.ireturn, 1) → W p l e rm s m args below meth c H locs cells slots Q (F0 m pc ls [.int r])) →
      ∀ ls : Array Slot, lv_has ls maxL (lv_args 0 av) → W p l e rm s m args below meth c s.heap [] 0 0 Q (F0 m 0 ls [])) : MtI l y ws rm D cl tys av w post w' mc ms := by
  intro sz
  refine met_ofF (cc := cc) (maxL := maxL) (ret := some ty) hy hw ?_
  intro p e s m args below meth c s₁ B hml hv
  obtain ⟨rfl, hsz, hP, hK, hD0⟩ := hv
  subst hsz
  have hown : s.vm.findClass y.cls = some m.cls := findClass_of_methodNamed B.named
  have hl := lv_entry av (n := maxL) hL
  rw [lg_entry_eq]
  generalize (lg_sl av ++ List.replicate (maxL - (lg_sl av).length) Slot.unset).toArray = ls at hl ⊢
  refine body p e s m _ below meth c _ (va_A w s.heap.size) ⟨B.exec, B.bytes, B.returns, hml, hown, atoms_spec (ws := ws) B.pre, B.notSynchronized⟩ (fun q h => Or.inr h) (Wd.start hP hK hD0) ?_ ls hl
  intro r u H locs cells slots pc ls hp hW h1 h2 hdg
  refine W.widen (k := mc) (n := ms) h1 h2 ?_
  exact W.zret B.exec B.bytes B.returns (hn r u hp) (fun t ht hw => ⟨⟨r, u, rfl, hp, by rw [ht]; exact hW.2.1, va_K.moved hw.alike hW.1, hW.2.2.1⟩, hW.2.2.2.F ht⟩) hW.2.2.2.2.2 hdg B.notSynchronized
theorem mt_l {post : Int64 → S → Prop} (hy : plainFor y = true) (hw : ws = Cond.code y cc maxL (some .long) :: ws') (hL : (lg_sl av).length ≤ maxL)
    (body : ∀ (p : Program) (e : Env) (s : State) (m : MethodId) (args : Array Value) (below : List Frame) (meth : Method) (c : Code) (Q : State → Prop) (A : Nat → Prop), Cx p s m args meth c y.cls cc maxL (some .long) ws → (∀ q, s.heap.size ≤ q → A q) → Wd D cl tys s A w s.heap [] →
      (∀ (r : Int64) (u : S) (H : Heap) (locs : List Loc) (cells slots pc : Nat) (ls : Array Slot), post r u → Wd D cl tys s A (w' u) H locs → cells ≤ mc → slots ≤ ms → decode cc pc = .ok (.lreturn, 1) → W p l e rm s m args below meth c H locs cells slots Q (F0 m pc ls [.long r])) →
      ∀ ls : Array Slot, lv_has ls maxL (lv_args 0 av) → W p l e rm s m args below meth c s.heap [] 0 0 Q (F0 m 0 ls [])) : MtL l y ws rm D cl tys av w post w' mc ms := by
  intro sz
  refine met_ofF (cc := cc) (maxL := maxL) (ret := some .long) hy hw ?_
  intro p e s m args below meth c s₁ B hml hv
  obtain ⟨rfl, hsz, hP, hK, hD0⟩ := hv
  subst hsz
  have hown : s.vm.findClass y.cls = some m.cls := findClass_of_methodNamed B.named
  have hl := lv_entry av (n := maxL) hL
  rw [lg_entry_eq]
  generalize (lg_sl av ++ List.replicate (maxL - (lg_sl av).length) Slot.unset).toArray = ls at hl ⊢
  refine body p e s m _ below meth c _ (va_A w s.heap.size) ⟨B.exec, B.bytes, B.returns, hml, hown, atoms_spec (ws := ws) B.pre, B.notSynchronized⟩ (fun q h => Or.inr h) (Wd.start hP hK hD0) ?_ ls hl
  intro r u H locs cells slots pc ls hp hW h1 h2 hdg
  refine W.widen (k := mc) (n := ms) h1 h2 ?_
  exact W.lret B.exec B.bytes B.returns (fun t ht hw => ⟨⟨r, u, rfl, hp, by rw [ht]; exact hW.2.1, va_K.moved hw.alike hW.1, hW.2.2.1⟩, hW.2.2.2.F ht⟩) hW.2.2.2.2.2 hdg B.notSynchronized
theorem mt_v {post : S → Prop} (hy : plainFor y = true) (hw : ws = Cond.code y cc maxL none :: ws') (hL : (lg_sl av).length ≤ maxL)
    (body : ∀ (p : Program) (e : Env) (s : State) (m : MethodId) (args : Array Value) (below : List Frame) (meth : Method) (c : Code) (Q : State → Prop) (A : Nat → Prop), Cx p s m args meth c y.cls cc maxL none ws → (meth.name = y.name) → (∀ q, s.heap.size ≤ q → A q) → Wd D cl tys s A w s.heap [] →
      (∀ (u : S) (H : Heap) (locs : List Loc) (cells slots pc : Nat) (ls : Array Slot), post u → Wd D cl tys s A (w' u) H locs → cells ≤ mc → slots ≤ ms → decode cc pc = .ok (.return_, 1) → W p l e rm s m args below meth c H locs cells slots Q (F0 m pc ls [])) →
      ∀ ls : Array Slot, lv_has ls maxL (lv_args 0 av) → W p l e rm s m args below meth c s.heap [] 0 0 Q (F0 m 0 ls [])) : MtV l y ws rm D cl tys av w post w' mc ms := by
  intro sz
  refine met_ofF (cc := cc) (maxL := maxL) (ret := none) hy hw ?_
  intro p e s m args below meth c s₁ B hml hv
  obtain ⟨rfl, hsz, hP, hK, hD0⟩ := hv
  subst hsz
  have hown : s.vm.findClass y.cls = some m.cls := findClass_of_methodNamed B.named
  have hl := lv_entry av (n := maxL) hL
  rw [lg_entry_eq]
  generalize (lg_sl av ++ List.replicate (maxL - (lg_sl av).length) Slot.unset).toArray = ls at hl ⊢
  refine body p e s m _ below meth c _ (va_A w s.heap.size) ⟨B.exec, B.bytes, B.returns, hml, hown, atoms_spec (ws := ws) B.pre, B.notSynchronized⟩ (name_of_methodNamed B.named B.method).1 (fun q h => Or.inr h) (Wd.start hP hK hD0) ?_ ls hl
  intro u H locs cells slots pc ls hp hW h1 h2 hdg
  refine W.widen (k := mc) (n := ms) h1 h2 ?_
  exact W.vret B.exec B.bytes B.returns (fun t ht hw => ⟨⟨u, rfl, hp, by rw [ht]; exact hW.2.1, va_K.moved hw.alike hW.1, hW.2.2.1⟩, hW.2.2.2.F ht⟩) hW.2.2.2.2.2 hdg B.notSynchronized
end MS
/-! WORDS of a call: all methods have the words of bigw -/
theorem gb {y : MethodName} {b : ByteArray} {n : Nat} {r : Option FieldType} (h : Cond.code y b n r ∈ bigw) : GoodIn bigw (Cond.code y b n r :: bigw) := by
  have key : ∀ w, w ∈ bigw → w ∈ bigw ∧ ((w.onTables && w.keeps) = true ∨ ∃ ty, w = .arrayClass ty) := fun w hw => ⟨hw, good_of_word (List.mem_filter.mp hw).2⟩
  intro w hw
  rcases List.mem_cons.mp hw with rfl | hw
  · exact key _ h
  · exact key _ hw
section CW
variable {R : Room} {s : State} {args : Array Value} {own : String} {y : MethodName} {bytes : ByteArray} {maxL index mc ms : Nat} {ret : Option FieldType} {rm : Room}
theorem cv (n : Nat) (ht : ∀ w ∈ bigw, w.before args s = true) (kc : Cond.code y bytes maxL ret ∈ bigw) (ki : Cond.instanceMethod y ∈ bigw) (ke : Cond.selects y.cls y y ∈ bigw) (kn : Cond.initialized y.cls ∈ bigw) (km : Cond.methodLink own index y ∈ bigw) (hd : y.cls ≠ "java/lang/invoke/MethodHandle" ∧ y.cls ≠ "java/lang/invoke/VarHandle" ∧ (parseMethodDescriptor y.desc).map (fun d => d.parameters.length) = some n) (hrc : rm.cells = mc) (hrs : rm.slots = ms) (hR : rm.frames + 1 ≤ R.frames ∧ 8 + (maxL + 11) + rm.locals ≤ R.locals) : CallW R s args own y.cls index y bytes maxL ret (Cond.code y bytes maxL ret :: bigw) rm mc ms n :=
  ⟨callB_of n ht (gb kc) rfl hrc hrs (ht _ kn) (ht _ km) hd hR, ht _ ki, ht _ ke⟩
theorem cs (n : Nat) (ht : ∀ w ∈ bigw, w.before args s = true) (kc : Cond.code y bytes maxL ret ∈ bigw) (ks : Cond.static y ∈ bigw) (kn : Cond.initialized y.cls ∈ bigw) (km : Cond.methodLink own index y ∈ bigw) (hd : y.cls ≠ "java/lang/invoke/MethodHandle" ∧ y.cls ≠ "java/lang/invoke/VarHandle" ∧ (parseMethodDescriptor y.desc).map (fun d => d.parameters.length) = some n) (hrc : rm.cells = mc) (hrs : rm.slots = ms) (hR : rm.frames + 1 ≤ R.frames ∧ 8 + (maxL + 11) + rm.locals ≤ R.locals) : CallB R s args own index y bytes maxL ret (Cond.code y bytes maxL ret :: bigw) rm mc ms n ∧ (Cond.static y).before args s = true :=
  ⟨callB_of n ht (gb kc) rfl hrc hrs (ht _ kn) (ht _ km) hd hR, ht _ ks⟩
end CW
end
section
/-! THE CLASS'S STATE. Cells: 0 the object; 1 .. 4 its arrays of programs, processes, lines, pages; 5 the memory; a program i at 6 + 4 i (ops, as, bs behind it); a node's line n at 22 + 2 n (items behind it); a page j at 28 + 5 j (rights, last uses, the line of requests, its items behind it); a process i at 68 + 3 i (registers, hints behind it). g: the classes of the arrays (int, Program, Proc, Line, Page). np: how many processes are made. -/
def isLn (k : Nat) : Prop := (22 ≤ k ∧ k < 28 ∧ k % 2 = 0) ∨ (28 ≤ k ∧ k < 68 ∧ (k - 28) % 5 = 3)
def mkC (g : Nat → ClassId) (ad : Nat → Nat) (np : Nat) (k : Nat) (r : Nat → Int32) : va_E :=
  if k < 6 then
    (if k = 0 then .inr (ciC, [.ref (ad 1), .ref (ad 2), .ref (ad 3), .ref (ad 4), .ref (ad 5), .int (r 5), .int (r 6), .int (r 7), .int (r 8), .int (r 9), .int (r 10)])
    else if k = 1 then .inl (g 1, 4, .inr (.inr (.inr (.inr (fun i => if i < 4 then some (ad (6 + 4 * i)) else none)))))
    else if k = 2 then .inl (g 2, 8, .inr (.inr (.inr (.inr (fun i => if i < np then some (ad (68 + 3 * i)) else none)))))
    else if k = 3 then .inl (g 3, 3, .inr (.inr (.inr (.inr (fun i => if i < 3 then some (ad (22 + 2 * i)) else none)))))
    else if k = 4 then .inl (g 4, 8, .inr (.inr (.inr (.inr (fun i => if i < 8 then some (ad (28 + 5 * i)) else none)))))
    else .inl (g 0, 32, .inl r))
  else if k < 22 then
    (if (k - 6) % 4 = 0 then .inr (ciProgram, [.ref (ad (k + 1)), .ref (ad (k + 2)), .ref (ad (k + 3)), .int (r 3)]) else .inl (g 0, 12, .inl r))
  else if k < 28 then
    (if k % 2 = 0 then .inr (ciLine, [.ref (ad (k + 1)), .int (r 1)]) else .inl (g 0, 8, .inl r))
  else if k < 68 then
    (if (k - 28) % 5 = 0 then .inr (ciPage, [.ref (ad (k + 1)), .ref (ad (k + 2)), .ref (ad (k + 3)), .int (r 3)])
    else if (k - 28) % 5 = 3 then .inr (ciLine, [.ref (ad (k + 1)), .int (r 1)])
    else if (k - 28) % 5 = 4 then .inl (g 0, 8, .inl r)
    else .inl (g 0, 3, .inl r))
  else
    (if (k - 68) % 3 = 0 then .inr (ciProc, [.int (r 0), .int (r 1), .ref (ad (k + 1)), .ref (ad (k + 2)), .int (r 4), .int (r 5), .int (r 6), .int (r 7), .int (r 8), .int (r 9), .int (r 10), .int (r 11)])
    else if (k - 68) % 3 = 1 then .inl (g 0, 4, .inl r)
    else .inl (g 0, 3, .inl r))
section MK
variable {g : Nat → ClassId} {ad : Nat → Nat} {np : Nat} {r : Nat → Int32}
theorem mk_root : mkC g ad np 0 r = .inr (ciC, [.ref (ad 1), .ref (ad 2), .ref (ad 3), .ref (ad 4), .ref (ad 5), .int (r 5), .int (r 6), .int (r 7), .int (r 8), .int (r 9), .int (r 10)]) := rfl
theorem mk_programs : mkC g ad np 1 r = .inl (g 1, 4, .inr (.inr (.inr (.inr (fun i => if i < 4 then some (ad (6 + 4 * i)) else none))))) := rfl
theorem mk_processes : mkC g ad np 2 r = .inl (g 2, 8, .inr (.inr (.inr (.inr (fun i => if i < np then some (ad (68 + 3 * i)) else none))))) := rfl
theorem mk_lines : mkC g ad np 3 r = .inl (g 3, 3, .inr (.inr (.inr (.inr (fun i => if i < 3 then some (ad (22 + 2 * i)) else none))))) := rfl
theorem mk_pages : mkC g ad np 4 r = .inl (g 4, 8, .inr (.inr (.inr (.inr (fun i => if i < 8 then some (ad (28 + 5 * i)) else none))))) := rfl
theorem mk_memory : mkC g ad np 5 r = .inl (g 0, 32, .inl r) := rfl
theorem mk_program {i : Nat} (h : i < 4) : mkC g ad np (6 + 4 * i) r = .inr (ciProgram, [.ref (ad (6 + 4 * i + 1)), .ref (ad (6 + 4 * i + 2)), .ref (ad (6 + 4 * i + 3)), .int (r 3)]) := by
  unfold mkC
  rw [if_neg (by omega), if_pos (by omega), if_pos (by omega)]
theorem mk_ops {i j : Nat} (h : i < 4) (h1 : 1 ≤ j) (h2 : j < 4) : mkC g ad np (6 + 4 * i + j) r = .inl (g 0, 12, .inl r) := by
  unfold mkC
  rw [if_neg (by omega), if_pos (by omega), if_neg (by omega)]
theorem mk_line {k : Nat} (h : isLn k) : mkC g ad np k r = .inr (ciLine, [.ref (ad (k + 1)), .int (r 1)]) := by
  unfold mkC
  rcases h with ⟨h1, h2, h3⟩ | ⟨h1, h2, h3⟩
  · rw [if_neg (by omega), if_neg (by omega), if_pos (by omega), if_pos (by omega)]
  · rw [if_neg (by omega), if_neg (by omega), if_neg (by omega), if_pos (by omega), if_neg (by omega), if_pos (by omega)]
theorem mk_items {k : Nat} (h : isLn k) : mkC g ad np (k + 1) r = .inl (g 0, 8, .inl r) := by
  unfold mkC
  rcases h with ⟨h1, h2, h3⟩ | ⟨h1, h2, h3⟩
  · rw [if_neg (by omega), if_neg (by omega), if_pos (by omega), if_neg (by omega)]
  · rw [if_neg (by omega), if_neg (by omega), if_neg (by omega), if_pos (by omega), if_neg (by omega), if_neg (by omega), if_pos (by omega)]
theorem mk_page {j : Nat} (h : j < 8) : mkC g ad np (28 + 5 * j) r = .inr (ciPage, [.ref (ad (28 + 5 * j + 1)), .ref (ad (28 + 5 * j + 2)), .ref (ad (28 + 5 * j + 3)), .int (r 3)]) := by
  unfold mkC
  rw [if_neg (by omega), if_neg (by omega), if_neg (by omega), if_pos (by omega), if_pos (by omega)]
theorem mk_rights {j : Nat} (h : j < 8) : mkC g ad np (28 + 5 * j + 1) r = .inl (g 0, 3, .inl r) := by
  unfold mkC
  rw [if_neg (by omega), if_neg (by omega), if_neg (by omega), if_pos (by omega), if_neg (by omega), if_neg (by omega), if_neg (by omega)]
theorem mk_uses {j : Nat} (h : j < 8) : mkC g ad np (28 + 5 * j + 2) r = .inl (g 0, 3, .inl r) := by
  unfold mkC
  rw [if_neg (by omega), if_neg (by omega), if_neg (by omega), if_pos (by omega), if_neg (by omega), if_neg (by omega), if_neg (by omega)]
theorem mk_proc {i : Nat} : mkC g ad np (68 + 3 * i) r = .inr (ciProc, [.int (r 0), .int (r 1), .ref (ad (68 + 3 * i + 1)), .ref (ad (68 + 3 * i + 2)), .int (r 4), .int (r 5), .int (r 6), .int (r 7), .int (r 8), .int (r 9), .int (r 10), .int (r 11)]) := by
  unfold mkC
  rw [if_neg (by omega), if_neg (by omega), if_neg (by omega), if_neg (by omega), if_pos (by omega)]
theorem mk_regs {i : Nat} : mkC g ad np (68 + 3 * i + 1) r = .inl (g 0, 4, .inl r) := by
  unfold mkC
  rw [if_neg (by omega), if_neg (by omega), if_neg (by omega), if_neg (by omega), if_neg (by omega), if_pos (by omega)]
theorem mk_hints {i : Nat} : mkC g ad np (68 + 3 * i + 2) r = .inl (g 0, 3, .inl r) := by
  unfold mkC
  rw [if_neg (by omega), if_neg (by omega), if_neg (by omega), if_neg (by omega), if_neg (by omega), if_neg (by omega)]
end MK
theorem ln_node {n : Nat} (h : n < 3) : isLn (22 + 2 * n) := Or.inl ⟨by omega, by omega, by omega⟩
theorem ln_page {j : Nat} (h : j < 8) : isLn (28 + 5 * j + 3) := Or.inr ⟨by omega, by omega, by omega⟩
theorem ln_lt {k : Nat} (h : isLn k) : 22 ≤ k ∧ k + 1 < 68 := by
  rcases h with ⟨h1, h2, h3⟩ | ⟨h1, h2, h3⟩ <;> omega
end
section
/-! NUMBERS: an int with its number -/
theorem ni_add {x y : Int32} {a b : Nat} (hx : x = nI a) (hy : y = nI b) : x + y = nI (a + b) := by rw [hx, hy, nI_add]
theorem ni_mul {x y : Int32} {a b : Nat} (hx : x = nI a) (hy : y = nI b) : x * y = nI (a * b) := by rw [hx, hy, pk_mul]
theorem ni_div {x y : Int32} {a d : Nat} (hx : x = nI a) (hy : y = nI d) (ha : a < 2 ^ 31) (h0 : 0 < d) (hd : d < 2 ^ 31) : x / y = nI (a / d) := by rw [hx, hy, pk_div ha h0 hd]
theorem ni_eq {x y : Int32} {a b : Nat} (hx : x = nI a) (hy : y = nI b) (ha : a < 2 ^ 31) (hb : b < 2 ^ 31) (c : x = y) : a = b := (nI_eq ha hb).mp (by rw [← hx, ← hy]; exact c)
theorem ni_ne {x y : Int32} {a b : Nat} (hx : x = nI a) (hy : y = nI b) (_ : a < 2 ^ 31) (_ : b < 2 ^ 31) (c : ¬ x = y) : ¬ a = b := fun h => c (by rw [hx, hy, h])
theorem ni_lt {x y : Int32} {a b : Nat} (hx : x = nI a) (hy : y = nI b) (ha : a < 2 ^ 31) (hb : b < 2 ^ 31) (c : x < y) : a < b := (nI_ltI ha hb).mp (by rw [← hx, ← hy]; exact c)
theorem ni_nlt {x y : Int32} {a b : Nat} (hx : x = nI a) (hy : y = nI b) (ha : a < 2 ^ 31) (hb : b < 2 ^ 31) (c : ¬ x < y) : b ≤ a := Nat.not_lt.mp fun h => c (by rw [hx, hy]; exact (nI_ltI ha hb).mpr h)
theorem ni_le {x y : Int32} {a b : Nat} (hx : x = nI a) (hy : y = nI b) (ha : a < 2 ^ 31) (hb : b < 2 ^ 31) (c : x ≤ y) : a ≤ b := (nI_leI ha hb).mp (by rw [← hx, ← hy]; exact c)
theorem ni_nle {x y : Int32} {a b : Nat} (hx : x = nI a) (hy : y = nI b) (ha : a < 2 ^ 31) (hb : b < 2 ^ 31) (c : ¬ x ≤ y) : b < a := Nat.not_le.mp fun h => c (by rw [hx, hy]; exact (nI_leI ha hb).mpr h)
/-- the low bits -/
def bl (x : Int32) (m : Nat) : Nat := x.toBitVec.toNat % (m + 1)
theorem ni_and31 (x : Int32) : x &&& 31 = nI (bl x 31) := pk_and x 5 (by decide)
theorem ni_and15 (x : Int32) : x &&& 15 = nI (bl x 15) := pk_and x 4 (by decide)
theorem ni_and3 (x : Int32) : x &&& 3 = nI (bl x 3) := pk_and x 2 (by decide)
theorem bl_lt (x : Int32) (m : Nat) : bl x m < m + 1 := Nat.mod_lt _ (Nat.succ_pos m)
theorem bo_ne {r : Int32} {P : Prop} [Decidable P] (h : r = if P then 1 else 0) (c : ¬ r = 0) : P := by
  by_cases hp : P
  · exact hp
  · rw [if_neg hp] at h; exact absurd h c
theorem bo_eq {r : Int32} {P : Prop} [Decidable P] (h : r = if P then 1 else 0) (c : r = 0) : ¬ P := by
  intro hp
  rw [if_pos hp] at h
  rw [h] at c
  exact absurd c (by decide)
abbrev inI (x n : Int32) : Prop := ¬ x < 0 ∧ x < n
theorem inI_nat {x n : Int32} {N : Nat} (hn : n = nI N) (hN : N < 2 ^ 31) (h : inI x n) : ∃ i, i < N ∧ x = nI i := by
  obtain ⟨j, hj, e⟩ := nI_of h.1
  refine ⟨j, ?_, e⟩
  have h2 := h.2
  rw [e, hn] at h2
  exact (nI_ltI hj hN).mp h2
theorem inI_of {i N : Nat} (h : i < N) (hN : N < 2 ^ 31) : inI (nI i) (nI N) := ⟨nI_pos (by omega), (nI_ltI (by omega) hN).mpr h⟩
/-- a slot's number -/
def nv (v : Vs) (k j : Nat) : Nat := (v k j).toNatClampNeg
theorem nv_of {v : Vs} {k j n : Nat} (h : v k j = nI n) (hn : n < 2 ^ 31) : nv v k j = n := by rw [nv, h, nI_clamp hn]
theorem nv_self {v : Vs} {k j n : Nat} (h : v k j = nI n) (hn : n < 2 ^ 31) : v k j = nI (nv v k j) := by rw [nv_of h hn]; exact h
theorem sw_6 (x : Int32) : (x.toInt < 0 ∨ 5 < x.toInt) ∨ x = 0 ∨ x = 1 ∨ x = 2 ∨ x = 3 ∨ x = 4 ∨ x = 5 := by
  have key : ∀ (k : Int32), x.toInt = k.toInt → x = k := fun k h => Int32.toInt_inj.mp h
  rcases (show (x.toInt < 0 ∨ 5 < x.toInt) ∨ x.toInt = 0 ∨ x.toInt = 1 ∨ x.toInt = 2 ∨ x.toInt = 3 ∨ x.toInt = 4 ∨ x.toInt = 5 by omega) with h | h | h | h | h | h | h
  · exact Or.inl h
  · exact Or.inr (Or.inl (key 0 h))
  · exact Or.inr (Or.inr (Or.inl (key 1 h)))
  · exact Or.inr (Or.inr (Or.inr (Or.inl (key 2 h))))
  · exact Or.inr (Or.inr (Or.inr (Or.inr (Or.inl (key 3 h)))))
  · exact Or.inr (Or.inr (Or.inr (Or.inr (Or.inr (Or.inl (key 4 h))))))
  · exact Or.inr (Or.inr (Or.inr (Or.inr (Or.inr (Or.inr (key 5 h))))))
end
section
/-! WHAT KEEPS THE CLASS'S INDICES IN RANGE -/
abbrev tysA (g : Nat → ClassId) : List (ClassId × FieldType) := [(g 0, .int), (g 1, .object "ClusterImage$Program"), (g 2, .object "ClusterImage$Proc"), (g 3, .object "ClusterImage$Line"), (g 4, .object "ClusterImage$Page"), (g 5, .boolean)]
abbrev wC (g : Nat → ClassId) (ad : Nat → Nat) (np : Nat) (v : Vs) : va_W := mw (68 + 3 * np) ad (mkC g ad np) v
def okSz (np : Nat) (x : Int32) : Prop := ∃ n, n ≤ 8 ∧ x = nI n ∧ (0 < n → 0 < np)
def okIt (np : Nat) (x : Int32) : Prop := ∃ n, x = nI n ∧ (n < np ∨ n = 0)
def okLt (b : Nat) (x : Int32) : Prop := ∃ n, n < b ∧ x = nI n
/-- what a slot may hold: lines, processes, the number made -/
def okS (np k j : Nat) (x : Int32) : Prop :=
  (k = 0 → j = 5 → x = nI np) ∧ (isLn k → j = 1 → okSz np x) ∧ (isLn (k - 1) → 0 < k → okIt np x) ∧
  (68 ≤ k → (k - 68) % 3 = 0 → (j = 0 → x = nI ((k - 68) / 3)) ∧ (j = 1 → okLt 4 x) ∧ (j = 4 → okLt 3 x) ∧ (j = 6 → okLt 13 x)) ∧
  (68 ≤ k → (k - 68) % 3 = 2 → okLt 3 x)
/-- a program's instructions -/
def okP (v : Vs) (i : Nat) : Prop := okLt 13 (v (6 + 4 * i) 3) ∧ ∀ t, t < nv v (6 + 4 * i) 3 → okLt 13 (v (6 + 4 * i + 1) t) ∧ okLt 4 (v (6 + 4 * i + 2) t) ∧ (v (6 + 4 * i + 1) t ≠ 0 → v (6 + 4 * i + 1) t ≠ 5 → okLt 4 (v (6 + 4 * i + 3) t)) ∧ (v (6 + 4 * i + 1) t = 5 → okLt 12 (v (6 + 4 * i + 3) t))
def Ok (np : Nat) (v : Vs) : Prop := np ≤ 8 ∧ (∀ k j, k < 68 + 3 * np → okS np k j (v k j)) ∧ ∀ i, i < 4 → okP v i
theorem okLt_nv {v : Vs} {k j b : Nat} (h : okLt b (v k j)) (hb : b ≤ 100) : v k j = nI (nv v k j) ∧ nv v k j < b := by
  obtain ⟨n, hn, e⟩ := h
  have h1 := nv_of e (by omega)
  exact ⟨by rw [h1]; exact e, by omega⟩
section OKR
variable {np : Nat} {v : Vs}
theorem Ok.le (h : Ok np v) : np ≤ 8 := h.1
theorem Ok.made (h : Ok np v) : v 0 5 = nI np ∧ np ≤ 8 := ⟨(h.2.1 0 5 (by omega)).1 rfl rfl, h.1⟩
theorem Ok.size (h : Ok np v) {k : Nat} (hk : isLn k) : v k 1 = nI (nv v k 1) ∧ nv v k 1 ≤ 8 ∧ (0 < nv v k 1 → 0 < np) := by
  obtain ⟨n, hn, e, hp⟩ := (h.2.1 k 1 (by have := ln_lt hk; omega)).2.1 hk rfl
  have h1 := nv_of e (by omega)
  rw [h1]
  exact ⟨e, hn, hp⟩
theorem Ok.item (h : Ok np v) {k : Nat} (hk : isLn k) (j : Nat) (h0 : 0 < np) : v (k + 1) j = nI (nv v (k + 1) j) ∧ nv v (k + 1) j < np := by
  obtain ⟨n, e, hn⟩ := (h.2.1 (k + 1) j (by have := ln_lt hk; omega)).2.2.1 (by simpa using hk) (by omega)
  have := h.1
  have h1 := nv_of e (by omega)
  rw [h1]
  exact ⟨e, by omega⟩
theorem Ok.pr (h : Ok np v) {i : Nat} (hi : i < np) : v (68 + 3 * i) 0 = nI i ∧ okLt 4 (v (68 + 3 * i) 1) ∧ okLt 3 (v (68 + 3 * i) 4) ∧ okLt 13 (v (68 + 3 * i) 6) := by
  have q := fun j => (h.2.1 (68 + 3 * i) j (by omega)).2.2.2.1 (by omega) (by omega)
  refine ⟨?_, (q 1).2.1 rfl, (q 4).2.2.1 rfl, (q 6).2.2.2 rfl⟩
  have := (q 0).1 rfl
  rwa [show (68 + 3 * i - 68) / 3 = i by omega] at this
theorem Ok.number (h : Ok np v) {i : Nat} (hi : i < np) : v (68 + 3 * i) 0 = nI i ∧ i < np := ⟨(h.pr hi).1, hi⟩
theorem Ok.program (h : Ok np v) {i : Nat} (hi : i < np) : v (68 + 3 * i) 1 = nI (nv v (68 + 3 * i) 1) ∧ nv v (68 + 3 * i) 1 < 4 := okLt_nv (h.pr hi).2.1 (by omega)
theorem Ok.place (h : Ok np v) {i : Nat} (hi : i < np) : v (68 + 3 * i) 4 = nI (nv v (68 + 3 * i) 4) ∧ nv v (68 + 3 * i) 4 < 3 := okLt_nv (h.pr hi).2.2.1 (by omega)
theorem Ok.counter (h : Ok np v) {i : Nat} (hi : i < np) : v (68 + 3 * i) 6 = nI (nv v (68 + 3 * i) 6) ∧ nv v (68 + 3 * i) 6 < 13 := okLt_nv (h.pr hi).2.2.2 (by omega)
theorem Ok.hint (h : Ok np v) {i : Nat} (hi : i < np) (j : Nat) : v (68 + 3 * i + 2) j = nI (nv v (68 + 3 * i + 2) j) ∧ nv v (68 + 3 * i + 2) j < 3 := okLt_nv ((h.2.1 (68 + 3 * i + 2) j (by omega)).2.2.2.2 (by omega) (by omega)) (by omega)
theorem Ok.psize (h : Ok np v) {i : Nat} (hi : i < 4) : v (6 + 4 * i) 3 = nI (nv v (6 + 4 * i) 3) ∧ nv v (6 + 4 * i) 3 < 13 := okLt_nv (h.2.2 i hi).1 (by omega)
/-- a store outside the programs -/
theorem Ok.set (h : Ok np v) {k j : Nat} {x : Int32} (hk : k < 6 ∨ 22 ≤ k) (hx : okS np k j x) : Ok np (u2 v k j x) := by
  refine ⟨h.1, fun k' j' hk' => ?_, fun i hi => ?_⟩
  · by_cases he : k' = k ∧ j' = j
    · rw [he.1, he.2, u2_s]; exact hx
    · rw [u2_a (by omega)]; exact h.2.1 k' j' hk'
  · have e : ∀ o, o < 4 → u2 v k j x (6 + 4 * i + o) = v (6 + 4 * i + o) := fun o ho => u2_oth (by omega)
    have e0 : u2 v k j x (6 + 4 * i) = v (6 + 4 * i) := u2_oth (by omega)
    have := h.2.2 i hi
    unfold okP nv at this ⊢
    rw [e0, e 1 (by omega), e 2 (by omega), e 3 (by omega)]
    exact this
/-- a slot of which nothing is asked -/
theorem okS_free {k j : Nat} {x : Int32} (h : (k = 0 ∧ j ≠ 5) ∨ (1 ≤ k ∧ k < 22) ∨ (28 ≤ k ∧ k < 68 ∧ (k - 28) % 5 < 3) ∨ (68 ≤ k ∧ (k - 68) % 3 = 0 ∧ j ≠ 0 ∧ j ≠ 1 ∧ j ≠ 4 ∧ j ≠ 6) ∨ (68 ≤ k ∧ (k - 68) % 3 = 1)) : okS np k j x := by
  unfold okS isLn
  refine ⟨?_, ?_, ?_, ?_, ?_⟩ <;> intros <;> (try refine ⟨?_, ?_, ?_, ?_⟩) <;> (try intros) <;> exfalso <;> omega
theorem okS_sz {k : Nat} {x : Int32} (hk : isLn k) (hx : okSz np x) : okS np k 1 x := by
  have := hk
  unfold okS
  unfold isLn at this ⊢
  refine ⟨?_, fun _ _ => hx, ?_, ?_, ?_⟩ <;> intros <;> (try refine ⟨?_, ?_, ?_, ?_⟩) <;> (try intros) <;> exfalso <;> omega
theorem okS_it {k j : Nat} {x : Int32} (hk : isLn k) (hx : okIt np x) : okS np (k + 1) j x := by
  have := hk
  unfold okS
  unfold isLn at this ⊢
  refine ⟨?_, ?_, fun _ _ => hx, ?_, ?_⟩ <;> intros <;> (try refine ⟨?_, ?_, ?_, ?_⟩) <;> (try intros) <;> exfalso <;> omega
theorem okS_place {i : Nat} {x : Int32} (hx : okLt 3 x) : okS np (68 + 3 * i) 4 x := by
  unfold okS isLn
  refine ⟨?_, ?_, ?_, fun _ _ => ⟨?_, ?_, fun _ => hx, ?_⟩, ?_⟩ <;> intros <;> exfalso <;> omega
theorem okS_counter {i : Nat} {x : Int32} (hx : okLt 13 x) : okS np (68 + 3 * i) 6 x := by
  unfold okS isLn
  refine ⟨?_, ?_, ?_, fun _ _ => ⟨?_, ?_, ?_, fun _ => hx⟩, ?_⟩ <;> intros <;> exfalso <;> omega
theorem okS_hint {i j : Nat} {x : Int32} (hx : okLt 3 x) : okS np (68 + 3 * i + 2) j x := by
  unfold okS isLn
  refine ⟨?_, ?_, ?_, ?_, fun _ _ => hx⟩ <;> intros <;> (try refine ⟨?_, ?_, ?_, ?_⟩) <;> (try intros) <;> exfalso <;> omega
end OKR
end
section
def nn (x : Int32) : Nat := x.toNatClampNeg
theorem inI_nn {x n : Int32} {N : Nat} (hn : n = nI N) (hN : N < 2 ^ 31) (h : inI x n) : x = nI (nn x) ∧ nn x < N := by
  obtain ⟨i, hi, e⟩ := inI_nat hn hN h
  have h1 : nn x = i := by rw [nn, e, nI_clamp (by omega)]
  rw [h1]
  exact ⟨e, hi⟩
theorem i_nlt {x y : Int32} (h : y ≤ x) : ¬ x < y := fun c => absurd (Int32.lt_iff_toInt_lt.mp c) (Int.not_lt.mpr (Int32.le_iff_toInt_le.mp h))
theorem i_lt {x y : Int32} (h : ¬ y ≤ x) : x < y := Int32.lt_iff_toInt_lt.mpr (Int.not_le.mp fun c => h (Int32.le_iff_toInt_le.mpr c))
theorem ite_iff {P Q : Prop} [Decidable P] [Decidable Q] (h : P ↔ Q) : (if P then (1 : Int32) else 0) = if Q then 1 else 0 := by
  by_cases hp : P
  · rw [if_pos hp, if_pos (h.mp hp)]
  · rw [if_neg hp, if_neg (fun q => hp (h.mpr q))]
theorem ite_t {P : Prop} [Decidable P] (h : P) : (1 : Int32) = if P then 1 else 0 := by rw [if_pos h]
theorem ite_f {P : Prop} [Decidable P] (h : ¬ P) : (0 : Int32) = if P then 1 else 0 := by rw [if_neg h]
/-! WHAT THE CLASS'S METHODS DO, as functions of the slots, step by step -/
def fmod (x y : Int32) : Int32 := if 0 ≤ x ^^^ y then x - x / y * y else if x - x / y * y = 0 then x - x / y * y else x - x / y * y + y
abbrev fitP (op b : Int32) : Prop := (op = 0 ∧ ¬ b < -1000 ∧ ¬ 1000 < b) ∨ (¬ op = 0 ∧ inI b (if op = 5 then 12 else 4))
def cApp (v : Vs) (k : Nat) (x : Int32) : Vs := if 8 ≤ v k 1 then v else
  let v1 := u2 v (k + 1) (nv v k 1) x
  u2 v1 k 1 (v1 k 1 + 1)
def cRemL (k : Nat) (x : Int32) : Nat → Nat → Nat → Vs → Vs
  | 0, _, kept, v => u2 v k 1 (nI kept)
  | r + 1, i, kept, v => if v (k + 1) i = x then cRemL k x r (i + 1) kept v else cRemL k x r (i + 1) (kept + 1) (u2 v (k + 1) kept (v (k + 1) i))
def cRem (v : Vs) (k : Nat) (x : Int32) : Vs := cRemL k x (nv v k 1) 0 0 v
def cJoin (v : Vs) (i : Nat) : Vs :=
  let v1 := u2 v (68 + 3 * i) 5 1
  let v2 := u2 v1 (68 + 3 * i) 7 0
  cApp v2 (22 + 2 * nv v2 (68 + 3 * i) 4) (v2 (68 + 3 * i) 0)
def cLeave (v : Vs) (i : Nat) (st : Int32) : Vs := u2 (cRem v (22 + 2 * nv v (68 + 3 * i) 4) (v (68 + 3 * i) 0)) (68 + 3 * i) 5 st
def cWk (i : Nat) : Nat → Nat → Vs → Vs
  | 0, _, v => v
  | r + 1, j, v => cWk i r (j + 1) (if v (68 + 3 * j) 5 = 3 then (if v (68 + 3 * j) 11 = v (68 + 3 * i) 0 then cJoin v j else v) else v)
def cEnd (np : Nat) (v : Vs) (i : Nat) (code : Int32) : Vs := cWk i np 0 (u2 (cLeave v i 4) (68 + 3 * i) 8 code)
/-! Ok, behind each of them -/
section OKF
variable {np : Nat} {v : Vs}
theorem okIt_of {i : Nat} (h : i < np) : okIt np (nI i) := ⟨i, rfl, Or.inl h⟩
theorem Ok.app (h : Ok np v) {k : Nat} {x : Int32} (hk : isLn k) (h0 : 0 < np) (hx : okIt np x) : Ok np (cApp v k x) := by
  unfold cApp
  by_cases c : 8 ≤ v k 1
  · rw [if_pos c]; exact h
  · rw [if_neg c]
    have hl := ln_lt hk
    obtain ⟨e, b, -⟩ := h.size hk
    have n : nv v k 1 < 8 := ni_nle (a := 8) rfl e (by omega) (by omega) c
    have h1 : Ok np (u2 v (k + 1) (nv v k 1) x) := h.set (by omega) (okS_it hk hx)
    refine h1.set (by omega) (okS_sz hk ⟨nv v k 1 + 1, by omega, ?_, fun _ => h0⟩)
    rw [u2_a (by omega), e]
    exact ni_add rfl rfl
theorem Ok.remL {k : Nat} {x : Int32} (hk : isLn k) (h0 : 0 < np) : ∀ (r i kept : Nat) (v : Vs), Ok np v → kept ≤ i → i + r ≤ 8 → Ok np (cRemL k x r i kept v) := by
  have hl := ln_lt hk
  intro r
  induction r with
  | zero => exact fun i kept v h h1 h2 => h.set (by omega) (okS_sz hk ⟨kept, by omega, rfl, fun _ => h0⟩)
  | succ r ih =>
    intro i kept v h h1 h2
    unfold cRemL
    by_cases c : v (k + 1) i = x
    · rw [if_pos c]; exact ih _ _ _ h (by omega) (by omega)
    · rw [if_neg c]
      obtain ⟨e, b⟩ := h.item hk i h0
      exact ih _ _ _ (h.set (by omega) (okS_it hk ⟨_, e, Or.inl b⟩)) (by omega) (by omega)
theorem Ok.rem (h : Ok np v) {k : Nat} {x : Int32} (hk : isLn k) (h0 : 0 < np) : Ok np (cRem v k x) := Ok.remL hk h0 _ _ _ _ h (Nat.le_refl _) (by have := (h.size hk).2.1; omega)
theorem Ok.fr (h : Ok np v) {i j : Nat} {x : Int32} (hj : j ≠ 0 ∧ j ≠ 1 ∧ j ≠ 4 ∧ j ≠ 6) : Ok np (u2 v (68 + 3 * i) j x) := h.set (by omega) (okS_free (by omega))
theorem Ok.join (h : Ok np v) {i : Nat} (hi : i < np) : Ok np (cJoin v i) := by
  have h2 : Ok np (u2 (u2 v (68 + 3 * i) 5 1) (68 + 3 * i) 7 0) := (h.fr (by omega)).fr (by omega)
  refine h2.app (ln_node (h2.place hi).2) (by omega) ?_
  rw [(h2.number hi).1]
  exact okIt_of hi
theorem Ok.leave (h : Ok np v) {i : Nat} {st : Int32} (hi : i < np) : Ok np (cLeave v i st) := (h.rem (ln_node (h.place hi).2) (by omega)).fr (by omega)
theorem Ok.wk {i : Nat} : ∀ (r j : Nat) (v : Vs), Ok np v → j + r ≤ np → Ok np (cWk i r j v) := by
  intro r
  induction r with
  | zero => exact fun j v h _ => h
  | succ r ih =>
    intro j v h hj
    refine ih _ _ ?_ (by omega)
    by_cases c : v (68 + 3 * j) 5 = 3
    · rw [if_pos c]
      by_cases c2 : v (68 + 3 * j) 11 = v (68 + 3 * i) 0
      · rw [if_pos c2]; exact h.join (by omega)
      · rw [if_neg c2]; exact h
    · rw [if_neg c]; exact h
theorem Ok.end (h : Ok np v) {i : Nat} {code : Int32} (hi : i < np) : Ok np (cEnd np v i code) := Ok.wk _ _ _ ((h.leave hi).fr (by omega)) (by omega)
end OKF
end
section
abbrev rm_Math_floorMod : Room := { frames := 0, cells := 0, slots := 0, locals := 0 }
set_option maxHeartbeats 4000000 in
set_option maxRecDepth 100000 in
theorem c_Math_floorMod (l : Launch) {D : va_G} {cl : List vw_C} {tys : List (ClassId × FieldType)} (w : va_W) (x : Int32) (y : Int32) (hy : ¬ y = 0) : MtI l y_Math_floorMod ws_Math_floorMod rm_Math_floorMod D cl tys [.int (x), .int (y)] (w) (fun (rr : Int32) (_ : Unit) => rr = fmod x y) (fun _ => w) 0 0 := by
  refine mt_i (ty := .int) (fun _ _ _ => rfl) (by decide +kernel) rfl (Nat.le_of_ble_eq_true rfl) (fun p e s m args below meth c Q A C hA hW hret ls hl => ?_)
  obtain ⟨hx, hb, hr, hml, hown, hts0, hlocks⟩ := C
  have hts : ∀ w ∈ bigw, w.before args s = true := fun w h => hts0 w (List.mem_cons_of_mem _ h)
  have hown : s.vm.findClass R_Math = some m.cls := hown
  have hl : lv_has ls 3 [(0, .int (x)), (1, .int (y))] := hl
  refine lv_iload_n hx hb d_Math_floorMod_0 rfl (lv_at hl 0 rfl) ?_
  refine lv_iload_n hx hb d_Math_floorMod_1 rfl (lv_at hl 1 rfl) ?_
  refine lv_irem hx hb d_Math_floorMod_2 hy ?_
  refine lv_istore_n (lv' := [(2, .int ((x) - (x) / (y) * (y))), (0, .int (x)), (1, .int (y))]) hx hb d_Math_floorMod_3 rfl hl (by decide) rfl (fun ls hl => ?_)
  refine lv_iload_n hx hb d_Math_floorMod_4 rfl (lv_at hl 1 rfl) ?_
  refine lv_iload_n hx hb d_Math_floorMod_5 rfl (lv_at hl 2 rfl) ?_
  refine lv_ixor hx hb d_Math_floorMod_6 ?_
  refine lv_if_ge (tgt := 18) hx hb d_Math_floorMod_7 (by decide) (fun c_7 => ?_) (fun c_7 => ?_)
  · refine lv_iload_n hx hb d_Math_floorMod_18 rfl (lv_at hl 0 rfl) ?_
    refine hret _ () _ _ _ _ _ _ ?_ hW (by decide) (by decide) d_Math_floorMod_19
    show (x) - (x) / (y) * (y) = fmod x y
    simp only [fmod, if_pos c_7]
  · refine lv_iload_n hx hb d_Math_floorMod_10 rfl (lv_at hl 0 rfl) ?_
    refine lv_if_eq (tgt := 18) hx hb d_Math_floorMod_11 (by decide) (fun c_11 => ?_) (fun c_11 => ?_)
    · refine lv_iload_n hx hb d_Math_floorMod_18 rfl (lv_at hl 0 rfl) ?_
      refine hret _ () _ _ _ _ _ _ ?_ hW (by decide) (by decide) d_Math_floorMod_19
      show (x) - (x) / (y) * (y) = fmod x y
      simp only [fmod, if_neg c_7, if_pos c_11]
    · refine lv_iload_n hx hb d_Math_floorMod_14 rfl (lv_at hl 0 rfl) ?_
      refine lv_iload_n hx hb d_Math_floorMod_15 rfl (lv_at hl 2 rfl) ?_
      refine lv_iadd hx hb d_Math_floorMod_16 ?_
      refine hret _ () _ _ _ _ _ _ ?_ hW (by decide) (by decide) d_Math_floorMod_17
      show ((x) - (x) / (y) * (y)) + (y) = fmod x y
      simp only [fmod, if_neg c_7, if_neg c_11]
abbrev rm_C_isIn : Room := { frames := 0, cells := 0, slots := 0, locals := 0 }
set_option maxHeartbeats 4000000 in
set_option maxRecDepth 100000 in
theorem c_C_isIn (l : Launch) {D : va_G} {cl : List vw_C} {tys : List (ClassId × FieldType)} (w : va_W) (x : Int32) (n : Int32) : MtI l y_C_isIn ws_C_isIn rm_C_isIn D cl tys [.int (x), .int (n)] (w) (fun (rr : Int32) (_ : Unit) => rr = if inI x n then 1 else 0) (fun _ => w) 0 0 := by
  refine mt_i (ty := .boolean) (fun r _ h => by rw [h]; split <;> rfl) (by decide +kernel) rfl (Nat.le_of_ble_eq_true rfl) (fun p e s m args below meth c Q A C hA hW hret ls hl => ?_)
  obtain ⟨hx, hb, hr, hml, hown, hts0, hlocks⟩ := C
  have hts : ∀ w ∈ bigw, w.before args s = true := fun w h => hts0 w (List.mem_cons_of_mem _ h)
  have hown : s.vm.findClass R_C = some m.cls := hown
  have hl : lv_has ls 2 [(0, .int (x)), (1, .int (n))] := hl
  refine lv_iload_n hx hb d_C_isIn_0 rfl (lv_at hl 0 rfl) ?_
  refine lv_if_lt (tgt := 13) hx hb d_C_isIn_1 (by decide) (fun c_1 => ?_) (fun c_1 => ?_)
  · refine lv_iconst (v := 0) hx hb d_C_isIn_13 (by decide) ?_
    refine hret _ () _ _ _ _ _ _ ?_ hW (by decide) (by decide) d_C_isIn_14
    show 0 = if inI x n then (1 : Int32) else 0
    exact ite_f (fun h => h.1 c_1)
  · refine lv_iload_n hx hb d_C_isIn_4 rfl (lv_at hl 0 rfl) ?_
    refine lv_iload_n hx hb d_C_isIn_5 rfl (lv_at hl 1 rfl) ?_
    refine lv_icmp_ge (tgt := 13) hx hb d_C_isIn_6 (by decide) (fun c_6 => ?_) (fun c_6 => ?_)
    · refine lv_iconst (v := 0) hx hb d_C_isIn_13 (by decide) ?_
      refine hret _ () _ _ _ _ _ _ ?_ hW (by decide) (by decide) d_C_isIn_14
      show 0 = if inI x n then (1 : Int32) else 0
      exact ite_f (fun h => i_nlt c_6 h.2)
    · refine lv_iconst (v := 1) hx hb d_C_isIn_9 (by decide) ?_
      refine lv_goto (tgt := 14) hx hb d_C_isIn_10 (by decide) ?_
      refine hret _ () _ _ _ _ _ _ ?_ hW (by decide) (by decide) d_C_isIn_14
      show 1 = if inI x n then (1 : Int32) else 0
      exact ite_t ⟨c_1, i_lt c_6⟩
abbrev rm_C_fitsOp : Room := { frames := 1, cells := 0, slots := 0, locals := 21 }
set_option maxHeartbeats 4000000 in
set_option maxRecDepth 100000 in
theorem c_C_fitsOp (l : Launch) {D : va_G} {cl : List vw_C} {tys : List (ClassId × FieldType)} (w : va_W) (op : Int32) (b : Int32) : MtI l y_C_fitsOp ws_C_fitsOp rm_C_fitsOp D cl tys [.int (op), .int (b)] (w) (fun (rr : Int32) (_ : Unit) => rr = if fitP op b then 1 else 0) (fun _ => w) 0 0 := by
  refine mt_i (ty := .boolean) (fun r _ h => by rw [h]; split <;> rfl) (by decide +kernel) rfl (Nat.le_of_ble_eq_true rfl) (fun p e s m args below meth c Q A C hA hW hret ls hl => ?_)
  obtain ⟨hx, hb, hr, hml, hown, hts0, hlocks⟩ := C
  have hts : ∀ w ∈ bigw, w.before args s = true := fun w h => hts0 w (List.mem_cons_of_mem _ h)
  have hown : s.vm.findClass R_C = some m.cls := hown
  have hl : lv_has ls 2 [(0, .int (op)), (1, .int (b))] := hl
  refine lv_iload_n hx hb d_C_fitsOp_0 rfl (lv_at hl 0 rfl) ?_
  refine lv_if_ne (tgt := 24) hx hb d_C_fitsOp_1 (by decide) (fun c_1 => ?_) (fun c_1 => ?_)
  · refine lv_iload_n hx hb d_C_fitsOp_24 rfl (lv_at hl 1 rfl) ?_
    refine lv_iload_n hx hb d_C_fitsOp_25 rfl (lv_at hl 0 rfl) ?_
    refine lv_iconst (v := 5) hx hb d_C_fitsOp_26 (by decide) ?_
    refine lv_icmp_ne (tgt := 35) hx hb d_C_fitsOp_27 (by decide) (fun c_27 => ?_) (fun c_27 => ?_)
    · refine lv_iconst (v := 4) hx hb d_C_fitsOp_35 (by decide) ?_
      refine wci hW hA (va_runS (As := [.int (b), .int (4)]) (rest := []) ⟨hx, hb, hml, hown, hts⟩ (c_C_isIn l _ (b) (4) _) (cs 2 hts kc_C_isIn ks_C_isIn kn_C km_C_40 kh_C_isIn rfl rfl ⟨by decide, by decide⟩) (preWS hW) rfl rfl hl.1 rfl (lv_room (Nat.le_of_ble_eq_true rfl)) d_C_fitsOp_36 ⟨by decide, by decide⟩) (fun rr1 uu1 H locs hp1 hW => ?_)
      have hW : Wd D cl tys s A (w) H locs := hW
      have hp1 : rr1 = if inI (b) (4) then 1 else 0 := hp1
      refine hret _ () _ _ _ _ _ _ ?_ hW (by decide) (by decide) d_C_fitsOp_39
      show rr1 = if fitP op b then (1 : Int32) else 0
      exact hp1.trans (ite_iff ⟨fun h => Or.inr ⟨c_1, by rw [if_neg c_27]; exact h⟩, fun h => h.elim (fun q => absurd q.1 c_1) (fun q => by have := q.2; rw [if_neg c_27] at this; exact this)⟩)
    · refine lv_bipush (v := 12) hx hb d_C_fitsOp_30 (by decide) ?_
      refine lv_goto (tgt := 36) hx hb d_C_fitsOp_32 (by decide) ?_
      refine wci hW hA (va_runS (As := [.int (b), .int (12)]) (rest := []) ⟨hx, hb, hml, hown, hts⟩ (c_C_isIn l _ (b) (12) _) (cs 2 hts kc_C_isIn ks_C_isIn kn_C km_C_40 kh_C_isIn rfl rfl ⟨by decide, by decide⟩) (preWS hW) rfl rfl hl.1 rfl (lv_room (Nat.le_of_ble_eq_true rfl)) d_C_fitsOp_36 ⟨by decide, by decide⟩) (fun rr2 uu2 H locs hp2 hW => ?_)
      have hW : Wd D cl tys s A (w) H locs := hW
      have hp2 : rr2 = if inI (b) (12) then 1 else 0 := hp2
      refine hret _ () _ _ _ _ _ _ ?_ hW (by decide) (by decide) d_C_fitsOp_39
      show rr2 = if fitP op b then (1 : Int32) else 0
      exact hp2.trans (ite_iff ⟨fun h => Or.inr ⟨c_1, by rw [if_pos c_27]; exact h⟩, fun h => h.elim (fun q => absurd q.1 c_1) (fun q => by have := q.2; rw [if_pos c_27] at this; exact this)⟩)
  · refine lv_iload_n hx hb d_C_fitsOp_4 rfl (lv_at hl 1 rfl) ?_
    refine lv_sipush (v := (-1000)) hx hb d_C_fitsOp_5 (by decide) ?_
    refine lv_icmp_lt (tgt := 22) hx hb d_C_fitsOp_8 (by decide) (fun c_8 => ?_) (fun c_8 => ?_)
    · refine lv_iconst (v := 0) hx hb d_C_fitsOp_22 (by decide) ?_
      refine hret _ () _ _ _ _ _ _ ?_ hW (by decide) (by decide) d_C_fitsOp_23
      show 0 = if fitP op b then (1 : Int32) else 0
      exact ite_f (fun h => h.elim (fun q => q.2.1 c_8) (fun q => q.1 c_1))
    · refine lv_iload_n hx hb d_C_fitsOp_11 rfl (lv_at hl 1 rfl) ?_
      refine lv_sipush (v := 1000) hx hb d_C_fitsOp_12 (by decide) ?_
      refine lv_icmp_gt (tgt := 22) hx hb d_C_fitsOp_15 (by decide) (fun c_15 => ?_) (fun c_15 => ?_)
      · refine lv_iconst (v := 0) hx hb d_C_fitsOp_22 (by decide) ?_
        refine hret _ () _ _ _ _ _ _ ?_ hW (by decide) (by decide) d_C_fitsOp_23
        show 0 = if fitP op b then (1 : Int32) else 0
        exact ite_f (fun h => h.elim (fun q => q.2.2 c_15) (fun q => q.1 c_1))
      · refine lv_iconst (v := 1) hx hb d_C_fitsOp_18 (by decide) ?_
        refine lv_goto (tgt := 23) hx hb d_C_fitsOp_19 (by decide) ?_
        refine hret _ () _ _ _ _ _ _ ?_ hW (by decide) (by decide) d_C_fitsOp_23
        show 1 = if fitP op b then (1 : Int32) else 0
        exact ite_t (Or.inl ⟨c_1, c_8, c_15⟩)
abbrev rm_C_touchesMemory : Room := { frames := 0, cells := 0, slots := 0, locals := 0 }
set_option maxHeartbeats 4000000 in
set_option maxRecDepth 100000 in
theorem c_C_touchesMemory (l : Launch) {D : va_G} {cl : List vw_C} {tys : List (ClassId × FieldType)} (w : va_W) (op : Int32) : MtI l y_C_touchesMemory ws_C_touchesMemory rm_C_touchesMemory D cl tys [.int (op)] (w) (fun (rr : Int32) (_ : Unit) => rr = if op = 2 ∨ op = 3 ∨ op = 4 then 1 else 0) (fun _ => w) 0 0 := by
  refine mt_i (ty := .boolean) (fun r _ h => by rw [h]; split <;> rfl) (by decide +kernel) rfl (Nat.le_of_ble_eq_true rfl) (fun p e s m args below meth c Q A C hA hW hret ls hl => ?_)
  obtain ⟨hx, hb, hr, hml, hown, hts0, hlocks⟩ := C
  have hts : ∀ w ∈ bigw, w.before args s = true := fun w h => hts0 w (List.mem_cons_of_mem _ h)
  have hown : s.vm.findClass R_C = some m.cls := hown
  have hl : lv_has ls 1 [(0, .int (op))] := hl
  refine lv_iload_n hx hb d_C_touchesMemory_0 rfl (lv_at hl 0 rfl) ?_
  refine lv_iconst (v := 2) hx hb d_C_touchesMemory_1 (by decide) ?_
  refine lv_icmp_eq (tgt := 15) hx hb d_C_touchesMemory_2 (by decide) (fun c_2 => ?_) (fun c_2 => ?_)
  · refine lv_iconst (v := 1) hx hb d_C_touchesMemory_15 (by decide) ?_
    refine lv_goto (tgt := 20) hx hb d_C_touchesMemory_16 (by decide) ?_
    refine hret _ () _ _ _ _ _ _ ?_ hW (by decide) (by decide) d_C_touchesMemory_20
    show 1 = if op = 2 ∨ op = 3 ∨ op = 4 then (1 : Int32) else 0
    exact ite_t (Or.inl c_2)
  · refine lv_iload_n hx hb d_C_touchesMemory_5 rfl (lv_at hl 0 rfl) ?_
    refine lv_iconst (v := 3) hx hb d_C_touchesMemory_6 (by decide) ?_
    refine lv_icmp_eq (tgt := 15) hx hb d_C_touchesMemory_7 (by decide) (fun c_7 => ?_) (fun c_7 => ?_)
    · refine lv_iconst (v := 1) hx hb d_C_touchesMemory_15 (by decide) ?_
      refine lv_goto (tgt := 20) hx hb d_C_touchesMemory_16 (by decide) ?_
      refine hret _ () _ _ _ _ _ _ ?_ hW (by decide) (by decide) d_C_touchesMemory_20
      show 1 = if op = 2 ∨ op = 3 ∨ op = 4 then (1 : Int32) else 0
      exact ite_t (Or.inr (Or.inl c_7))
    · refine lv_iload_n hx hb d_C_touchesMemory_10 rfl (lv_at hl 0 rfl) ?_
      refine lv_iconst (v := 4) hx hb d_C_touchesMemory_11 (by decide) ?_
      refine lv_icmp_ne (tgt := 19) hx hb d_C_touchesMemory_12 (by decide) (fun c_12 => ?_) (fun c_12 => ?_)
      · refine lv_iconst (v := 0) hx hb d_C_touchesMemory_19 (by decide) ?_
        refine hret _ () _ _ _ _ _ _ ?_ hW (by decide) (by decide) d_C_touchesMemory_20
        show 0 = if op = 2 ∨ op = 3 ∨ op = 4 then (1 : Int32) else 0
        exact ite_f (fun h => h.elim c_2 (fun h => h.elim c_7 c_12))
      · refine lv_iconst (v := 1) hx hb d_C_touchesMemory_15 (by decide) ?_
        refine lv_goto (tgt := 20) hx hb d_C_touchesMemory_16 (by decide) ?_
        refine hret _ () _ _ _ _ _ _ ?_ hW (by decide) (by decide) d_C_touchesMemory_20
        show 1 = if op = 2 ∨ op = 3 ∨ op = 4 then (1 : Int32) else 0
        exact ite_t (Or.inr (Or.inr c_12))
abbrev rm_C_addressOf : Room := { frames := 1, cells := 0, slots := 0, locals := 22 }
set_option maxHeartbeats 4000000 in
set_option maxRecDepth 100000 in
theorem c_C_addressOf (l : Launch) {D : va_G} {cl : List vw_C} {tys : List (ClassId × FieldType)} (w : va_W) (x : Int32) : MtI l y_C_addressOf ws_C_addressOf rm_C_addressOf D cl tys [.int (x)] (w) (fun (rr : Int32) (_ : Unit) => rr = fmod x 32) (fun _ => w) 0 0 := by
  refine mt_i (ty := .int) (fun _ _ _ => rfl) (by decide +kernel) rfl (Nat.le_of_ble_eq_true rfl) (fun p e s m args below meth c Q A C hA hW hret ls hl => ?_)
  obtain ⟨hx, hb, hr, hml, hown, hts0, hlocks⟩ := C
  have hts : ∀ w ∈ bigw, w.before args s = true := fun w h => hts0 w (List.mem_cons_of_mem _ h)
  have hown : s.vm.findClass R_C = some m.cls := hown
  have hl : lv_has ls 1 [(0, .int (x))] := hl
  refine lv_iload_n hx hb d_C_addressOf_0 rfl (lv_at hl 0 rfl) ?_
  refine lv_bipush (v := 32) hx hb d_C_addressOf_1 (by decide) ?_
  refine wci hW hA (va_runS (As := [.int (x), .int (32)]) (rest := []) ⟨hx, hb, hml, hown, hts⟩ (c_Math_floorMod l _ (x) (32) (by decide) _) (cs 2 hts kc_Math_floorMod ks_Math_floorMod kn_Math km_C_143 kh_Math_floorMod rfl rfl ⟨by decide, by decide⟩) (preWS hW) rfl rfl hl.1 rfl (lv_room (Nat.le_of_ble_eq_true rfl)) d_C_addressOf_3 ⟨by decide, by decide⟩) (fun rr1 uu1 H locs hp1 hW => ?_)
  have hW : Wd D cl tys s A (w) H locs := hW
  have hp1 : rr1 = fmod (x) (32) := hp1
  subst hp1
  refine hret _ () _ _ _ _ _ _ ?_ hW (by decide) (by decide) d_C_addressOf_6
  show fmod (x) (32) = fmod x 32
  rfl
abbrev rm_Line_append : Room := { frames := 0, cells := 0, slots := 0, locals := 0 }
set_option maxHeartbeats 4000000 in
set_option maxRecDepth 100000 in
theorem c_Line_append (l : Launch) {D : va_G} {g : Nat → ClassId} {ad : Nat → Nat} {np : Nat} {v : Vs} (k : Nat) (hk : isLn k) (x : Int32) (hO : Ok np v) (h0 : 0 < np) (hx0 : okIt np x) : MtV l y_Line_append ws_Line_append rm_Line_append D classes (tysA g) [.ref (ad (k)), .int (x)] (wC g ad np (v)) (fun _ : Unit => True) (fun _ => wC g ad np (cApp v k x)) 0 0 := by
  refine mt_v (by decide +kernel) rfl (Nat.le_of_ble_eq_true rfl) (fun p e s m args below meth c Q A C hnm hA hW hret ls hl => ?_)
  obtain ⟨hx, hb, hr, hml, hown, hts0, hlocks⟩ := C
  have hts : ∀ w ∈ bigw, w.before args s = true := fun w h => hts0 w (List.mem_cons_of_mem _ h)
  have hown : s.vm.findClass R_Line = some m.cls := hown
  have hnp := hO.le
  have hl : lv_has ls 2 [(0, .ref (ad (k))), (1, .int (x))] := hl
  refine lv_aload_n hx hb d_Line_append_0 rfl (lv_at hl 0 rfl) ?_
  refine wg hx hb hts i_Line hown hW (k) (by have := ln_lt hk; omega) (mk_line hk) rfl 1 (by decide) (hts _ kf_Line_15) rfl d_Line_append_1 ?_
  obtain ⟨e1, b1⟩ := hO.size hk
  refine lv_bipush (v := 8) hx hb d_Line_append_4 (by decide) ?_
  refine lv_icmp_ge (tgt := 29) hx hb d_Line_append_6 (by decide) (fun c_6 => ?_) (fun c_6 => ?_)
  · have nc_6 : 8 ≤ nv v (k) 1 := ni_le rfl e1 (by omega) (by omega) c_6
    have hfin : cApp v k x = v := by
      skip
      simp only [cApp, if_pos c_6]
    exact hret () _ _ _ _ _ _ trivial (by show Wd D classes (tysA g) s A (wC g ad np (cApp v k x)) _ _; rw [hfin]; exact hW) (by decide) (by decide) d_Line_append_29
  · have nc_6 : nv v (k) 1 < 8 := ni_nle rfl e1 (by omega) (by omega) c_6
    refine lv_aload_n hx hb d_Line_append_9 rfl (lv_at hl 0 rfl) ?_
    refine wg hx hb hts i_Line hown hW (k) (by have := ln_lt hk; omega) (mk_line hk) rfl 0 (by decide) (hts _ kf_Line_9) rfl d_Line_append_10 ?_
    refine lv_aload_n hx hb d_Line_append_13 rfl (lv_at hl 0 rfl) ?_
    refine wg hx hb hts i_Line hown hW (k) (by have := ln_lt hk; omega) (mk_line hk) rfl 1 (by decide) (hts _ kf_Line_15) rfl d_Line_append_14 ?_
    obtain ⟨e2, b2⟩ := hO.size hk
    refine lv_iload_n hx hb d_Line_append_17 rfl (lv_at hl 1 rfl) ?_
    refine wis hx hb hW (k + 1) (by have := ln_lt hk; omega) (mk_items hk) 0 rfl (nv v (k) 1) e2 (by omega) (by decide) (x := x) (mk_items hk) d_Line_append_18 (fun H locs hW => ?_)
    obtain ⟨v3, ev3⟩ : ∃ z : Vs, z = u2 v (k + 1) (nv v (k) 1) (x) := ⟨_, rfl⟩
    rw [← ev3] at hW
    have hO3 : Ok np v3 := by rw [ev3]; exact hO.set (by have := ln_lt hk; omega) (okS_it hk hx0)
    have ha : nv v3 k 1 = nv v k 1 := by unfold nv; rw [ev3, u2_a (by omega)]
    refine lv_aload_n hx hb d_Line_append_19 rfl (lv_at hl 0 rfl) ?_
    refine lv_dup hx hb d_Line_append_20 rfl ?_
    refine wg hx hb hts i_Line hown hW (k) (by have := ln_lt hk; omega) (mk_line hk) rfl 1 (by decide) (hts _ kf_Line_15) rfl d_Line_append_21 ?_
    obtain ⟨e4, b4⟩ := hO3.size hk
    refine lv_iconst (v := 1) hx hb d_Line_append_24 (by decide) ?_
    refine lv_iadd hx hb d_Line_append_25 ?_
    refine wp hx hb hts i_Line t_Line t_Line_ok n_Line hown hW (k) (by have := ln_lt hk; omega) (mk_line hk) rfl 1 (by decide) (hts _ kf_Line_15) rfl (by decide +kernel) (x := (v3 (k) 1) + (1)) (Nat.le_of_ble_eq_true rfl) ((mk_line hk).trans rfl) d_Line_append_26 (fun H locs hW => ?_)
    obtain ⟨v5, ev5⟩ : ∃ z : Vs, z = u2 v3 (k) 1 ((v3 (k) 1) + (1)) := ⟨_, rfl⟩
    rw [← ev5] at hW
    have hO5 : Ok np v5 := by rw [ev5]; exact hO3.set (by have := ln_lt hk; omega) (okS_sz hk ⟨nv v3 (k) 1 + 1, by omega, (ni_add e4 rfl), by omega⟩)
    have hfin : cApp v k x = v5 := by
      subst ev5 ev3
      simp only [cApp, if_neg c_6]
    exact hret () _ _ _ _ _ _ trivial (by show Wd D classes (tysA g) s A (wC g ad np (cApp v k x)) _ _; rw [hfin]; exact hW) (by decide) (by decide) d_Line_append_29
abbrev rm_Line_remove : Room := { frames := 0, cells := 0, slots := 0, locals := 0 }
set_option maxHeartbeats 4000000 in
set_option maxRecDepth 100000 in
theorem c_Line_remove (l : Launch) {D : va_G} {g : Nat → ClassId} {ad : Nat → Nat} {np : Nat} {v : Vs} (k : Nat) (hk : isLn k) (x : Int32) (hO : Ok np v) (h0 : 0 < np) : MtV l y_Line_remove ws_Line_remove rm_Line_remove D classes (tysA g) [.ref (ad (k)), .int (x)] (wC g ad np (v)) (fun _ : Unit => True) (fun _ => wC g ad np (cRem v k x)) 0 0 := by
  refine mt_v (by decide +kernel) rfl (Nat.le_of_ble_eq_true rfl) (fun p e s m args below meth c Q A C hnm hA hW hret ls hl => ?_)
  obtain ⟨hx, hb, hr, hml, hown, hts0, hlocks⟩ := C
  have hts : ∀ w ∈ bigw, w.before args s = true := fun w h => hts0 w (List.mem_cons_of_mem _ h)
  have hown : s.vm.findClass R_Line = some m.cls := hown
  have hnp := hO.le
  have hl : lv_has ls 4 [(0, .ref (ad (k))), (1, .int (x))] := hl
  refine lv_iconst (v := 0) hx hb d_Line_remove_0 (by decide) ?_
  refine lv_istore_n (lv' := [(2, .int (0)), (0, .ref (ad (k))), (1, .int (x))]) hx hb d_Line_remove_1 rfl hl (by decide) rfl (fun ls hl => ?_)
  refine lv_iconst (v := 0) hx hb d_Line_remove_2 (by decide) ?_
  refine lv_istore_n (lv' := [(3, .int (0)), (2, .int (0)), (0, .ref (ad (k))), (1, .int (x))]) hx hb d_Line_remove_3 rfl hl (by decide) rfl (fun ls hl => ?_)
  have loop : ∀ (r i kept : Nat) (vc : Vs) (H : Heap) (locs : List Loc) (ls : Array Slot), Ok np vc → nv vc k 1 = i + r → kept ≤ i → cRemL k x r i kept vc = cRem v k x → Wd D classes (tysA g) s A (wC g ad np vc) H locs → lv_has ls 4 [(0, .ref (ad (k))), (1, .int (x)), (2, .int (nI (kept))), (3, .int (nI (i)))] → W p l e rm_Line_remove s m args below meth c H locs 0 0 Q (F0 m 4 ls []) := by
    intro r
    induction r with
    | zero =>
      intro i kept vc H locs ls hOc hsz hki hT hW hl
      refine lv_iload_n hx hb d_Line_remove_4 rfl (lv_at hl 3 rfl) ?_
      refine lv_aload_n hx hb d_Line_remove_5 rfl (lv_at hl 0 rfl) ?_
      refine wg hx hb hts i_Line hown hW (k) (by have := ln_lt hk; omega) (mk_line hk) rfl 1 (by decide) (hts _ kf_Line_15) rfl d_Line_remove_6 ?_
      obtain ⟨e1, b1⟩ := hOc.size hk
      refine lv_icmp_ge (tgt := 43) hx hb d_Line_remove_9 (by decide) (fun c_9 => ?_) (fun c_9 => ?_)
      · have nc_9 : nv vc (k) 1 ≤ i := ni_le e1 rfl (by omega) (by omega) c_9
        refine lv_aload_n hx hb d_Line_remove_43 rfl (lv_at hl 0 rfl) ?_
        refine lv_iload_n hx hb d_Line_remove_44 rfl (lv_at hl 2 rfl) ?_
        refine wp hx hb hts i_Line t_Line t_Line_ok n_Line hown hW (k) (by have := ln_lt hk; omega) (mk_line hk) rfl 1 (by decide) (hts _ kf_Line_15) rfl (by decide +kernel) (x := nI (kept)) (Nat.le_of_ble_eq_true rfl) ((mk_line hk).trans rfl) d_Line_remove_45 (fun H locs hW => ?_)
        obtain ⟨v2, ev2⟩ : ∃ z : Vs, z = u2 vc (k) 1 (nI (kept)) := ⟨_, rfl⟩
        rw [← ev2] at hW
        have hO2 : Ok np v2 := by rw [ev2]; exact hOc.set (by have := ln_lt hk; omega) (okS_sz hk ⟨kept, by omega, rfl, by omega⟩)
        have hfin : cRem v k x = v2 := by
          rw [← hT]; subst ev2; rfl
        exact hret () _ _ _ _ _ _ trivial (by show Wd D classes (tysA g) s A (wC g ad np (cRem v k x)) H locs; rw [hfin]; exact hW) (by decide) (by decide) d_Line_remove_48
      · have nc_9 : i < nv vc (k) 1 := ni_nle e1 rfl (by omega) (by omega) c_9
        exfalso; omega
    | succ r ih =>
      intro i kept vc H locs ls hOc hsz hki hT hW hl
      refine lv_iload_n hx hb d_Line_remove_4 rfl (lv_at hl 3 rfl) ?_
      refine lv_aload_n hx hb d_Line_remove_5 rfl (lv_at hl 0 rfl) ?_
      refine wg hx hb hts i_Line hown hW (k) (by have := ln_lt hk; omega) (mk_line hk) rfl 1 (by decide) (hts _ kf_Line_15) rfl d_Line_remove_6 ?_
      obtain ⟨e3, b3⟩ := hOc.size hk
      refine lv_icmp_ge (tgt := 43) hx hb d_Line_remove_9 (by decide) (fun c_9 => ?_) (fun c_9 => ?_)
      · have nc_9 : nv vc (k) 1 ≤ i := ni_le e3 rfl (by omega) (by omega) c_9
        exfalso; omega
      · have nc_9 : i < nv vc (k) 1 := ni_nle e3 rfl (by omega) (by omega) c_9
        refine lv_aload_n hx hb d_Line_remove_12 rfl (lv_at hl 0 rfl) ?_
        refine wg hx hb hts i_Line hown hW (k) (by have := ln_lt hk; omega) (mk_line hk) rfl 0 (by decide) (hts _ kf_Line_9) rfl d_Line_remove_13 ?_
        refine lv_iload_n hx hb d_Line_remove_16 rfl (lv_at hl 3 rfl) ?_
        refine wi hx hb hW (k + 1) (by have := ln_lt hk; omega) (mk_items hk) 0 rfl (i) rfl (by omega) (by decide) d_Line_remove_17 ?_
        obtain ⟨e4, b4⟩ := hOc.item hk (i) (by omega)
        refine lv_iload_n hx hb d_Line_remove_18 rfl (lv_at hl 1 rfl) ?_
        refine lv_icmp_eq (tgt := 37) hx hb d_Line_remove_19 (by decide) (fun c_19 => ?_) (fun c_19 => ?_)
        · refine lv_iinc (v := nI (i + 1)) (lv' := [(3, .int (nI (i + 1))), (0, .ref (ad (k))), (1, .int (x)), (2, .int (nI (kept)))]) hx hb d_Line_remove_37 hl (k := 3) rfl (nI_1 _) (by decide) rfl (fun ls hl => ?_)
          refine lv_goto (tgt := 4) hx hb d_Line_remove_40 (by decide) ?_
          refine ih (i + 1) (kept) vc _ _ _ hOc ?_ (by omega) ?_ hW (lv_sub hl [1, 2, 3, 0] rfl)
          · omega
          · rw [← hT, cRemL, if_pos c_19]
        · refine lv_aload_n hx hb d_Line_remove_22 rfl (lv_at hl 0 rfl) ?_
          refine wg hx hb hts i_Line hown hW (k) (by have := ln_lt hk; omega) (mk_line hk) rfl 0 (by decide) (hts _ kf_Line_9) rfl d_Line_remove_23 ?_
          refine lv_iload_n hx hb d_Line_remove_26 rfl (lv_at hl 2 rfl) ?_
          refine lv_aload_n hx hb d_Line_remove_27 rfl (lv_at hl 0 rfl) ?_
          refine wg hx hb hts i_Line hown hW (k) (by have := ln_lt hk; omega) (mk_line hk) rfl 0 (by decide) (hts _ kf_Line_9) rfl d_Line_remove_28 ?_
          refine lv_iload_n hx hb d_Line_remove_31 rfl (lv_at hl 3 rfl) ?_
          refine wi hx hb hW (k + 1) (by have := ln_lt hk; omega) (mk_items hk) 0 rfl (i) rfl (by omega) (by decide) d_Line_remove_32 ?_
          obtain ⟨e5, b5⟩ := hOc.item hk (i) (by omega)
          refine wis hx hb hW (k + 1) (by have := ln_lt hk; omega) (mk_items hk) 0 rfl (kept) rfl (by omega) (by decide) (x := vc (k + 1) (i)) (mk_items hk) d_Line_remove_33 (fun H locs hW => ?_)
          obtain ⟨v6, ev6⟩ : ∃ z : Vs, z = u2 vc (k + 1) (kept) (vc (k + 1) (i)) := ⟨_, rfl⟩
          rw [← ev6] at hW
          have hO6 : Ok np v6 := by rw [ev6]; exact hOc.set (by have := ln_lt hk; omega) (okS_it hk ⟨nv vc (k + 1) (i), e5, by omega⟩)
          refine lv_iinc (v := nI (kept + 1)) (lv' := [(2, .int (nI (kept + 1))), (0, .ref (ad (k))), (1, .int (x)), (3, .int (nI (i)))]) hx hb d_Line_remove_34 hl (k := 2) rfl (nI_1 _) (by decide) rfl (fun ls hl => ?_)
          refine lv_iinc (v := nI (i + 1)) (lv' := [(3, .int (nI (i + 1))), (2, .int (nI (kept + 1))), (0, .ref (ad (k))), (1, .int (x))]) hx hb d_Line_remove_37 hl (k := 3) rfl (nI_1 _) (by decide) rfl (fun ls hl => ?_)
          refine lv_goto (tgt := 4) hx hb d_Line_remove_40 (by decide) ?_
          refine ih (i + 1) (kept + 1) v6 _ _ _ hO6 ?_ (by omega) ?_ hW (lv_sub hl [2, 3, 1, 0] rfl)
          · subst ev6; unfold nv at hsz ⊢; rw [u2_a (by omega)]; omega
          · rw [← hT, cRemL, if_neg c_19]; subst ev6; rfl
  exact loop (nv v k 1) 0 0 v _ _ _ hO (by omega) (Nat.le_refl _) rfl hW (lv_sub hl [2, 3, 1, 0] rfl)
abbrev rm_C_joinLine : Room := { frames := 1, cells := 0, slots := 0, locals := 21 }
set_option maxHeartbeats 4000000 in
set_option maxRecDepth 100000 in
theorem c_C_joinLine (l : Launch) {D : va_G} {g : Nat → ClassId} {ad : Nat → Nat} {np : Nat} {v : Vs} (i : Nat) (hi : i < np) (hO : Ok np v) : MtV l y_C_joinLine ws_C_joinLine rm_C_joinLine D classes (tysA g) [.ref (ad (0)), .ref (ad (68 + 3 * i))] (wC g ad np (v)) (fun _ : Unit => True) (fun _ => wC g ad np (cJoin v i)) 0 0 := by
  refine mt_v (by decide +kernel) rfl (Nat.le_of_ble_eq_true rfl) (fun p e s m args below meth c Q A C hnm hA hW hret ls hl => ?_)
  obtain ⟨hx, hb, hr, hml, hown, hts0, hlocks⟩ := C
  have hts : ∀ w ∈ bigw, w.before args s = true := fun w h => hts0 w (List.mem_cons_of_mem _ h)
  have hown : s.vm.findClass R_C = some m.cls := hown
  have hnp := hO.le
  have hl : lv_has ls 2 [(0, .ref (ad (0))), (1, .ref (ad (68 + 3 * i)))] := hl
  refine lv_aload_n hx hb d_C_joinLine_0 rfl (lv_at hl 1 rfl) ?_
  refine lv_iconst (v := 1) hx hb d_C_joinLine_1 (by decide) ?_
  refine wp hx hb hts i_Proc t_Proc t_Proc_ok n_Proc hown hW (68 + 3 * i) (by omega) mk_proc rfl 5 (by decide) (hts _ kf_C_70) rfl (by decide +kernel) (x := 1) (Nat.le_of_ble_eq_true rfl) (mk_proc.trans rfl) d_C_joinLine_2 (fun H locs hW => ?_)
  obtain ⟨v1, ev1⟩ : ∃ z : Vs, z = u2 v (68 + 3 * i) 5 (1) := ⟨_, rfl⟩
  rw [← ev1] at hW
  have hO1 : Ok np v1 := by rw [ev1]; exact hO.set (by omega) (okS_free (by omega))
  refine lv_aload_n hx hb d_C_joinLine_5 rfl (lv_at hl 1 rfl) ?_
  refine lv_iconst (v := 0) hx hb d_C_joinLine_6 (by decide) ?_
  refine wp hx hb hts i_Proc t_Proc t_Proc_ok n_Proc hown hW (68 + 3 * i) (by omega) mk_proc rfl 7 (by decide) (hts _ kf_C_105) rfl (by decide +kernel) (x := 0) (Nat.le_of_ble_eq_true rfl) (mk_proc.trans rfl) d_C_joinLine_7 (fun H locs hW => ?_)
  obtain ⟨v2, ev2⟩ : ∃ z : Vs, z = u2 v1 (68 + 3 * i) 7 (0) := ⟨_, rfl⟩
  rw [← ev2] at hW
  have hO2 : Ok np v2 := by rw [ev2]; exact hO1.set (by omega) (okS_free (by omega))
  refine lv_aload_n hx hb d_C_joinLine_10 rfl (lv_at hl 0 rfl) ?_
  refine wg hx hb hts i_C hown hW (0) (by omega) mk_root rfl 2 (by decide) (hts _ kf_C_23) rfl d_C_joinLine_11 ?_
  refine lv_aload_n hx hb d_C_joinLine_14 rfl (lv_at hl 1 rfl) ?_
  refine wg hx hb hts i_Proc hown hW (68 + 3 * i) (by omega) mk_proc rfl 4 (by decide) (hts _ kf_C_88) rfl d_C_joinLine_15 ?_
  obtain ⟨e3, b3⟩ := hO2.place hi
  have hk4 : isLn (22 + 2 * (nv v2 (68 + 3 * i) 4)) := ln_node (by omega)
  refine wa hx hb hW 3 (by omega) mk_lines 3 rfl (nv v2 (68 + 3 * i) 4) e3 (by omega) (by decide) (if_pos (by omega)) d_C_joinLine_18 ?_
  refine lv_aload_n hx hb d_C_joinLine_19 rfl (lv_at hl 1 rfl) ?_
  refine wg hx hb hts i_Proc hown hW (68 + 3 * i) (by omega) mk_proc rfl 0 (by decide) (hts _ kf_C_73) rfl d_C_joinLine_20 ?_
  obtain ⟨e5, b5⟩ := hO2.number hi
  refine wcv hW hA (va_runV (As := [.int (v2 (68 + 3 * i) 0)]) (rest := []) ⟨hx, hb, hml, hown, hts⟩ (c_Line_append l (22 + 2 * (nv v2 (68 + 3 * i) 4)) hk4 (v2 (68 + 3 * i) 0) hO2 (by omega) ⟨i, e5, by omega⟩ _) (cv 1 hts kc_Line_append ki_Line_append ke_Line_append kn_Line km_C_150 kh_Line_append rfl rfl ⟨by decide, by decide⟩) (preW hW rfl rfl (mw_get (by have := ln_lt hk4; omega) (mk_line hk4))) rfl rfl hl.1 rfl (lv_room (Nat.le_of_ble_eq_true rfl)) d_C_joinLine_23 ⟨by decide, by decide⟩) (fun uu6 H locs hp6 hW => ?_)
  have hW : Wd D classes (tysA g) s A (wC g ad np (cApp v2 (22 + 2 * (nv v2 (68 + 3 * i) 4)) (v2 (68 + 3 * i) 0))) H locs := hW
  obtain ⟨v7, ev7⟩ : ∃ z : Vs, z = cApp v2 (22 + 2 * (nv v2 (68 + 3 * i) 4)) (v2 (68 + 3 * i) 0) := ⟨_, rfl⟩
  rw [← ev7] at hW
  have hO7 : Ok np v7 := by rw [ev7]; exact hO2.app hk4 (by omega) ⟨i, e5, by omega⟩
  have hfin : cJoin v i = v7 := by
    subst ev7 ev2 ev1
    rfl
  exact hret () _ _ _ _ _ _ trivial (by show Wd D classes (tysA g) s A (wC g ad np (cJoin v i)) _ _; rw [hfin]; exact hW) (by decide) (by decide) d_C_joinLine_26
abbrev rm_C_leaveLine : Room := { frames := 1, cells := 0, slots := 0, locals := 23 }
set_option maxHeartbeats 4000000 in
set_option maxRecDepth 100000 in
theorem c_C_leaveLine (l : Launch) {D : va_G} {g : Nat → ClassId} {ad : Nat → Nat} {np : Nat} {v : Vs} (i : Nat) (hi : i < np) (st : Int32) (hO : Ok np v) : MtV l y_C_leaveLine ws_C_leaveLine rm_C_leaveLine D classes (tysA g) [.ref (ad (0)), .ref (ad (68 + 3 * i)), .int (st)] (wC g ad np (v)) (fun _ : Unit => True) (fun _ => wC g ad np (cLeave v i st)) 0 0 := by
  refine mt_v (by decide +kernel) rfl (Nat.le_of_ble_eq_true rfl) (fun p e s m args below meth c Q A C hnm hA hW hret ls hl => ?_)
  obtain ⟨hx, hb, hr, hml, hown, hts0, hlocks⟩ := C
  have hts : ∀ w ∈ bigw, w.before args s = true := fun w h => hts0 w (List.mem_cons_of_mem _ h)
  have hown : s.vm.findClass R_C = some m.cls := hown
  have hnp := hO.le
  have hl : lv_has ls 3 [(0, .ref (ad (0))), (1, .ref (ad (68 + 3 * i))), (2, .int (st))] := hl
  refine lv_aload_n hx hb d_C_leaveLine_0 rfl (lv_at hl 0 rfl) ?_
  refine wg hx hb hts i_C hown hW (0) (by omega) mk_root rfl 2 (by decide) (hts _ kf_C_23) rfl d_C_leaveLine_1 ?_
  refine lv_aload_n hx hb d_C_leaveLine_4 rfl (lv_at hl 1 rfl) ?_
  refine wg hx hb hts i_Proc hown hW (68 + 3 * i) (by omega) mk_proc rfl 4 (by decide) (hts _ kf_C_88) rfl d_C_leaveLine_5 ?_
  obtain ⟨e1, b1⟩ := hO.place hi
  have hk2 : isLn (22 + 2 * (nv v (68 + 3 * i) 4)) := ln_node (by omega)
  refine wa hx hb hW 3 (by omega) mk_lines 3 rfl (nv v (68 + 3 * i) 4) e1 (by omega) (by decide) (if_pos (by omega)) d_C_leaveLine_8 ?_
  refine lv_aload_n hx hb d_C_leaveLine_9 rfl (lv_at hl 1 rfl) ?_
  refine wg hx hb hts i_Proc hown hW (68 + 3 * i) (by omega) mk_proc rfl 0 (by decide) (hts _ kf_C_73) rfl d_C_leaveLine_10 ?_
  obtain ⟨e3, b3⟩ := hO.number hi
  refine wcv hW hA (va_runV (As := [.int (v (68 + 3 * i) 0)]) (rest := []) ⟨hx, hb, hml, hown, hts⟩ (c_Line_remove l (22 + 2 * (nv v (68 + 3 * i) 4)) hk2 (v (68 + 3 * i) 0) hO (by omega) _) (cv 1 hts kc_Line_remove ki_Line_remove ke_Line_remove kn_Line km_C_80 kh_Line_remove rfl rfl ⟨by decide, by decide⟩) (preW hW rfl rfl (mw_get (by have := ln_lt hk2; omega) (mk_line hk2))) rfl rfl hl.1 rfl (lv_room (Nat.le_of_ble_eq_true rfl)) d_C_leaveLine_13 ⟨by decide, by decide⟩) (fun uu4 H locs hp4 hW => ?_)
  have hW : Wd D classes (tysA g) s A (wC g ad np (cRem v (22 + 2 * (nv v (68 + 3 * i) 4)) (v (68 + 3 * i) 0))) H locs := hW
  obtain ⟨v5, ev5⟩ : ∃ z : Vs, z = cRem v (22 + 2 * (nv v (68 + 3 * i) 4)) (v (68 + 3 * i) 0) := ⟨_, rfl⟩
  rw [← ev5] at hW
  have hO5 : Ok np v5 := by rw [ev5]; exact hO.rem hk2 (by omega)
  refine lv_aload_n hx hb d_C_leaveLine_16 rfl (lv_at hl 1 rfl) ?_
  refine lv_iload_n hx hb d_C_leaveLine_17 rfl (lv_at hl 2 rfl) ?_
  refine wp hx hb hts i_Proc t_Proc t_Proc_ok n_Proc hown hW (68 + 3 * i) (by omega) mk_proc rfl 5 (by decide) (hts _ kf_C_70) rfl (by decide +kernel) (x := st) (Nat.le_of_ble_eq_true rfl) (mk_proc.trans rfl) d_C_leaveLine_18 (fun H locs hW => ?_)
  obtain ⟨v6, ev6⟩ : ∃ z : Vs, z = u2 v5 (68 + 3 * i) 5 (st) := ⟨_, rfl⟩
  rw [← ev6] at hW
  have hO6 : Ok np v6 := by rw [ev6]; exact hO5.set (by omega) (okS_free (by omega))
  have hfin : cLeave v i st = v6 := by
    subst ev6 ev5
    rfl
  exact hret () _ _ _ _ _ _ trivial (by show Wd D classes (tysA g) s A (wC g ad np (cLeave v i st)) _ _; rw [hfin]; exact hW) (by decide) (by decide) d_C_leaveLine_21
abbrev rm_C_endProcess : Room := { frames := 2, cells := 0, slots := 0, locals := 45 }
set_option maxHeartbeats 4000000 in
set_option maxRecDepth 100000 in
theorem c_C_endProcess (l : Launch) {D : va_G} {g : Nat → ClassId} {ad : Nat → Nat} {np : Nat} {v : Vs} (i : Nat) (hi : i < np) (code : Int32) (hO : Ok np v) : MtV l y_C_endProcess ws_C_endProcess rm_C_endProcess D classes (tysA g) [.ref (ad (0)), .ref (ad (68 + 3 * i)), .int (code)] (wC g ad np (v)) (fun _ : Unit => True) (fun _ => wC g ad np (cEnd np v i code)) 0 0 := by
  refine mt_v (by decide +kernel) rfl (Nat.le_of_ble_eq_true rfl) (fun p e s m args below meth c Q A C hnm hA hW hret ls hl => ?_)
  obtain ⟨hx, hb, hr, hml, hown, hts0, hlocks⟩ := C
  have hts : ∀ w ∈ bigw, w.before args s = true := fun w h => hts0 w (List.mem_cons_of_mem _ h)
  have hown : s.vm.findClass R_C = some m.cls := hown
  have hnp := hO.le
  have hl : lv_has ls 5 [(0, .ref (ad (0))), (1, .ref (ad (68 + 3 * i))), (2, .int (code))] := hl
  refine lv_aload_n hx hb d_C_endProcess_0 rfl (lv_at hl 0 rfl) ?_
  refine lv_aload_n hx hb d_C_endProcess_1 rfl (lv_at hl 1 rfl) ?_
  refine lv_iconst (v := 4) hx hb d_C_endProcess_2 (by decide) ?_
  refine wcv hW hA (va_runV (As := [.ref (ad (68 + 3 * i)), .int (4)]) (rest := []) ⟨hx, hb, hml, hown, hts⟩ (c_C_leaveLine l i hi (4) hO _) (cv 2 hts kc_C_leaveLine ki_C_leaveLine ke_C_leaveLine kn_C km_C_153 kh_C_leaveLine rfl rfl ⟨by decide, by decide⟩) (preW hW rfl rfl (mw_get (by omega) mk_root)) rfl rfl hl.1 rfl (lv_room (Nat.le_of_ble_eq_true rfl)) d_C_endProcess_3 ⟨by decide, by decide⟩) (fun uu1 H locs hp1 hW => ?_)
  have hW : Wd D classes (tysA g) s A (wC g ad np (cLeave v i (4))) H locs := hW
  obtain ⟨v2, ev2⟩ : ∃ z : Vs, z = cLeave v i (4) := ⟨_, rfl⟩
  rw [← ev2] at hW
  have hO2 : Ok np v2 := by rw [ev2]; exact hO.leave hi
  refine lv_aload_n hx hb d_C_endProcess_6 rfl (lv_at hl 1 rfl) ?_
  refine lv_iload_n hx hb d_C_endProcess_7 rfl (lv_at hl 2 rfl) ?_
  refine wp hx hb hts i_Proc t_Proc t_Proc_ok n_Proc hown hW (68 + 3 * i) (by omega) mk_proc rfl 8 (by decide) (hts _ kf_C_108) rfl (by decide +kernel) (x := code) (Nat.le_of_ble_eq_true rfl) (mk_proc.trans rfl) d_C_endProcess_8 (fun H locs hW => ?_)
  obtain ⟨v3, ev3⟩ : ∃ z : Vs, z = u2 v2 (68 + 3 * i) 8 (code) := ⟨_, rfl⟩
  rw [← ev3] at hW
  have hO3 : Ok np v3 := by rw [ev3]; exact hO2.set (by omega) (okS_free (by omega))
  refine lv_iconst (v := 0) hx hb d_C_endProcess_11 (by decide) ?_
  refine lv_istore_n (lv' := [(3, .int (0)), (0, .ref (ad (0))), (1, .ref (ad (68 + 3 * i))), (2, .int (code))]) hx hb d_C_endProcess_12 rfl hl (by decide) rfl (fun ls hl => ?_)
  have loop : ∀ (r j : Nat) (vc : Vs) (H : Heap) (locs : List Loc) (ls : Array Slot), Ok np vc → np = j + r → cWk i r j vc = cEnd np v i code → Wd D classes (tysA g) s A (wC g ad np vc) H locs → lv_has ls 5 [(0, .ref (ad (0))), (1, .ref (ad (68 + 3 * i))), (3, .int (nI (j)))] → W p l e rm_C_endProcess s m args below meth c H locs 0 0 Q (F0 m 13 ls []) := by
    intro r
    induction r with
    | zero =>
      intro j vc H locs ls hOc hnp hT hW hl
      refine lv_iload_n hx hb d_C_endProcess_13 rfl (lv_at hl 2 rfl) ?_
      refine lv_aload_n hx hb d_C_endProcess_14 rfl (lv_at hl 0 rfl) ?_
      refine wg hx hb hts i_C hown hW (0) (by omega) mk_root rfl 5 (by decide) (hts _ kf_C_55) rfl d_C_endProcess_15 ?_
      obtain ⟨e4, b4⟩ := hOc.made
      refine lv_icmp_ge (tgt := 62) hx hb d_C_endProcess_18 (by decide) (fun c_18 => ?_) (fun c_18 => ?_)
      · have nc_18 : np ≤ j := ni_le e4 rfl (by omega) (by omega) c_18
        exact hret () _ _ _ _ _ _ trivial (by show Wd D classes (tysA g) s A (wC g ad np (cEnd np v i code)) H locs; rw [← hT]; exact hW) (by decide) (by decide) d_C_endProcess_62
      · have nc_18 : j < np := ni_nle e4 rfl (by omega) (by omega) c_18
        exfalso; omega
    | succ r ih =>
      intro j vc H locs ls hOc hnp hT hW hl
      refine lv_iload_n hx hb d_C_endProcess_13 rfl (lv_at hl 2 rfl) ?_
      refine lv_aload_n hx hb d_C_endProcess_14 rfl (lv_at hl 0 rfl) ?_
      refine wg hx hb hts i_C hown hW (0) (by omega) mk_root rfl 5 (by decide) (hts _ kf_C_55) rfl d_C_endProcess_15 ?_
      obtain ⟨e5, b5⟩ := hOc.made
      refine lv_icmp_ge (tgt := 62) hx hb d_C_endProcess_18 (by decide) (fun c_18 => ?_) (fun c_18 => ?_)
      · have nc_18 : np ≤ j := ni_le e5 rfl (by omega) (by omega) c_18
        exfalso; omega
      · have nc_18 : j < np := ni_nle e5 rfl (by omega) (by omega) c_18
        refine lv_aload_n hx hb d_C_endProcess_21 rfl (lv_at hl 0 rfl) ?_
        refine wg hx hb hts i_C hown hW (0) (by omega) mk_root rfl 1 (by decide) (hts _ kf_C_17) rfl d_C_endProcess_22 ?_
        refine lv_iload_n hx hb d_C_endProcess_25 rfl (lv_at hl 2 rfl) ?_
        have hi6 : j < np := by omega
        refine wa hx hb hW 2 (by omega) mk_processes 2 rfl (j) rfl (by omega) (by decide) (if_pos hi6) d_C_endProcess_26 ?_
        refine lv_astore (lv' := [(4, .ref (ad (68 + 3 * j))), (0, .ref (ad (0))), (1, .ref (ad (68 + 3 * i))), (3, .int (nI (j)))]) hx hb d_C_endProcess_27 hl (by decide) rfl (fun ls hl => ?_)
        refine lv_aload hx hb d_C_endProcess_29 (lv_at hl 0 rfl) ?_
        refine wg hx hb hts i_Proc hown hW (68 + 3 * j) (by omega) mk_proc rfl 5 (by decide) (hts _ kf_C_70) rfl d_C_endProcess_31 ?_
        refine lv_iconst (v := 3) hx hb d_C_endProcess_34 (by decide) ?_
        refine lv_icmp_ne (tgt := 56) hx hb d_C_endProcess_35 (by decide) (fun c_35 => ?_) (fun c_35 => ?_)
        · refine lv_iinc (v := nI (j + 1)) (lv' := [(3, .int (nI (j + 1))), (4, .ref (ad (68 + 3 * j))), (0, .ref (ad (0))), (1, .ref (ad (68 + 3 * i)))]) hx hb d_C_endProcess_56 hl (k := 3) rfl (nI_1 _) (by decide) rfl (fun ls hl => ?_)
          refine lv_goto (tgt := 13) hx hb d_C_endProcess_59 (by decide) ?_
          refine ih (j + 1) vc _ _ _ hOc (by omega) ?_ hW (lv_sub hl [2, 3, 0] rfl)
          rw [← hT, cWk]; skip; simp only [if_neg c_18, if_neg c_35]
        · refine lv_aload hx hb d_C_endProcess_38 (lv_at hl 0 rfl) ?_
          refine wg hx hb hts i_Proc hown hW (68 + 3 * j) (by omega) mk_proc rfl 11 (by decide) (hts _ kf_C_157) rfl d_C_endProcess_40 ?_
          refine lv_aload_n hx hb d_C_endProcess_43 rfl (lv_at hl 2 rfl) ?_
          refine wg hx hb hts i_Proc hown hW (68 + 3 * i) (by omega) mk_proc rfl 0 (by decide) (hts _ kf_C_73) rfl d_C_endProcess_44 ?_
          obtain ⟨e7, b7⟩ := hOc.number hi
          refine lv_icmp_ne (tgt := 56) hx hb d_C_endProcess_47 (by decide) (fun c_47 => ?_) (fun c_47 => ?_)
          · refine lv_iinc (v := nI (j + 1)) (lv' := [(3, .int (nI (j + 1))), (4, .ref (ad (68 + 3 * j))), (0, .ref (ad (0))), (1, .ref (ad (68 + 3 * i)))]) hx hb d_C_endProcess_56 hl (k := 3) rfl (nI_1 _) (by decide) rfl (fun ls hl => ?_)
            refine lv_goto (tgt := 13) hx hb d_C_endProcess_59 (by decide) ?_
            refine ih (j + 1) vc _ _ _ hOc (by omega) ?_ hW (lv_sub hl [2, 3, 0] rfl)
            rw [← hT, cWk]; skip; simp only [if_neg c_18, if_pos c_35, if_neg c_47]
          · refine lv_aload_n hx hb d_C_endProcess_50 rfl (lv_at hl 1 rfl) ?_
            refine lv_aload hx hb d_C_endProcess_51 (lv_at hl 0 rfl) ?_
            refine wcv hW hA (va_runV (As := [.ref (ad (68 + 3 * j))]) (rest := []) ⟨hx, hb, hml, hown, hts⟩ (c_C_joinLine l j hi6 hOc _) (cv 1 hts kc_C_joinLine ki_C_joinLine ke_C_joinLine kn_C km_C_94 kh_C_joinLine rfl rfl ⟨by decide, by decide⟩) (preW hW rfl rfl (mw_get (by omega) mk_root)) rfl rfl hl.1 rfl (lv_room (Nat.le_of_ble_eq_true rfl)) d_C_endProcess_53 ⟨by decide, by decide⟩) (fun uu8 H locs hp8 hW => ?_)
            have hW : Wd D classes (tysA g) s A (wC g ad np (cJoin vc j)) H locs := hW
            obtain ⟨v9, ev9⟩ : ∃ z : Vs, z = cJoin vc j := ⟨_, rfl⟩
            rw [← ev9] at hW
            have hO9 : Ok np v9 := by rw [ev9]; exact hOc.join hi6
            refine lv_iinc (v := nI (j + 1)) (lv' := [(3, .int (nI (j + 1))), (4, .ref (ad (68 + 3 * j))), (0, .ref (ad (0))), (1, .ref (ad (68 + 3 * i)))]) hx hb d_C_endProcess_56 hl (k := 3) rfl (nI_1 _) (by decide) rfl (fun ls hl => ?_)
            refine lv_goto (tgt := 13) hx hb d_C_endProcess_59 (by decide) ?_
            refine ih (j + 1) v9 _ _ _ hO9 (by omega) ?_ hW (lv_sub hl [2, 3, 0] rfl)
            rw [← hT, cWk]; subst ev9; simp only [if_neg c_18, if_pos c_35, if_pos c_47]
  refine loop np 0 v3 _ _ _ hO3 (by omega) ?_ hW (lv_sub hl [1, 2, 0] rfl)
  subst ev3 ev2; rfl
end
section
/-! more of the class's methods -/
def cUse (v : Vs) (j n : Nat) : Vs :=
  let v1 := u2 v 0 6 (v 0 6 + 1)
  u2 v1 (28 + 5 * j + 2) n (v1 0 6)
def cBlock (v : Vs) (i : Nat) (x : Int32) (j : Nat) (y : Int32) : Vs :=
  let v1 := cLeave v i 2
  let v2 := u2 v1 (68 + 3 * i) 9 x
  let v3 := u2 v2 (68 + 3 * i) 10 y
  let v4 := cApp v3 (28 + 5 * j + 3) (v3 (68 + 3 * i) 0)
  u2 v4 0 8 (v4 0 8 + 1)
/-- to the end of its line -/
def cAgain (v : Vs) (i : Nat) : Vs := cJoin (cRem v (22 + 2 * nv v (68 + 3 * i) 4) (v (68 + 3 * i) 0)) i
def cSpend (v : Vs) (i : Nat) (y : Int32) : Vs :=
  let v1 := u2 v (68 + 3 * i) 7 (v (68 + 3 * i) 7 + 1)
  if y = 0 then (if v1 (68 + 3 * i) 7 = 3 then cAgain v1 i else v1) else cAgain v1 i
abbrev othP (v : Vs) (i : Nat) (x : Int32) : Prop := inI x (v 0 5) ∧ ¬ x = v (68 + 3 * i) 0
def cWait (v : Vs) (i a : Nat) : Vs :=
  if othP v i (v (68 + 3 * i + 1) a) then
    (if v (68 + 3 * nv v (68 + 3 * i + 1) a) 5 = 4 then u2 v (68 + 3 * i + 1) a (v (68 + 3 * nv v (68 + 3 * i + 1) a) 8)
    else u2 (cLeave v i 3) (68 + 3 * i) 11 (v (68 + 3 * i + 1) a))
  else u2 v (68 + 3 * i + 1) a (-1)
def cKill (np : Nat) (v : Vs) (i a : Nat) : Vs :=
  if othP v i (v (68 + 3 * i + 1) a) then
    (if v (68 + 3 * nv v (68 + 3 * i + 1) a) 5 = 4 then u2 v (68 + 3 * i + 1) a (-1)
    else u2 (cEnd np v (nv v (68 + 3 * i + 1) a) (-9)) (68 + 3 * i + 1) a 0)
  else u2 v (68 + 3 * i + 1) a (-1)
def cAcc (v : Vs) (i : Nat) (op : Int32) (a b : Nat) : Vs :=
  let w := bl (v (68 + 3 * i + 1) b) 31
  let v1 := cUse v (w / 4) (nv v (68 + 3 * i) 4)
  if op = 2 then u2 v1 (68 + 3 * i + 1) a (v1 5 w)
  else if op = 3 then u2 v1 5 w (v1 (68 + 3 * i + 1) a)
  else if v1 5 w = v1 (68 + 3 * i + 1) 3 then
    (let v2 := u2 v1 5 w (v1 (68 + 3 * i + 1) a)
    u2 v2 (68 + 3 * i + 1) 3 1)
  else u2 v1 (68 + 3 * i + 1) 3 0
def cLowL (v : Vs) (j : Nat) : Nat → Nat → Int32
  | 0, _ => 3
  | r + 1, i => if v (28 + 5 * j + 1) i = 0 then cLowL v j r (i + 1) else nI i
def cLow (v : Vs) (j : Nat) : Int32 := cLowL v j 3 0
def cGive (v : Vs) (j : Nat) (x : Int32) (n : Nat) : Vs :=
  let v1 := u2 v 0 9 (v 0 9 + 1)
  let v2 := u2 v1 (28 + 5 * j + 1) n 0
  if v2 (28 + 5 * j) 3 = x then
    (let v3 := u2 v2 (28 + 5 * j) 3 (cLow v2 j)
    if v3 (28 + 5 * j) 3 = 3 then u2 v3 0 7 (v3 0 7 + 1) else u2 v3 0 7 (v3 0 7 + 0))
  else v2
def cOld (v : Vs) (n : Nat) : Nat → Nat → Nat → Option Nat → Nat × Option Nat
  | 0, _, h, o => (h, o)
  | r + 1, i, h, none => if v (28 + 5 * i + 1) n = 0 then cOld v n r (i + 1) h none else cOld v n r (i + 1) (h + 1) (some i)
  | r + 1, i, h, some q => if v (28 + 5 * i + 1) n = 0 then cOld v n r (i + 1) h (some q) else if v (28 + 5 * q + 2) n ≤ v (28 + 5 * i + 2) n then cOld v n r (i + 1) (h + 1) (some q) else cOld v n r (i + 1) (h + 1) (some i)
def cRoomE (v : Vs) (x : Int32) (n : Nat) : Nat × Option Nat → Vs
  | (_, none) => v
  | (h, some q) => if nI h = 3 then cGive v q x n else v
def cRoom (v : Vs) (x : Int32) (n : Nat) : Vs := cRoomE v x n (cOld v n 8 0 0 none)
def cGWL (j : Nat) (x : Int32) : Nat → Nat → Int32 → Vs → Int32 × Vs
  | 0, _, lost, v => (lost, v)
  | r + 1, i, lost, v => if nI i = x then cGWL j x r (i + 1) lost v else if v (28 + 5 * j + 1) i = 0 then cGWL j x r (i + 1) lost v else cGWL j x r (i + 1) (lost + 1) (u2 v (28 + 5 * j + 1) i 0)
def cGW (v : Vs) (j : Nat) (x : Int32) (n : Nat) : Int32 × Vs := ((cGWL j x 3 0 0 v).1, u2 (u2 (cGWL j x 3 0 0 v).2 (28 + 5 * j + 1) n 2) (28 + 5 * j) 3 x)
def cGRL (j : Nat) (x : Int32) : Nat → Nat → Vs → Vs
  | 0, _, v => v
  | r + 1, i, v => if nI i = x then cGRL j x r (i + 1) v else if v (28 + 5 * j + 1) i = 2 then cGRL j x r (i + 1) (u2 v (28 + 5 * j + 1) i 1) else cGRL j x r (i + 1) v
def cGRE (v : Vs) (j : Nat) (x : Int32) (n : Nat) : Vs :=
  if v (28 + 5 * j + 1) n = 0 then
    (let v2 := u2 v (28 + 5 * j + 1) n 1
    if v2 (28 + 5 * j) 3 = 3 then u2 v2 (28 + 5 * j) 3 x else v2)
  else (if v (28 + 5 * j) 3 = 3 then u2 v (28 + 5 * j) 3 x else v)
def cGR (v : Vs) (j : Nat) (x : Int32) (n : Nat) : Vs := cGRE (cGRL j x 3 0 v) j x n
def cGrE (v : Vs) (j : Nat) (x : Int32) (n i : Nat) : Vs :=
  if v (68 + 3 * i) 10 = 2 then cJoin (cUse (u2 (cGW v j x n).2 0 7 (v 0 7 + (cGW v j x n).1)) j n) i
  else cJoin (cUse (cGR v j x n) j n) i
def cGrant (v : Vs) (j i : Nat) : Vs :=
  let x := v (68 + 3 * i) 4
  let n := nv v (68 + 3 * i) 4
  let v1 := u2 v 0 10 (v 0 10 + 1)
  let v2 := u2 v1 0 7 (v1 0 7 + 1)
  if v2 (28 + 5 * j + 1) n = 0 then cGrE (cRoom (u2 v2 0 7 (v2 0 7 + 1)) x n) j x n i else cGrE v2 j x n i
def cReqL (v : Vs) : Nat → Nat → Int32 → Int32
  | 0, _, a => a
  | r + 1, i, a => cReqL v r (i + 1) (a + v (28 + 5 * i + 3) 1)
def cRdyL (v : Vs) : Nat → Nat → Int32 → Int32
  | 0, _, a => a
  | r + 1, i, a => cRdyL v r (i + 1) (a + v (22 + 2 * i) 1)
theorem fmod32 (x : Int32) : fmod x 32 = nI (bl x 31) := by
  have h32 : (32 : Int32).toInt = 32 := by decide
  have hmin : Int32.minValue.toInt = -2147483648 := by decide
  have key : ∀ y : Int32, y.toInt = (bl x 31 : Int) → y = nI (bl x 31) := fun y h => Int32.toInt_inj.mp (by rw [h, nI_toInt (by have := bl_lt x 31; omega)])
  have hbl : (bl x 31 : Int) = x.toInt % 32 := by
    have e : x.toInt = x.toBitVec.toInt := rfl
    have hlt := x.toBitVec.isLt
    rw [e, BitVec.toInt_eq_toNat_cond]
    unfold bl
    split <;> omega
  have ht : (0 ≤ x.toInt ∧ x.toInt.tmod 32 = x.toInt % 32) ∨ (x.toInt < 0 ∧ x.toInt.tmod 32 = -((-x.toInt) % 32)) := by
    by_cases h : x.toInt < 0
    · refine Or.inr ⟨h, ?_⟩
      have h1 : x.toInt.tmod 32 = -((-x.toInt).tmod 32) := by rw [Int.neg_tmod, Int.neg_neg]
      rw [h1, Int.tmod_eq_emod_of_nonneg (by omega)]
    · exact Or.inl ⟨by omega, Int.tmod_eq_emod_of_nonneg (by omega)⟩
  have hdiv : (x / 32).toInt = x.toInt.tdiv 32 := by
    rw [Int32.toInt_div_of_ne_right _ _ (by decide), h32]
  have lo := Int32.minValue_le_toInt x
  have hi := Int32.toInt_lt x
  have hr : (x - x / 32 * 32).toInt = x.toInt.tmod 32 := by
    rw [Int32.toInt_sub, Int32.toInt_mul, hdiv, h32]
    have h1 := Int.tmod_add_mul_tdiv x.toInt 32
    have h2 : x.toInt.tdiv 32 * 32 = x.toInt - x.toInt.tmod 32 := by omega
    rw [h2]
    have h3 : (x.toInt - x.toInt.tmod 32).bmod (2 ^ 32) = x.toInt - x.toInt.tmod 32 := by
      apply Int.bmod_eq_of_le <;> omega
    rw [h3, show x.toInt - (x.toInt - x.toInt.tmod 32) = x.toInt.tmod 32 by omega]
    apply Int.bmod_eq_of_le <;> omega
  have hs : (0 ≤ x ^^^ 32) ↔ 0 ≤ x.toInt := by
    rw [Int32.le_iff_toInt_le]
    have e1 : (x ^^^ 32).toInt = (x.toBitVec ^^^ (32 : Int32).toBitVec).toInt := rfl
    have e2 : x.toInt = x.toBitVec.toInt := rfl
    have m1 := BitVec.msb_eq_toInt (x := x.toBitVec ^^^ (32 : Int32).toBitVec)
    have m2 := BitVec.msb_eq_toInt (x := x.toBitVec)
    rw [BitVec.msb_xor, show (32 : Int32).toBitVec.msb = false by decide, m2] at m1
    rw [e1, e2, show (0 : Int32).toInt = 0 by decide]
    generalize (x.toBitVec ^^^ (32 : Int32).toBitVec).toInt = z at m1 ⊢
    by_cases q : x.toBitVec.toInt < 0 <;> simp [q] at m1 <;> omega
  unfold fmod
  by_cases c : 0 ≤ x ^^^ 32
  · rw [if_pos c]
    have := hs.mp c
    exact key _ (by rw [hr]; omega)
  · rw [if_neg c]
    have hn : ¬ 0 ≤ x.toInt := fun h => c (hs.mpr h)
    by_cases c2 : x - x / 32 * 32 = 0
    · rw [if_pos c2]
      have h0 : x.toInt.tmod 32 = 0 := by rw [← hr, c2]; decide
      exact key _ (by rw [hr]; omega)
    · rw [if_neg c2]
      have h0 : ¬ x.toInt.tmod 32 = 0 := fun h => c2 (Int32.toInt_inj.mp (by rw [hr, h]; decide))
      refine key _ ?_
      rw [Int32.toInt_add, hr, h32, hbl]
      rw [show x.toInt.tmod 32 + 32 = x.toInt % 32 by omega]
      apply Int.bmod_eq_of_le <;> omega
section OKG
variable {np : Nat} {v : Vs}
theorem Ok.c0 (h : Ok np v) {j : Nat} {x : Int32} (hj : j ≠ 5) : Ok np (u2 v 0 j x) := h.set (by omega) (okS_free (by omega))
theorem Ok.pg (h : Ok np v) {k j : Nat} {x : Int32} (hk : 28 ≤ k ∧ k < 68 ∧ (k - 28) % 5 < 3) : Ok np (u2 v k j x) := h.set (by omega) (okS_free (by omega))
theorem Ok.rg (h : Ok np v) {i j : Nat} {x : Int32} : Ok np (u2 v (68 + 3 * i + 1) j x) := h.set (by omega) (okS_free (by omega))
theorem Ok.use (h : Ok np v) {j n : Nat} (hj : j < 8) : Ok np (cUse v j n) := (h.c0 (by omega)).pg (by omega)
theorem Ok.block (h : Ok np v) {i j : Nat} {x y : Int32} (hi : i < np) (hj : j < 8) : Ok np (cBlock v i x j y) := by
  have h3 := ((h.leave (st := 2) hi).fr (i := i) (j := 9) (x := x) (by omega)).fr (i := i) (j := 10) (x := y) (by omega)
  refine (h3.app (ln_page hj) (by omega) ?_).c0 (by omega)
  rw [(h3.number hi).1]
  exact okIt_of hi
theorem Ok.again (h : Ok np v) {i : Nat} (hi : i < np) : Ok np (cAgain v i) := (h.rem (ln_node (h.place hi).2) (by omega)).join hi
theorem Ok.spend (h : Ok np v) {i : Nat} {y : Int32} (hi : i < np) : Ok np (cSpend v i y) := by
  have h1 : Ok np (u2 v (68 + 3 * i) 7 (v (68 + 3 * i) 7 + 1)) := h.fr (by omega)
  unfold cSpend
  by_cases c : y = 0
  · simp only [if_pos c]
    split
    · exact h1.again hi
    · exact h1
  · simp only [if_neg c]; exact h1.again hi
theorem Ok.oth (h : Ok np v) {i : Nat} {k j : Nat} (c : othP v i (v k j)) : v k j = nI (nv v k j) ∧ nv v k j < np := by
  have := h.1
  obtain ⟨q, hq, e⟩ := inI_nat h.made.1 (by omega) c.1
  have h1 := nv_of e (by omega)
  rw [h1]
  exact ⟨e, hq⟩
theorem Ok.wait (h : Ok np v) {i a : Nat} (hi : i < np) : Ok np (cWait v i a) := by
  unfold cWait
  split
  · split
    · exact h.rg
    · exact (h.leave hi).fr (by omega)
  · exact h.rg
theorem Ok.kill (h : Ok np v) {i a : Nat} : Ok np (cKill np v i a) := by
  unfold cKill
  split
  · next c =>
    split
    · exact h.rg
    · exact (h.end (h.oth c).2).rg
  · exact h.rg
theorem Ok.m5 (h : Ok np v) {j : Nat} {x : Int32} : Ok np (u2 v 5 j x) := h.set (by omega) (okS_free (by omega))
theorem Ok.acc (h : Ok np v) {i a b : Nat} {op : Int32} : Ok np (cAcc v i op a b) := by
  have h1 : Ok np (cUse v (bl (v (68 + 3 * i + 1) b) 31 / 4) (nv v (68 + 3 * i) 4)) := h.use (by have := bl_lt (v (68 + 3 * i + 1) b) 31; omega)
  unfold cAcc
  dsimp only
  split
  · exact h1.rg
  · split
    · exact h1.m5
    · split
      · exact h1.m5.rg
      · exact h1.rg
theorem Ok.give (h : Ok np v) {j n : Nat} {x : Int32} (hj : j < 8) : Ok np (cGive v j x n) := by
  have h2 : Ok np (u2 (u2 v 0 9 (v 0 9 + 1)) (28 + 5 * j + 1) n 0) := (h.c0 (by omega)).pg (by omega)
  unfold cGive
  dsimp only
  split
  · split
    · exact (h2.pg (by omega)).c0 (by omega)
    · exact (h2.pg (by omega)).c0 (by omega)
  · exact h2
theorem cOld_lt (v : Vs) (n : Nat) : ∀ (r i h : Nat) (o : Option Nat), i + r ≤ 8 → (∀ q, o = some q → q < 8) → ∀ q, (cOld v n r i h o).2 = some q → q < 8 := by
  intro r
  induction r with
  | zero => intro i h o hi ho q hq; exact ho q hq
  | succ r ih =>
    intro i h o hi ho
    cases o with
    | none =>
      unfold cOld
      split
      · exact ih _ _ _ (by omega) (fun q e => by cases e)
      · exact ih _ _ _ (by omega) (fun q e => by cases e; omega)
    | some q0 =>
      have h0 := ho q0 rfl
      unfold cOld
      split
      · exact ih _ _ _ (by omega) (fun q e => by cases e; omega)
      · split
        · exact ih _ _ _ (by omega) (fun q e => by cases e; omega)
        · exact ih _ _ _ (by omega) (fun q e => by cases e; omega)
theorem Ok.room (h : Ok np v) {x : Int32} {n : Nat} : Ok np (cRoom v x n) := by
  unfold cRoom
  have hq := cOld_lt v n 8 0 0 none (by omega) (fun q e => by cases e)
  generalize cOld v n 8 0 0 none = z at hq ⊢
  obtain ⟨a, o⟩ := z
  cases o with
  | none => exact h
  | some q =>
    show Ok np (if nI a = 3 then cGive v q x n else v)
    split
    · exact h.give (hq q rfl)
    · exact h
theorem Ok.gwl {j : Nat} {x : Int32} (hj : j < 8) : ∀ (r i : Nat) (lost : Int32) (v : Vs), Ok np v → Ok np (cGWL j x r i lost v).2 := by
  intro r
  induction r with
  | zero => exact fun i lost v h => h
  | succ r ih =>
    intro i lost v h
    unfold cGWL
    split
    · exact ih _ _ _ h
    · split
      · exact ih _ _ _ h
      · exact ih _ _ _ (h.pg (by omega))
theorem Ok.gw (h : Ok np v) {j n : Nat} {x : Int32} (hj : j < 8) : Ok np (cGW v j x n).2 := ((Ok.gwl hj 3 0 0 v h).pg (by omega)).pg (by omega)
theorem Ok.grl {j : Nat} {x : Int32} (hj : j < 8) : ∀ (r i : Nat) (v : Vs), Ok np v → Ok np (cGRL j x r i v) := by
  intro r
  induction r with
  | zero => exact fun i v h => h
  | succ r ih =>
    intro i v h
    unfold cGRL
    split
    · exact ih _ _ h
    · split
      · exact ih _ _ (h.pg (by omega))
      · exact ih _ _ h
theorem Ok.gre (h : Ok np v) {j n : Nat} {x : Int32} (hj : j < 8) : Ok np (cGRE v j x n) := by
  unfold cGRE
  dsimp only
  split
  · split
    · exact (h.pg (by omega)).pg (by omega)
    · exact h.pg (by omega)
  · split
    · exact h.pg (by omega)
    · exact h
theorem Ok.gr (h : Ok np v) {j n : Nat} {x : Int32} (hj : j < 8) : Ok np (cGR v j x n) := (Ok.grl hj 3 0 v h).gre hj
theorem Ok.grE (h : Ok np v) {j n i : Nat} {x : Int32} (hj : j < 8) (hi : i < np) : Ok np (cGrE v j x n i) := by
  unfold cGrE
  split
  · exact (((h.gw hj).c0 (by omega)).use hj).join hi
  · exact ((h.gr hj).use hj).join hi
theorem Ok.grant (h : Ok np v) {j i : Nat} (hj : j < 8) (hi : i < np) : Ok np (cGrant v j i) := by
  have h2 : Ok np (u2 (u2 v 0 10 (v 0 10 + 1)) 0 7 (u2 v 0 10 (v 0 10 + 1) 0 7 + 1)) := (h.c0 (by omega)).c0 (by omega)
  unfold cGrant
  dsimp only
  split
  · exact (h2.c0 (by omega)).room.grE hj hi
  · exact h2.grE hj hi
end OKG
end
section
abbrev rm_C_usePage : Room := { frames := 0, cells := 0, slots := 0, locals := 0 }
set_option maxHeartbeats 4000000 in
set_option maxRecDepth 100000 in
theorem c_C_usePage (l : Launch) {D : va_G} {g : Nat → ClassId} {ad : Nat → Nat} {np : Nat} {v : Vs} (j : Nat) (hj : j < 8) (x : Int32) (n : Nat) (zx : x = nI n) (ln : n < 3) (hO : Ok np v) : MtV l y_C_usePage ws_C_usePage rm_C_usePage D classes (tysA g) [.ref (ad (0)), .ref (ad (28 + 5 * j)), .int (x)] (wC g ad np (v)) (fun _ : Unit => True) (fun _ => wC g ad np (cUse v j n)) 0 0 := by
  refine mt_v (by decide +kernel) rfl (Nat.le_of_ble_eq_true rfl) (fun p e s m args below meth c Q A C hnm hA hW hret ls hl => ?_)
  obtain ⟨hx, hb, hr, hml, hown, hts0, hlocks⟩ := C
  have hts : ∀ w ∈ bigw, w.before args s = true := fun w h => hts0 w (List.mem_cons_of_mem _ h)
  have hown : s.vm.findClass R_C = some m.cls := hown
  have hnp := hO.le
  have hl : lv_has ls 3 [(0, .ref (ad (0))), (1, .ref (ad (28 + 5 * j))), (2, .int (x))] := hl
  refine lv_aload_n hx hb d_C_usePage_0 rfl (lv_at hl 0 rfl) ?_
  refine lv_dup hx hb d_C_usePage_1 rfl ?_
  refine wg hx hb hts i_C hown hW (0) (by omega) mk_root rfl 6 (by decide) (hts _ kf_C_215) rfl d_C_usePage_2 ?_
  refine lv_iconst (v := 1) hx hb d_C_usePage_5 (by decide) ?_
  refine lv_iadd hx hb d_C_usePage_6 ?_
  refine wp hx hb hts i_C t_C t_C_ok n_C hown hW (0) (by omega) mk_root rfl 6 (by decide) (hts _ kf_C_215) rfl (by decide +kernel) (x := (v 0 6) + (1)) (Nat.le_of_ble_eq_true rfl) (mk_root.trans rfl) d_C_usePage_7 (fun H locs hW => ?_)
  obtain ⟨v1, ev1⟩ : ∃ z : Vs, z = u2 v (0) 6 ((v 0 6) + (1)) := ⟨_, rfl⟩
  rw [← ev1] at hW
  have hO1 : Ok np v1 := by rw [ev1]; exact hO.set (by omega) (okS_free (by omega))
  refine lv_aload_n hx hb d_C_usePage_10 rfl (lv_at hl 1 rfl) ?_
  refine wg hx hb hts i_Page hown hW (28 + 5 * j) (by omega) (mk_page hj) rfl 1 (by decide) (hts _ kf_C_218) rfl d_C_usePage_11 ?_
  refine lv_iload_n hx hb d_C_usePage_14 rfl (lv_at hl 2 rfl) ?_
  refine lv_aload_n hx hb d_C_usePage_15 rfl (lv_at hl 0 rfl) ?_
  refine wg hx hb hts i_C hown hW (0) (by omega) mk_root rfl 6 (by decide) (hts _ kf_C_215) rfl d_C_usePage_16 ?_
  refine wis hx hb hW (28 + 5 * j + 2) (by omega) (mk_uses hj) 0 rfl (n) zx (by omega) (by decide) (x := v1 0 6) (mk_uses hj) d_C_usePage_19 (fun H locs hW => ?_)
  obtain ⟨v2, ev2⟩ : ∃ z : Vs, z = u2 v1 (28 + 5 * j + 2) (n) (v1 0 6) := ⟨_, rfl⟩
  rw [← ev2] at hW
  have hO2 : Ok np v2 := by rw [ev2]; exact hO1.set (by omega) (okS_free (by omega))
  have hfin : cUse v j n = v2 := by
    subst ev2 ev1
    rfl
  exact hret () _ _ _ _ _ _ trivial (by show Wd D classes (tysA g) s A (wC g ad np (cUse v j n)) _ _; rw [hfin]; exact hW) (by decide) (by decide) d_C_usePage_20
abbrev rm_C_blockOn : Room := { frames := 2, cells := 0, slots := 0, locals := 45 }
set_option maxHeartbeats 4000000 in
set_option maxRecDepth 100000 in
theorem c_C_blockOn (l : Launch) {D : va_G} {g : Nat → ClassId} {ad : Nat → Nat} {np : Nat} {v : Vs} (i : Nat) (hi : i < np) (x : Int32) (j : Nat) (zx : x = nI j) (lj : j < 8) (y : Int32) (hO : Ok np v) : MtV l y_C_blockOn ws_C_blockOn rm_C_blockOn D classes (tysA g) [.ref (ad (0)), .ref (ad (68 + 3 * i)), .int (x), .int (y)] (wC g ad np (v)) (fun _ : Unit => True) (fun _ => wC g ad np (cBlock v i x j y)) 0 0 := by
  refine mt_v (by decide +kernel) rfl (Nat.le_of_ble_eq_true rfl) (fun p e s m args below meth c Q A C hnm hA hW hret ls hl => ?_)
  obtain ⟨hx, hb, hr, hml, hown, hts0, hlocks⟩ := C
  have hts : ∀ w ∈ bigw, w.before args s = true := fun w h => hts0 w (List.mem_cons_of_mem _ h)
  have hown : s.vm.findClass R_C = some m.cls := hown
  have hnp := hO.le
  have hl : lv_has ls 4 [(0, .ref (ad (0))), (1, .ref (ad (68 + 3 * i))), (2, .int (x)), (3, .int (y))] := hl
  refine lv_aload_n hx hb d_C_blockOn_0 rfl (lv_at hl 0 rfl) ?_
  refine lv_aload_n hx hb d_C_blockOn_1 rfl (lv_at hl 1 rfl) ?_
  refine lv_iconst (v := 2) hx hb d_C_blockOn_2 (by decide) ?_
  refine wcv hW hA (va_runV (As := [.ref (ad (68 + 3 * i)), .int (2)]) (rest := []) ⟨hx, hb, hml, hown, hts⟩ (c_C_leaveLine l i hi (2) hO _) (cv 2 hts kc_C_leaveLine ki_C_leaveLine ke_C_leaveLine kn_C km_C_153 kh_C_leaveLine rfl rfl ⟨by decide, by decide⟩) (preW hW rfl rfl (mw_get (by omega) mk_root)) rfl rfl hl.1 rfl (lv_room (Nat.le_of_ble_eq_true rfl)) d_C_blockOn_3 ⟨by decide, by decide⟩) (fun uu1 H locs hp1 hW => ?_)
  have hW : Wd D classes (tysA g) s A (wC g ad np (cLeave v i (2))) H locs := hW
  obtain ⟨v2, ev2⟩ : ∃ z : Vs, z = cLeave v i (2) := ⟨_, rfl⟩
  rw [← ev2] at hW
  have hO2 : Ok np v2 := by rw [ev2]; exact hO.leave hi
  refine lv_aload_n hx hb d_C_blockOn_6 rfl (lv_at hl 1 rfl) ?_
  refine lv_iload_n hx hb d_C_blockOn_7 rfl (lv_at hl 2 rfl) ?_
  refine wp hx hb hts i_Proc t_Proc t_Proc_ok n_Proc hown hW (68 + 3 * i) (by omega) mk_proc rfl 9 (by decide) (hts _ kf_C_111) rfl (by decide +kernel) (x := x) (Nat.le_of_ble_eq_true rfl) (mk_proc.trans rfl) d_C_blockOn_8 (fun H locs hW => ?_)
  obtain ⟨v3, ev3⟩ : ∃ z : Vs, z = u2 v2 (68 + 3 * i) 9 (x) := ⟨_, rfl⟩
  rw [← ev3] at hW
  have hO3 : Ok np v3 := by rw [ev3]; exact hO2.set (by omega) (okS_free (by omega))
  refine lv_aload_n hx hb d_C_blockOn_11 rfl (lv_at hl 1 rfl) ?_
  refine lv_iload_n hx hb d_C_blockOn_12 rfl (lv_at hl 3 rfl) ?_
  refine wp hx hb hts i_Proc t_Proc t_Proc_ok n_Proc hown hW (68 + 3 * i) (by omega) mk_proc rfl 10 (by decide) (hts _ kf_C_195) rfl (by decide +kernel) (x := y) (Nat.le_of_ble_eq_true rfl) (mk_proc.trans rfl) d_C_blockOn_13 (fun H locs hW => ?_)
  obtain ⟨v4, ev4⟩ : ∃ z : Vs, z = u2 v3 (68 + 3 * i) 10 (y) := ⟨_, rfl⟩
  rw [← ev4] at hW
  have hO4 : Ok np v4 := by rw [ev4]; exact hO3.set (by omega) (okS_free (by omega))
  refine lv_aload_n hx hb d_C_blockOn_16 rfl (lv_at hl 0 rfl) ?_
  refine wg hx hb hts i_C hown hW (0) (by omega) mk_root rfl 3 (by decide) (hts _ kf_C_29) rfl d_C_blockOn_17 ?_
  refine lv_iload_n hx hb d_C_blockOn_20 rfl (lv_at hl 2 rfl) ?_
  have hi5 : j < 8 := by omega
  refine wa hx hb hW 4 (by omega) mk_pages 4 rfl (j) zx (by omega) (by decide) (if_pos hi5) d_C_blockOn_21 ?_
  refine wg hx hb hts i_Page hown hW (28 + 5 * j) (by omega) (mk_page hi5) rfl 2 (by decide) (hts _ kf_C_76) rfl d_C_blockOn_22 ?_
  refine lv_aload_n hx hb d_C_blockOn_25 rfl (lv_at hl 1 rfl) ?_
  refine wg hx hb hts i_Proc hown hW (68 + 3 * i) (by omega) mk_proc rfl 0 (by decide) (hts _ kf_C_73) rfl d_C_blockOn_26 ?_
  obtain ⟨e6, b6⟩ := hO4.number hi
  refine wcv hW hA (va_runV (As := [.int (v4 (68 + 3 * i) 0)]) (rest := []) ⟨hx, hb, hml, hown, hts⟩ (c_Line_append l (28 + 5 * j + 3) (ln_page hi5) (v4 (68 + 3 * i) 0) hO4 (by omega) ⟨i, e6, by omega⟩ _) (cv 1 hts kc_Line_append ki_Line_append ke_Line_append kn_Line km_C_150 kh_Line_append rfl rfl ⟨by decide, by decide⟩) (preW hW rfl rfl (mw_get (by have := ln_lt (ln_page hi5); omega) (mk_line (ln_page hi5)))) rfl rfl hl.1 rfl (lv_room (Nat.le_of_ble_eq_true rfl)) d_C_blockOn_29 ⟨by decide, by decide⟩) (fun uu7 H locs hp7 hW => ?_)
  have hW : Wd D classes (tysA g) s A (wC g ad np (cApp v4 (28 + 5 * j + 3) (v4 (68 + 3 * i) 0))) H locs := hW
  obtain ⟨v8, ev8⟩ : ∃ z : Vs, z = cApp v4 (28 + 5 * j + 3) (v4 (68 + 3 * i) 0) := ⟨_, rfl⟩
  rw [← ev8] at hW
  have hO8 : Ok np v8 := by rw [ev8]; exact hO4.app (ln_page hi5) (by omega) ⟨i, e6, by omega⟩
  refine lv_aload_n hx hb d_C_blockOn_32 rfl (lv_at hl 0 rfl) ?_
  refine lv_dup hx hb d_C_blockOn_33 rfl ?_
  refine wg hx hb hts i_C hown hW (0) (by omega) mk_root rfl 8 (by decide) (hts _ kf_C_127) rfl d_C_blockOn_34 ?_
  refine lv_iconst (v := 1) hx hb d_C_blockOn_37 (by decide) ?_
  refine lv_iadd hx hb d_C_blockOn_38 ?_
  refine wp hx hb hts i_C t_C t_C_ok n_C hown hW (0) (by omega) mk_root rfl 8 (by decide) (hts _ kf_C_127) rfl (by decide +kernel) (x := (v8 0 8) + (1)) (Nat.le_of_ble_eq_true rfl) (mk_root.trans rfl) d_C_blockOn_39 (fun H locs hW => ?_)
  obtain ⟨v9, ev9⟩ : ∃ z : Vs, z = u2 v8 (0) 8 ((v8 0 8) + (1)) := ⟨_, rfl⟩
  rw [← ev9] at hW
  have hO9 : Ok np v9 := by rw [ev9]; exact hO8.set (by omega) (okS_free (by omega))
  have hfin : cBlock v i x j y = v9 := by
    subst ev9 ev8 ev4 ev3 ev2
    rfl
  exact hret () _ _ _ _ _ _ trivial (by show Wd D classes (tysA g) s A (wC g ad np (cBlock v i x j y)) _ _; rw [hfin]; exact hW) (by decide) (by decide) d_C_blockOn_42
abbrev rm_C_spendSlice : Room := { frames := 2, cells := 0, slots := 0, locals := 42 }
set_option maxHeartbeats 4000000 in
set_option maxRecDepth 100000 in
theorem c_C_spendSlice (l : Launch) {D : va_G} {g : Nat → ClassId} {ad : Nat → Nat} {np : Nat} {v : Vs} (i : Nat) (hi : i < np) (y : Int32) (hO : Ok np v) : MtV l y_C_spendSlice ws_C_spendSlice rm_C_spendSlice D classes (tysA g) [.ref (ad (0)), .ref (ad (68 + 3 * i)), .int (y)] (wC g ad np (v)) (fun _ : Unit => True) (fun _ => wC g ad np (cSpend v i y)) 0 0 := by
  refine mt_v (by decide +kernel) rfl (Nat.le_of_ble_eq_true rfl) (fun p e s m args below meth c Q A C hnm hA hW hret ls hl => ?_)
  obtain ⟨hx, hb, hr, hml, hown, hts0, hlocks⟩ := C
  have hts : ∀ w ∈ bigw, w.before args s = true := fun w h => hts0 w (List.mem_cons_of_mem _ h)
  have hown : s.vm.findClass R_C = some m.cls := hown
  have hnp := hO.le
  have hl : lv_has ls 3 [(0, .ref (ad (0))), (1, .ref (ad (68 + 3 * i))), (2, .int (y))] := hl
  refine lv_aload_n hx hb d_C_spendSlice_0 rfl (lv_at hl 1 rfl) ?_
  refine lv_dup hx hb d_C_spendSlice_1 rfl ?_
  refine wg hx hb hts i_Proc hown hW (68 + 3 * i) (by omega) mk_proc rfl 7 (by decide) (hts _ kf_C_105) rfl d_C_spendSlice_2 ?_
  refine lv_iconst (v := 1) hx hb d_C_spendSlice_5 (by decide) ?_
  refine lv_iadd hx hb d_C_spendSlice_6 ?_
  refine wp hx hb hts i_Proc t_Proc t_Proc_ok n_Proc hown hW (68 + 3 * i) (by omega) mk_proc rfl 7 (by decide) (hts _ kf_C_105) rfl (by decide +kernel) (x := (v (68 + 3 * i) 7) + (1)) (Nat.le_of_ble_eq_true rfl) (mk_proc.trans rfl) d_C_spendSlice_7 (fun H locs hW => ?_)
  obtain ⟨v1, ev1⟩ : ∃ z : Vs, z = u2 v (68 + 3 * i) 7 ((v (68 + 3 * i) 7) + (1)) := ⟨_, rfl⟩
  rw [← ev1] at hW
  have hO1 : Ok np v1 := by rw [ev1]; exact hO.set (by omega) (okS_free (by omega))
  refine lv_iload_n hx hb d_C_spendSlice_10 rfl (lv_at hl 2 rfl) ?_
  refine lv_if_ne (tgt := 22) hx hb d_C_spendSlice_11 (by decide) (fun c_11 => ?_) (fun c_11 => ?_)
  · refine lv_aload_n hx hb d_C_spendSlice_22 rfl (lv_at hl 0 rfl) ?_
    refine wg hx hb hts i_C hown hW (0) (by omega) mk_root rfl 2 (by decide) (hts _ kf_C_23) rfl d_C_spendSlice_23 ?_
    refine lv_aload_n hx hb d_C_spendSlice_26 rfl (lv_at hl 1 rfl) ?_
    refine wg hx hb hts i_Proc hown hW (68 + 3 * i) (by omega) mk_proc rfl 4 (by decide) (hts _ kf_C_88) rfl d_C_spendSlice_27 ?_
    obtain ⟨e2, b2⟩ := hO1.place hi
    have hk3 : isLn (22 + 2 * (nv v1 (68 + 3 * i) 4)) := ln_node (by omega)
    refine wa hx hb hW 3 (by omega) mk_lines 3 rfl (nv v1 (68 + 3 * i) 4) e2 (by omega) (by decide) (if_pos (by omega)) d_C_spendSlice_30 ?_
    refine lv_aload_n hx hb d_C_spendSlice_31 rfl (lv_at hl 1 rfl) ?_
    refine wg hx hb hts i_Proc hown hW (68 + 3 * i) (by omega) mk_proc rfl 0 (by decide) (hts _ kf_C_73) rfl d_C_spendSlice_32 ?_
    obtain ⟨e4, b4⟩ := hO1.number hi
    refine wcv hW hA (va_runV (As := [.int (v1 (68 + 3 * i) 0)]) (rest := []) ⟨hx, hb, hml, hown, hts⟩ (c_Line_remove l (22 + 2 * (nv v1 (68 + 3 * i) 4)) hk3 (v1 (68 + 3 * i) 0) hO1 (by omega) _) (cv 1 hts kc_Line_remove ki_Line_remove ke_Line_remove kn_Line km_C_80 kh_Line_remove rfl rfl ⟨by decide, by decide⟩) (preW hW rfl rfl (mw_get (by have := ln_lt hk3; omega) (mk_line hk3))) rfl rfl hl.1 rfl (lv_room (Nat.le_of_ble_eq_true rfl)) d_C_spendSlice_35 ⟨by decide, by decide⟩) (fun uu5 H locs hp5 hW => ?_)
    have hW : Wd D classes (tysA g) s A (wC g ad np (cRem v1 (22 + 2 * (nv v1 (68 + 3 * i) 4)) (v1 (68 + 3 * i) 0))) H locs := hW
    obtain ⟨v6, ev6⟩ : ∃ z : Vs, z = cRem v1 (22 + 2 * (nv v1 (68 + 3 * i) 4)) (v1 (68 + 3 * i) 0) := ⟨_, rfl⟩
    rw [← ev6] at hW
    have hO6 : Ok np v6 := by rw [ev6]; exact hO1.rem hk3 (by omega)
    refine lv_aload_n hx hb d_C_spendSlice_38 rfl (lv_at hl 0 rfl) ?_
    refine lv_aload_n hx hb d_C_spendSlice_39 rfl (lv_at hl 1 rfl) ?_
    refine wcv hW hA (va_runV (As := [.ref (ad (68 + 3 * i))]) (rest := []) ⟨hx, hb, hml, hown, hts⟩ (c_C_joinLine l i hi hO6 _) (cv 1 hts kc_C_joinLine ki_C_joinLine ke_C_joinLine kn_C km_C_94 kh_C_joinLine rfl rfl ⟨by decide, by decide⟩) (preW hW rfl rfl (mw_get (by omega) mk_root)) rfl rfl hl.1 rfl (lv_room (Nat.le_of_ble_eq_true rfl)) d_C_spendSlice_40 ⟨by decide, by decide⟩) (fun uu7 H locs hp7 hW => ?_)
    have hW : Wd D classes (tysA g) s A (wC g ad np (cJoin v6 i)) H locs := hW
    obtain ⟨v8, ev8⟩ : ∃ z : Vs, z = cJoin v6 i := ⟨_, rfl⟩
    rw [← ev8] at hW
    have hO8 : Ok np v8 := by rw [ev8]; exact hO6.join hi
    have hfin : cSpend v i y = v8 := by
      subst ev8 ev6 ev1
      simp only [cSpend, cAgain, if_neg c_11]
    exact hret () _ _ _ _ _ _ trivial (by show Wd D classes (tysA g) s A (wC g ad np (cSpend v i y)) _ _; rw [hfin]; exact hW) (by decide) (by decide) d_C_spendSlice_43
  · refine lv_aload_n hx hb d_C_spendSlice_14 rfl (lv_at hl 1 rfl) ?_
    refine wg hx hb hts i_Proc hown hW (68 + 3 * i) (by omega) mk_proc rfl 7 (by decide) (hts _ kf_C_105) rfl d_C_spendSlice_15 ?_
    refine lv_iconst (v := 3) hx hb d_C_spendSlice_18 (by decide) ?_
    refine lv_icmp_ne (tgt := 43) hx hb d_C_spendSlice_19 (by decide) (fun c_19 => ?_) (fun c_19 => ?_)
    · have hfin : cSpend v i y = v1 := by
        subst ev1
        simp only [cSpend, cAgain, if_pos c_11, if_neg c_19]
      exact hret () _ _ _ _ _ _ trivial (by show Wd D classes (tysA g) s A (wC g ad np (cSpend v i y)) _ _; rw [hfin]; exact hW) (by decide) (by decide) d_C_spendSlice_43
    · refine lv_aload_n hx hb d_C_spendSlice_22 rfl (lv_at hl 0 rfl) ?_
      refine wg hx hb hts i_C hown hW (0) (by omega) mk_root rfl 2 (by decide) (hts _ kf_C_23) rfl d_C_spendSlice_23 ?_
      refine lv_aload_n hx hb d_C_spendSlice_26 rfl (lv_at hl 1 rfl) ?_
      refine wg hx hb hts i_Proc hown hW (68 + 3 * i) (by omega) mk_proc rfl 4 (by decide) (hts _ kf_C_88) rfl d_C_spendSlice_27 ?_
      obtain ⟨e9, b9⟩ := hO1.place hi
      have hk10 : isLn (22 + 2 * (nv v1 (68 + 3 * i) 4)) := ln_node (by omega)
      refine wa hx hb hW 3 (by omega) mk_lines 3 rfl (nv v1 (68 + 3 * i) 4) e9 (by omega) (by decide) (if_pos (by omega)) d_C_spendSlice_30 ?_
      refine lv_aload_n hx hb d_C_spendSlice_31 rfl (lv_at hl 1 rfl) ?_
      refine wg hx hb hts i_Proc hown hW (68 + 3 * i) (by omega) mk_proc rfl 0 (by decide) (hts _ kf_C_73) rfl d_C_spendSlice_32 ?_
      obtain ⟨e11, b11⟩ := hO1.number hi
      refine wcv hW hA (va_runV (As := [.int (v1 (68 + 3 * i) 0)]) (rest := []) ⟨hx, hb, hml, hown, hts⟩ (c_Line_remove l (22 + 2 * (nv v1 (68 + 3 * i) 4)) hk10 (v1 (68 + 3 * i) 0) hO1 (by omega) _) (cv 1 hts kc_Line_remove ki_Line_remove ke_Line_remove kn_Line km_C_80 kh_Line_remove rfl rfl ⟨by decide, by decide⟩) (preW hW rfl rfl (mw_get (by have := ln_lt hk10; omega) (mk_line hk10))) rfl rfl hl.1 rfl (lv_room (Nat.le_of_ble_eq_true rfl)) d_C_spendSlice_35 ⟨by decide, by decide⟩) (fun uu12 H locs hp12 hW => ?_)
      have hW : Wd D classes (tysA g) s A (wC g ad np (cRem v1 (22 + 2 * (nv v1 (68 + 3 * i) 4)) (v1 (68 + 3 * i) 0))) H locs := hW
      obtain ⟨v13, ev13⟩ : ∃ z : Vs, z = cRem v1 (22 + 2 * (nv v1 (68 + 3 * i) 4)) (v1 (68 + 3 * i) 0) := ⟨_, rfl⟩
      rw [← ev13] at hW
      have hO13 : Ok np v13 := by rw [ev13]; exact hO1.rem hk10 (by omega)
      refine lv_aload_n hx hb d_C_spendSlice_38 rfl (lv_at hl 0 rfl) ?_
      refine lv_aload_n hx hb d_C_spendSlice_39 rfl (lv_at hl 1 rfl) ?_
      refine wcv hW hA (va_runV (As := [.ref (ad (68 + 3 * i))]) (rest := []) ⟨hx, hb, hml, hown, hts⟩ (c_C_joinLine l i hi hO13 _) (cv 1 hts kc_C_joinLine ki_C_joinLine ke_C_joinLine kn_C km_C_94 kh_C_joinLine rfl rfl ⟨by decide, by decide⟩) (preW hW rfl rfl (mw_get (by omega) mk_root)) rfl rfl hl.1 rfl (lv_room (Nat.le_of_ble_eq_true rfl)) d_C_spendSlice_40 ⟨by decide, by decide⟩) (fun uu14 H locs hp14 hW => ?_)
      have hW : Wd D classes (tysA g) s A (wC g ad np (cJoin v13 i)) H locs := hW
      obtain ⟨v15, ev15⟩ : ∃ z : Vs, z = cJoin v13 i := ⟨_, rfl⟩
      rw [← ev15] at hW
      have hO15 : Ok np v15 := by rw [ev15]; exact hO13.join hi
      have hfin : cSpend v i y = v15 := by
        subst ev15 ev13 ev1
        simp only [cSpend, cAgain, if_pos c_11, if_pos c_19]
      exact hret () _ _ _ _ _ _ trivial (by show Wd D classes (tysA g) s A (wC g ad np (cSpend v i y)) _ _; rw [hfin]; exact hW) (by decide) (by decide) d_C_spendSlice_43
abbrev rm_C_isOther : Room := { frames := 1, cells := 0, slots := 0, locals := 21 }
set_option maxHeartbeats 4000000 in
set_option maxRecDepth 100000 in
theorem c_C_isOther (l : Launch) {D : va_G} {g : Nat → ClassId} {ad : Nat → Nat} {np : Nat} {v : Vs} (i : Nat) (hi : i < np) (x : Int32) (hO : Ok np v) : MtI l y_C_isOther ws_C_isOther rm_C_isOther D classes (tysA g) [.ref (ad (0)), .ref (ad (68 + 3 * i)), .int (x)] (wC g ad np (v)) (fun (rr : Int32) (_ : Unit) => rr = if othP v i x then 1 else 0) (fun _ => wC g ad np (v)) 0 0 := by
  refine mt_i (ty := .boolean) (fun r _ h => by rw [h]; split <;> rfl) (by decide +kernel) rfl (Nat.le_of_ble_eq_true rfl) (fun p e s m args below meth c Q A C hA hW hret ls hl => ?_)
  obtain ⟨hx, hb, hr, hml, hown, hts0, hlocks⟩ := C
  have hts : ∀ w ∈ bigw, w.before args s = true := fun w h => hts0 w (List.mem_cons_of_mem _ h)
  have hown : s.vm.findClass R_C = some m.cls := hown
  have hnp := hO.le
  have hl : lv_has ls 3 [(0, .ref (ad (0))), (1, .ref (ad (68 + 3 * i))), (2, .int (x))] := hl
  refine lv_iload_n hx hb d_C_isOther_0 rfl (lv_at hl 2 rfl) ?_
  refine lv_aload_n hx hb d_C_isOther_1 rfl (lv_at hl 0 rfl) ?_
  refine wg hx hb hts i_C hown hW (0) (by omega) mk_root rfl 5 (by decide) (hts _ kf_C_55) rfl d_C_isOther_2 ?_
  obtain ⟨e1, b1⟩ := hO.made
  refine wci hW hA (va_runS (As := [.int (x), .int (v 0 5)]) (rest := []) ⟨hx, hb, hml, hown, hts⟩ (c_C_isIn l _ (x) (v 0 5) _) (cs 2 hts kc_C_isIn ks_C_isIn kn_C km_C_40 kh_C_isIn rfl rfl ⟨by decide, by decide⟩) (preWS hW) rfl rfl hl.1 rfl (lv_room (Nat.le_of_ble_eq_true rfl)) d_C_isOther_5 ⟨by decide, by decide⟩) (fun rr2 uu2 H locs hp2 hW => ?_)
  have hW : Wd D classes (tysA g) s A (wC g ad np (v)) H locs := hW
  have hp2 : rr2 = if inI (x) (v 0 5) then 1 else 0 := hp2
  refine lv_if_eq (tgt := 23) hx hb d_C_isOther_8 (by decide) (fun c_8 => ?_) (fun c_8 => ?_)
  · have c_8 : ¬ (inI (x) (v 0 5)) := bo_eq hp2 c_8
    refine lv_iconst (v := 0) hx hb d_C_isOther_23 (by decide) ?_
    refine hret _ () _ _ _ _ _ _ ?_ hW (by decide) (by decide) d_C_isOther_24
    show 0 = if othP v i x then (1 : Int32) else 0
    exact ite_f (fun h => c_8 h.1)
  · have c_8 : inI (x) (v 0 5) := bo_ne hp2 c_8
    obtain ⟨e3, b3⟩ := inI_nn (N := np) e1 (by omega) c_8
    refine lv_iload_n hx hb d_C_isOther_11 rfl (lv_at hl 2 rfl) ?_
    refine lv_aload_n hx hb d_C_isOther_12 rfl (lv_at hl 1 rfl) ?_
    refine wg hx hb hts i_Proc hown hW (68 + 3 * i) (by omega) mk_proc rfl 0 (by decide) (hts _ kf_C_73) rfl d_C_isOther_13 ?_
    obtain ⟨e4, b4⟩ := hO.number hi
    refine lv_icmp_eq (tgt := 23) hx hb d_C_isOther_16 (by decide) (fun c_16 => ?_) (fun c_16 => ?_)
    · have nc_16 : nn x = i := ni_eq e3 e4 (by omega) (by omega) c_16
      refine lv_iconst (v := 0) hx hb d_C_isOther_23 (by decide) ?_
      refine hret _ () _ _ _ _ _ _ ?_ hW (by decide) (by decide) d_C_isOther_24
      show 0 = if othP v i x then (1 : Int32) else 0
      exact ite_f (fun h => h.2 c_16)
    · have nc_16 : ¬ nn x = i := ni_ne e3 e4 (by omega) (by omega) c_16
      refine lv_iconst (v := 1) hx hb d_C_isOther_19 (by decide) ?_
      refine lv_goto (tgt := 24) hx hb d_C_isOther_20 (by decide) ?_
      refine hret _ () _ _ _ _ _ _ ?_ hW (by decide) (by decide) d_C_isOther_24
      show 1 = if othP v i x then (1 : Int32) else 0
      exact ite_t ⟨c_8, c_16⟩
abbrev rm_C_waitFor : Room := { frames := 2, cells := 0, slots := 0, locals := 45 }
set_option maxHeartbeats 4000000 in
set_option maxRecDepth 100000 in
theorem c_C_waitFor (l : Launch) {D : va_G} {g : Nat → ClassId} {ad : Nat → Nat} {np : Nat} {v : Vs} (i : Nat) (hi : i < np) (y : Int32) (a : Nat) (zy : y = nI a) (la : a < 4) (hO : Ok np v) : MtV l y_C_waitFor ws_C_waitFor rm_C_waitFor D classes (tysA g) [.ref (ad (0)), .ref (ad (68 + 3 * i)), .int (y)] (wC g ad np (v)) (fun _ : Unit => True) (fun _ => wC g ad np (cWait v i a)) 0 0 := by
  refine mt_v (by decide +kernel) rfl (Nat.le_of_ble_eq_true rfl) (fun p e s m args below meth c Q A C hnm hA hW hret ls hl => ?_)
  obtain ⟨hx, hb, hr, hml, hown, hts0, hlocks⟩ := C
  have hts : ∀ w ∈ bigw, w.before args s = true := fun w h => hts0 w (List.mem_cons_of_mem _ h)
  have hown : s.vm.findClass R_C = some m.cls := hown
  have hnp := hO.le
  have hl : lv_has ls 4 [(0, .ref (ad (0))), (1, .ref (ad (68 + 3 * i))), (2, .int (y))] := hl
  refine lv_aload_n hx hb d_C_waitFor_0 rfl (lv_at hl 1 rfl) ?_
  refine wg hx hb hts i_Proc hown hW (68 + 3 * i) (by omega) mk_proc rfl 2 (by decide) (hts _ kf_C_99) rfl d_C_waitFor_1 ?_
  refine lv_iload_n hx hb d_C_waitFor_4 rfl (lv_at hl 2 rfl) ?_
  refine wi hx hb hW (68 + 3 * i + 1) (by omega) mk_regs 0 rfl (a) zy (by omega) (by decide) d_C_waitFor_5 ?_
  refine lv_istore_n (lv' := [(3, .int (v (68 + 3 * i + 1) (a))), (0, .ref (ad (0))), (1, .ref (ad (68 + 3 * i))), (2, .int (y))]) hx hb d_C_waitFor_6 rfl hl (by decide) rfl (fun ls hl => ?_)
  refine lv_aload_n hx hb d_C_waitFor_7 rfl (lv_at hl 1 rfl) ?_
  refine lv_aload_n hx hb d_C_waitFor_8 rfl (lv_at hl 2 rfl) ?_
  refine lv_iload_n hx hb d_C_waitFor_9 rfl (lv_at hl 0 rfl) ?_
  refine wci hW hA (va_runV (As := [.ref (ad (68 + 3 * i)), .int (v (68 + 3 * i + 1) (a))]) (rest := []) ⟨hx, hb, hml, hown, hts⟩ (c_C_isOther l i hi (v (68 + 3 * i + 1) (a)) hO _) (cv 2 hts kc_C_isOther ki_C_isOther ke_C_isOther kn_C km_C_211 kh_C_isOther rfl rfl ⟨by decide, by decide⟩) (preW hW rfl rfl (mw_get (by omega) mk_root)) rfl rfl hl.1 rfl (lv_room (Nat.le_of_ble_eq_true rfl)) d_C_waitFor_10 ⟨by decide, by decide⟩) (fun rr1 uu1 H locs hp1 hW => ?_)
  have hW : Wd D classes (tysA g) s A (wC g ad np (v)) H locs := hW
  have hp1 : rr1 = if othP v i (v (68 + 3 * i + 1) (a)) then 1 else 0 := hp1
  refine lv_if_ne (tgt := 26) hx hb d_C_waitFor_13 (by decide) (fun c_13 => ?_) (fun c_13 => ?_)
  · have c_13 : othP v i (v (68 + 3 * i + 1) (a)) := bo_ne hp1 c_13
    obtain ⟨e2, b2⟩ := hO.oth c_13
    refine lv_aload_n hx hb d_C_waitFor_26 rfl (lv_at hl 1 rfl) ?_
    refine wg hx hb hts i_C hown hW (0) (by omega) mk_root rfl 1 (by decide) (hts _ kf_C_17) rfl d_C_waitFor_27 ?_
    refine lv_iload_n hx hb d_C_waitFor_30 rfl (lv_at hl 0 rfl) ?_
    have hi3 : nv v (68 + 3 * i + 1) (a) < np := by omega
    refine wa hx hb hW 2 (by omega) mk_processes 2 rfl (nv v (68 + 3 * i + 1) (a)) e2 (by omega) (by decide) (if_pos hi3) d_C_waitFor_31 ?_
    refine wg hx hb hts i_Proc hown hW (68 + 3 * (nv v (68 + 3 * i + 1) (a))) (by omega) mk_proc rfl 5 (by decide) (hts _ kf_C_70) rfl d_C_waitFor_32 ?_
    refine lv_iconst (v := 4) hx hb d_C_waitFor_35 (by decide) ?_
    refine lv_icmp_ne (tgt := 57) hx hb d_C_waitFor_36 (by decide) (fun c_36 => ?_) (fun c_36 => ?_)
    · refine lv_aload_n hx hb d_C_waitFor_57 rfl (lv_at hl 1 rfl) ?_
      refine lv_aload_n hx hb d_C_waitFor_58 rfl (lv_at hl 2 rfl) ?_
      refine lv_iconst (v := 3) hx hb d_C_waitFor_59 (by decide) ?_
      refine wcv hW hA (va_runV (As := [.ref (ad (68 + 3 * i)), .int (3)]) (rest := []) ⟨hx, hb, hml, hown, hts⟩ (c_C_leaveLine l i hi (3) hO _) (cv 2 hts kc_C_leaveLine ki_C_leaveLine ke_C_leaveLine kn_C km_C_153 kh_C_leaveLine rfl rfl ⟨by decide, by decide⟩) (preW hW rfl rfl (mw_get (by omega) mk_root)) rfl rfl hl.1 rfl (lv_room (Nat.le_of_ble_eq_true rfl)) d_C_waitFor_60 ⟨by decide, by decide⟩) (fun uu4 H locs hp4 hW => ?_)
      have hW : Wd D classes (tysA g) s A (wC g ad np (cLeave v i (3))) H locs := hW
      obtain ⟨v5, ev5⟩ : ∃ z : Vs, z = cLeave v i (3) := ⟨_, rfl⟩
      rw [← ev5] at hW
      have hO5 : Ok np v5 := by rw [ev5]; exact hO.leave hi
      refine lv_aload_n hx hb d_C_waitFor_63 rfl (lv_at hl 2 rfl) ?_
      refine lv_iload_n hx hb d_C_waitFor_64 rfl (lv_at hl 0 rfl) ?_
      refine wp hx hb hts i_Proc t_Proc t_Proc_ok n_Proc hown hW (68 + 3 * i) (by omega) mk_proc rfl 11 (by decide) (hts _ kf_C_157) rfl (by decide +kernel) (x := v (68 + 3 * i + 1) (a)) (Nat.le_of_ble_eq_true rfl) (mk_proc.trans rfl) d_C_waitFor_65 (fun H locs hW => ?_)
      obtain ⟨v6, ev6⟩ : ∃ z : Vs, z = u2 v5 (68 + 3 * i) 11 (v (68 + 3 * i + 1) (a)) := ⟨_, rfl⟩
      rw [← ev6] at hW
      have hO6 : Ok np v6 := by rw [ev6]; exact hO5.set (by omega) (okS_free (by omega))
      have hfin : cWait v i a = v6 := by
        subst ev6 ev5
        simp only [cWait, if_pos c_13, if_neg c_36]
      exact hret () _ _ _ _ _ _ trivial (by show Wd D classes (tysA g) s A (wC g ad np (cWait v i a)) _ _; rw [hfin]; exact hW) (by decide) (by decide) d_C_waitFor_68
    · refine lv_aload_n hx hb d_C_waitFor_39 rfl (lv_at hl 2 rfl) ?_
      refine wg hx hb hts i_Proc hown hW (68 + 3 * i) (by omega) mk_proc rfl 2 (by decide) (hts _ kf_C_99) rfl d_C_waitFor_40 ?_
      refine lv_iload_n hx hb d_C_waitFor_43 rfl (lv_at hl 3 rfl) ?_
      refine lv_aload_n hx hb d_C_waitFor_44 rfl (lv_at hl 1 rfl) ?_
      refine wg hx hb hts i_C hown hW (0) (by omega) mk_root rfl 1 (by decide) (hts _ kf_C_17) rfl d_C_waitFor_45 ?_
      refine lv_iload_n hx hb d_C_waitFor_48 rfl (lv_at hl 0 rfl) ?_
      have hi7 : nv v (68 + 3 * i + 1) (a) < np := by omega
      refine wa hx hb hW 2 (by omega) mk_processes 2 rfl (nv v (68 + 3 * i + 1) (a)) e2 (by omega) (by decide) (if_pos hi7) d_C_waitFor_49 ?_
      refine wg hx hb hts i_Proc hown hW (68 + 3 * (nv v (68 + 3 * i + 1) (a))) (by omega) mk_proc rfl 8 (by decide) (hts _ kf_C_108) rfl d_C_waitFor_50 ?_
      refine wis hx hb hW (68 + 3 * i + 1) (by omega) mk_regs 0 rfl (a) zy (by omega) (by decide) (x := v (68 + 3 * (nv v (68 + 3 * i + 1) (a))) 8) mk_regs d_C_waitFor_53 (fun H locs hW => ?_)
      obtain ⟨v8, ev8⟩ : ∃ z : Vs, z = u2 v (68 + 3 * i + 1) (a) (v (68 + 3 * (nv v (68 + 3 * i + 1) (a))) 8) := ⟨_, rfl⟩
      rw [← ev8] at hW
      have hO8 : Ok np v8 := by rw [ev8]; exact hO.set (by omega) (okS_free (by omega))
      refine lv_goto (tgt := 68) hx hb d_C_waitFor_54 (by decide) ?_
      have hfin : cWait v i a = v8 := by
        subst ev8
        simp only [cWait, if_pos c_13, if_pos c_36]
      exact hret () _ _ _ _ _ _ trivial (by show Wd D classes (tysA g) s A (wC g ad np (cWait v i a)) _ _; rw [hfin]; exact hW) (by decide) (by decide) d_C_waitFor_68
  · have c_13 : ¬ (othP v i (v (68 + 3 * i + 1) (a))) := bo_eq hp1 c_13
    refine lv_aload_n hx hb d_C_waitFor_16 rfl (lv_at hl 2 rfl) ?_
    refine wg hx hb hts i_Proc hown hW (68 + 3 * i) (by omega) mk_proc rfl 2 (by decide) (hts _ kf_C_99) rfl d_C_waitFor_17 ?_
    refine lv_iload_n hx hb d_C_waitFor_20 rfl (lv_at hl 3 rfl) ?_
    refine lv_iconst (v := (-1)) hx hb d_C_waitFor_21 (by decide) ?_
    refine wis hx hb hW (68 + 3 * i + 1) (by omega) mk_regs 0 rfl (a) zy (by omega) (by decide) (x := (-1)) mk_regs d_C_waitFor_22 (fun H locs hW => ?_)
    obtain ⟨v9, ev9⟩ : ∃ z : Vs, z = u2 v (68 + 3 * i + 1) (a) ((-1)) := ⟨_, rfl⟩
    rw [← ev9] at hW
    have hO9 : Ok np v9 := by rw [ev9]; exact hO.set (by omega) (okS_free (by omega))
    refine lv_goto (tgt := 68) hx hb d_C_waitFor_23 (by decide) ?_
    have hfin : cWait v i a = v9 := by
      subst ev9
      simp only [cWait, if_neg c_13]
    exact hret () _ _ _ _ _ _ trivial (by show Wd D classes (tysA g) s A (wC g ad np (cWait v i a)) _ _; rw [hfin]; exact hW) (by decide) (by decide) d_C_waitFor_68
abbrev rm_C_killOther : Room := { frames := 3, cells := 0, slots := 0, locals := 69 }
set_option maxHeartbeats 4000000 in
set_option maxRecDepth 100000 in
theorem c_C_killOther (l : Launch) {D : va_G} {g : Nat → ClassId} {ad : Nat → Nat} {np : Nat} {v : Vs} (i : Nat) (hi : i < np) (y : Int32) (a : Nat) (zy : y = nI a) (la : a < 4) (hO : Ok np v) : MtV l y_C_killOther ws_C_killOther rm_C_killOther D classes (tysA g) [.ref (ad (0)), .ref (ad (68 + 3 * i)), .int (y)] (wC g ad np (v)) (fun _ : Unit => True) (fun _ => wC g ad np (cKill np v i a)) 0 0 := by
  refine mt_v (by decide +kernel) rfl (Nat.le_of_ble_eq_true rfl) (fun p e s m args below meth c Q A C hnm hA hW hret ls hl => ?_)
  obtain ⟨hx, hb, hr, hml, hown, hts0, hlocks⟩ := C
  have hts : ∀ w ∈ bigw, w.before args s = true := fun w h => hts0 w (List.mem_cons_of_mem _ h)
  have hown : s.vm.findClass R_C = some m.cls := hown
  have hnp := hO.le
  have hl : lv_has ls 4 [(0, .ref (ad (0))), (1, .ref (ad (68 + 3 * i))), (2, .int (y))] := hl
  refine lv_aload_n hx hb d_C_killOther_0 rfl (lv_at hl 1 rfl) ?_
  refine wg hx hb hts i_Proc hown hW (68 + 3 * i) (by omega) mk_proc rfl 2 (by decide) (hts _ kf_C_99) rfl d_C_killOther_1 ?_
  refine lv_iload_n hx hb d_C_killOther_4 rfl (lv_at hl 2 rfl) ?_
  refine wi hx hb hW (68 + 3 * i + 1) (by omega) mk_regs 0 rfl (a) zy (by omega) (by decide) d_C_killOther_5 ?_
  refine lv_istore_n (lv' := [(3, .int (v (68 + 3 * i + 1) (a))), (0, .ref (ad (0))), (1, .ref (ad (68 + 3 * i))), (2, .int (y))]) hx hb d_C_killOther_6 rfl hl (by decide) rfl (fun ls hl => ?_)
  refine lv_aload_n hx hb d_C_killOther_7 rfl (lv_at hl 1 rfl) ?_
  refine lv_aload_n hx hb d_C_killOther_8 rfl (lv_at hl 2 rfl) ?_
  refine lv_iload_n hx hb d_C_killOther_9 rfl (lv_at hl 0 rfl) ?_
  refine wci hW hA (va_runV (As := [.ref (ad (68 + 3 * i)), .int (v (68 + 3 * i + 1) (a))]) (rest := []) ⟨hx, hb, hml, hown, hts⟩ (c_C_isOther l i hi (v (68 + 3 * i + 1) (a)) hO _) (cv 2 hts kc_C_isOther ki_C_isOther ke_C_isOther kn_C km_C_211 kh_C_isOther rfl rfl ⟨by decide, by decide⟩) (preW hW rfl rfl (mw_get (by omega) mk_root)) rfl rfl hl.1 rfl (lv_room (Nat.le_of_ble_eq_true rfl)) d_C_killOther_10 ⟨by decide, by decide⟩) (fun rr1 uu1 H locs hp1 hW => ?_)
  have hW : Wd D classes (tysA g) s A (wC g ad np (v)) H locs := hW
  have hp1 : rr1 = if othP v i (v (68 + 3 * i + 1) (a)) then 1 else 0 := hp1
  refine lv_if_eq (tgt := 29) hx hb d_C_killOther_13 (by decide) (fun c_13 => ?_) (fun c_13 => ?_)
  · have c_13 : ¬ (othP v i (v (68 + 3 * i + 1) (a))) := bo_eq hp1 c_13
    refine lv_aload_n hx hb d_C_killOther_29 rfl (lv_at hl 2 rfl) ?_
    refine wg hx hb hts i_Proc hown hW (68 + 3 * i) (by omega) mk_proc rfl 2 (by decide) (hts _ kf_C_99) rfl d_C_killOther_30 ?_
    refine lv_iload_n hx hb d_C_killOther_33 rfl (lv_at hl 3 rfl) ?_
    refine lv_iconst (v := (-1)) hx hb d_C_killOther_34 (by decide) ?_
    refine wis hx hb hW (68 + 3 * i + 1) (by omega) mk_regs 0 rfl (a) zy (by omega) (by decide) (x := (-1)) mk_regs d_C_killOther_35 (fun H locs hW => ?_)
    obtain ⟨v2, ev2⟩ : ∃ z : Vs, z = u2 v (68 + 3 * i + 1) (a) ((-1)) := ⟨_, rfl⟩
    rw [← ev2] at hW
    have hO2 : Ok np v2 := by rw [ev2]; exact hO.set (by omega) (okS_free (by omega))
    refine lv_goto (tgt := 58) hx hb d_C_killOther_36 (by decide) ?_
    have hfin : cKill np v i a = v2 := by
      subst ev2
      simp only [cKill, if_neg c_13]
    exact hret () _ _ _ _ _ _ trivial (by show Wd D classes (tysA g) s A (wC g ad np (cKill np v i a)) _ _; rw [hfin]; exact hW) (by decide) (by decide) d_C_killOther_58
  · have c_13 : othP v i (v (68 + 3 * i + 1) (a)) := bo_ne hp1 c_13
    obtain ⟨e3, b3⟩ := hO.oth c_13
    refine lv_aload_n hx hb d_C_killOther_16 rfl (lv_at hl 1 rfl) ?_
    refine wg hx hb hts i_C hown hW (0) (by omega) mk_root rfl 1 (by decide) (hts _ kf_C_17) rfl d_C_killOther_17 ?_
    refine lv_iload_n hx hb d_C_killOther_20 rfl (lv_at hl 0 rfl) ?_
    have hi4 : nv v (68 + 3 * i + 1) (a) < np := by omega
    refine wa hx hb hW 2 (by omega) mk_processes 2 rfl (nv v (68 + 3 * i + 1) (a)) e3 (by omega) (by decide) (if_pos hi4) d_C_killOther_21 ?_
    refine wg hx hb hts i_Proc hown hW (68 + 3 * (nv v (68 + 3 * i + 1) (a))) (by omega) mk_proc rfl 5 (by decide) (hts _ kf_C_70) rfl d_C_killOther_22 ?_
    refine lv_iconst (v := 4) hx hb d_C_killOther_25 (by decide) ?_
    refine lv_icmp_ne (tgt := 39) hx hb d_C_killOther_26 (by decide) (fun c_26 => ?_) (fun c_26 => ?_)
    · refine lv_aload_n hx hb d_C_killOther_39 rfl (lv_at hl 1 rfl) ?_
      refine lv_aload_n hx hb d_C_killOther_40 rfl (lv_at hl 1 rfl) ?_
      refine wg hx hb hts i_C hown hW (0) (by omega) mk_root rfl 1 (by decide) (hts _ kf_C_17) rfl d_C_killOther_41 ?_
      refine lv_iload_n hx hb d_C_killOther_44 rfl (lv_at hl 0 rfl) ?_
      have hi5 : nv v (68 + 3 * i + 1) (a) < np := by omega
      refine wa hx hb hW 2 (by omega) mk_processes 2 rfl (nv v (68 + 3 * i + 1) (a)) e3 (by omega) (by decide) (if_pos hi5) d_C_killOther_45 ?_
      refine lv_bipush (v := (-9)) hx hb d_C_killOther_46 (by decide) ?_
      refine wcv hW hA (va_runV (As := [.ref (ad (68 + 3 * (nv v (68 + 3 * i + 1) (a)))), .int ((-9))]) (rest := []) ⟨hx, hb, hml, hown, hts⟩ (c_C_endProcess l (nv v (68 + 3 * i + 1) (a)) hi5 ((-9)) hO _) (cv 2 hts kc_C_endProcess ki_C_endProcess ke_C_endProcess kn_C km_C_163 kh_C_endProcess rfl rfl ⟨by decide, by decide⟩) (preW hW rfl rfl (mw_get (by omega) mk_root)) rfl rfl hl.1 rfl (lv_room (Nat.le_of_ble_eq_true rfl)) d_C_killOther_48 ⟨by decide, by decide⟩) (fun uu6 H locs hp6 hW => ?_)
      have hW : Wd D classes (tysA g) s A (wC g ad np (cEnd np v (nv v (68 + 3 * i + 1) (a)) ((-9)))) H locs := hW
      obtain ⟨v7, ev7⟩ : ∃ z : Vs, z = cEnd np v (nv v (68 + 3 * i + 1) (a)) ((-9)) := ⟨_, rfl⟩
      rw [← ev7] at hW
      have hO7 : Ok np v7 := by rw [ev7]; exact hO.end hi5
      refine lv_aload_n hx hb d_C_killOther_51 rfl (lv_at hl 2 rfl) ?_
      refine wg hx hb hts i_Proc hown hW (68 + 3 * i) (by omega) mk_proc rfl 2 (by decide) (hts _ kf_C_99) rfl d_C_killOther_52 ?_
      refine lv_iload_n hx hb d_C_killOther_55 rfl (lv_at hl 3 rfl) ?_
      refine lv_iconst (v := 0) hx hb d_C_killOther_56 (by decide) ?_
      refine wis hx hb hW (68 + 3 * i + 1) (by omega) mk_regs 0 rfl (a) zy (by omega) (by decide) (x := 0) mk_regs d_C_killOther_57 (fun H locs hW => ?_)
      obtain ⟨v8, ev8⟩ : ∃ z : Vs, z = u2 v7 (68 + 3 * i + 1) (a) (0) := ⟨_, rfl⟩
      rw [← ev8] at hW
      have hO8 : Ok np v8 := by rw [ev8]; exact hO7.set (by omega) (okS_free (by omega))
      have hfin : cKill np v i a = v8 := by
        subst ev8 ev7
        simp only [cKill, if_pos c_13, if_neg c_26]
      exact hret () _ _ _ _ _ _ trivial (by show Wd D classes (tysA g) s A (wC g ad np (cKill np v i a)) _ _; rw [hfin]; exact hW) (by decide) (by decide) d_C_killOther_58
    · refine lv_aload_n hx hb d_C_killOther_29 rfl (lv_at hl 2 rfl) ?_
      refine wg hx hb hts i_Proc hown hW (68 + 3 * i) (by omega) mk_proc rfl 2 (by decide) (hts _ kf_C_99) rfl d_C_killOther_30 ?_
      refine lv_iload_n hx hb d_C_killOther_33 rfl (lv_at hl 3 rfl) ?_
      refine lv_iconst (v := (-1)) hx hb d_C_killOther_34 (by decide) ?_
      refine wis hx hb hW (68 + 3 * i + 1) (by omega) mk_regs 0 rfl (a) zy (by omega) (by decide) (x := (-1)) mk_regs d_C_killOther_35 (fun H locs hW => ?_)
      obtain ⟨v9, ev9⟩ : ∃ z : Vs, z = u2 v (68 + 3 * i + 1) (a) ((-1)) := ⟨_, rfl⟩
      rw [← ev9] at hW
      have hO9 : Ok np v9 := by rw [ev9]; exact hO.set (by omega) (okS_free (by omega))
      refine lv_goto (tgt := 58) hx hb d_C_killOther_36 (by decide) ?_
      have hfin : cKill np v i a = v9 := by
        subst ev9
        simp only [cKill, if_pos c_13, if_pos c_26]
      exact hret () _ _ _ _ _ _ trivial (by show Wd D classes (tysA g) s A (wC g ad np (cKill np v i a)) _ _; rw [hfin]; exact hW) (by decide) (by decide) d_C_killOther_58
abbrev rm_C_accessMemory : Room := { frames := 2, cells := 0, slots := 0, locals := 42 }
set_option maxHeartbeats 4000000 in
set_option maxRecDepth 100000 in
theorem c_C_accessMemory (l : Launch) {D : va_G} {g : Nat → ClassId} {ad : Nat → Nat} {np : Nat} {v : Vs} (i : Nat) (hi : i < np) (op : Int32) (y : Int32) (a : Nat) (zy : y = nI a) (la : a < 4) (z : Int32) (b : Nat) (zz : z = nI b) (lb : b < 4) (hO : Ok np v) : MtV l y_C_accessMemory ws_C_accessMemory rm_C_accessMemory D classes (tysA g) [.ref (ad (0)), .ref (ad (68 + 3 * i)), .int (op), .int (y), .int (z)] (wC g ad np (v)) (fun _ : Unit => True) (fun _ => wC g ad np (cAcc v i op a b)) 0 0 := by
  refine mt_v (by decide +kernel) rfl (Nat.le_of_ble_eq_true rfl) (fun p e s m args below meth c Q A C hnm hA hW hret ls hl => ?_)
  obtain ⟨hx, hb, hr, hml, hown, hts0, hlocks⟩ := C
  have hts : ∀ w ∈ bigw, w.before args s = true := fun w h => hts0 w (List.mem_cons_of_mem _ h)
  have hown : s.vm.findClass R_C = some m.cls := hown
  have hnp := hO.le
  have hl : lv_has ls 7 [(0, .ref (ad (0))), (1, .ref (ad (68 + 3 * i))), (2, .int (op)), (3, .int (y)), (4, .int (z))] := hl
  refine lv_aload_n hx hb d_C_accessMemory_0 rfl (lv_at hl 1 rfl) ?_
  refine wg hx hb hts i_Proc hown hW (68 + 3 * i) (by omega) mk_proc rfl 2 (by decide) (hts _ kf_C_99) rfl d_C_accessMemory_1 ?_
  refine lv_astore (lv' := [(5, .ref (ad (68 + 3 * i + 1))), (0, .ref (ad (0))), (1, .ref (ad (68 + 3 * i))), (2, .int (op)), (3, .int (y)), (4, .int (z))]) hx hb d_C_accessMemory_4 hl (by decide) rfl (fun ls hl => ?_)
  refine lv_aload hx hb d_C_accessMemory_6 (lv_at hl 0 rfl) ?_
  refine lv_iload hx hb d_C_accessMemory_8 (lv_at hl 5 rfl) ?_
  refine wi hx hb hW (68 + 3 * i + 1) (by omega) mk_regs 0 rfl (b) zz (by omega) (by decide) d_C_accessMemory_10 ?_
  refine wci hW hA (va_runS (As := [.int (v (68 + 3 * i + 1) (b))]) (rest := []) ⟨hx, hb, hml, hown, hts⟩ (c_C_addressOf l _ (v (68 + 3 * i + 1) (b)) _) (cs 1 hts kc_C_addressOf ks_C_addressOf kn_C km_C_179 kh_C_addressOf rfl rfl ⟨by decide, by decide⟩) (preWS hW) rfl rfl hl.1 rfl (lv_room (Nat.le_of_ble_eq_true rfl)) d_C_accessMemory_11 ⟨by decide, by decide⟩) (fun rr1 uu1 H locs hp1 hW => ?_)
  have hW : Wd D classes (tysA g) s A (wC g ad np (v)) H locs := hW
  have hp1 : rr1 = fmod (v (68 + 3 * i + 1) (b)) 32 := hp1
  subst hp1
  have hbl := bl_lt (v (68 + 3 * i + 1) (b)) 31
  refine lv_istore (lv' := [(6, .int (fmod (v (68 + 3 * i + 1) (b)) 32)), (5, .ref (ad (68 + 3 * i + 1))), (0, .ref (ad (0))), (1, .ref (ad (68 + 3 * i))), (2, .int (op)), (3, .int (y)), (4, .int (z))]) hx hb d_C_accessMemory_14 hl (by decide) rfl (fun ls hl => ?_)
  refine lv_aload_n hx hb d_C_accessMemory_16 rfl (lv_at hl 2 rfl) ?_
  refine lv_aload_n hx hb d_C_accessMemory_17 rfl (lv_at hl 2 rfl) ?_
  refine wg hx hb hts i_C hown hW (0) (by omega) mk_root rfl 3 (by decide) (hts _ kf_C_29) rfl d_C_accessMemory_18 ?_
  refine lv_iload hx hb d_C_accessMemory_21 (lv_at hl 0 rfl) ?_
  refine lv_iconst (v := 4) hx hb d_C_accessMemory_23 (by decide) ?_
  refine lv_idiv hx hb d_C_accessMemory_24 (by decide) ?_
  have hi2 : (bl (v (68 + 3 * i + 1) (b)) 31) / 4 < 8 := by omega
  refine wa hx hb hW 4 (by omega) mk_pages 4 rfl ((bl (v (68 + 3 * i + 1) (b)) 31) / 4) (ni_div (fmod32 _) rfl (by omega) (by decide) (by decide)) (by omega) (by decide) (if_pos hi2) d_C_accessMemory_25 ?_
  refine lv_aload_n hx hb d_C_accessMemory_26 rfl (lv_at hl 3 rfl) ?_
  refine wg hx hb hts i_Proc hown hW (68 + 3 * i) (by omega) mk_proc rfl 4 (by decide) (hts _ kf_C_88) rfl d_C_accessMemory_27 ?_
  obtain ⟨e3, b3⟩ := hO.place hi
  refine wcv hW hA (va_runV (As := [.ref (ad (28 + 5 * ((bl (v (68 + 3 * i + 1) (b)) 31) / 4))), .int (v (68 + 3 * i) 4)]) (rest := []) ⟨hx, hb, hml, hown, hts⟩ (c_C_usePage l ((bl (v (68 + 3 * i + 1) (b)) 31) / 4) hi2 (v (68 + 3 * i) 4) (nv v (68 + 3 * i) 4) e3 (by omega) hO _) (cv 2 hts kc_C_usePage ki_C_usePage ke_C_usePage kn_C km_C_207 kh_C_usePage rfl rfl ⟨by decide, by decide⟩) (preW hW rfl rfl (mw_get (by omega) mk_root)) rfl rfl hl.1 rfl (lv_room (Nat.le_of_ble_eq_true rfl)) d_C_accessMemory_30 ⟨by decide, by decide⟩) (fun uu4 H locs hp4 hW => ?_)
  have hW : Wd D classes (tysA g) s A (wC g ad np (cUse v ((bl (v (68 + 3 * i + 1) (b)) 31) / 4) (nv v (68 + 3 * i) 4))) H locs := hW
  obtain ⟨v5, ev5⟩ : ∃ z : Vs, z = cUse v ((bl (v (68 + 3 * i + 1) (b)) 31) / 4) (nv v (68 + 3 * i) 4) := ⟨_, rfl⟩
  rw [← ev5] at hW
  have hO5 : Ok np v5 := by rw [ev5]; exact hO.use hi2
  refine lv_iload_n hx hb d_C_accessMemory_33 rfl (lv_at hl 4 rfl) ?_
  refine lv_iconst (v := 2) hx hb d_C_accessMemory_34 (by decide) ?_
  refine lv_icmp_ne (tgt := 52) hx hb d_C_accessMemory_35 (by decide) (fun c_35 => ?_) (fun c_35 => ?_)
  · refine lv_iload_n hx hb d_C_accessMemory_52 rfl (lv_at hl 4 rfl) ?_
    refine lv_iconst (v := 3) hx hb d_C_accessMemory_53 (by decide) ?_
    refine lv_icmp_ne (tgt := 71) hx hb d_C_accessMemory_54 (by decide) (fun c_54 => ?_) (fun c_54 => ?_)
    · refine lv_aload_n hx hb d_C_accessMemory_71 rfl (lv_at hl 2 rfl) ?_
      refine wg hx hb hts i_C hown hW (0) (by omega) mk_root rfl 4 (by decide) (hts _ kf_C_33) rfl d_C_accessMemory_72 ?_
      refine lv_iload hx hb d_C_accessMemory_75 (lv_at hl 0 rfl) ?_
      refine wi hx hb hW (5) (by omega) mk_memory 0 rfl (bl (v (68 + 3 * i + 1) (b)) 31) (fmod32 _) (by omega) (by decide) d_C_accessMemory_77 ?_
      refine lv_aload hx hb d_C_accessMemory_78 (lv_at hl 1 rfl) ?_
      refine lv_iconst (v := 3) hx hb d_C_accessMemory_80 (by decide) ?_
      refine wi hx hb hW (68 + 3 * i + 1) (by omega) mk_regs 0 rfl (3) rfl (by omega) (by decide) d_C_accessMemory_81 ?_
      refine lv_icmp_ne (tgt := 104) hx hb d_C_accessMemory_82 (by decide) (fun c_82 => ?_) (fun c_82 => ?_)
      · refine lv_aload hx hb d_C_accessMemory_104 (lv_at hl 1 rfl) ?_
        refine lv_iconst (v := 3) hx hb d_C_accessMemory_106 (by decide) ?_
        refine lv_iconst (v := 0) hx hb d_C_accessMemory_107 (by decide) ?_
        refine wis hx hb hW (68 + 3 * i + 1) (by omega) mk_regs 0 rfl (3) rfl (by omega) (by decide) (x := 0) mk_regs d_C_accessMemory_108 (fun H locs hW => ?_)
        obtain ⟨v6, ev6⟩ : ∃ z : Vs, z = u2 v5 (68 + 3 * i + 1) (3) (0) := ⟨_, rfl⟩
        rw [← ev6] at hW
        have hO6 : Ok np v6 := by rw [ev6]; exact hO5.set (by omega) (okS_free (by omega))
        have hfin : cAcc v i op a b = v6 := by
          subst ev6 ev5
          simp only [cAcc, if_neg c_35, if_neg c_54, if_neg c_82]
        exact hret () _ _ _ _ _ _ trivial (by show Wd D classes (tysA g) s A (wC g ad np (cAcc v i op a b)) _ _; rw [hfin]; exact hW) (by decide) (by decide) d_C_accessMemory_109
      · refine lv_aload_n hx hb d_C_accessMemory_85 rfl (lv_at hl 2 rfl) ?_
        refine wg hx hb hts i_C hown hW (0) (by omega) mk_root rfl 4 (by decide) (hts _ kf_C_33) rfl d_C_accessMemory_86 ?_
        refine lv_iload hx hb d_C_accessMemory_89 (lv_at hl 0 rfl) ?_
        refine lv_aload hx hb d_C_accessMemory_91 (lv_at hl 1 rfl) ?_
        refine lv_iload_n hx hb d_C_accessMemory_93 rfl (lv_at hl 5 rfl) ?_
        refine wi hx hb hW (68 + 3 * i + 1) (by omega) mk_regs 0 rfl (a) zy (by omega) (by decide) d_C_accessMemory_94 ?_
        refine wis hx hb hW (5) (by omega) mk_memory 0 rfl (bl (v (68 + 3 * i + 1) (b)) 31) (fmod32 _) (by omega) (by decide) (x := v5 (68 + 3 * i + 1) (a)) mk_memory d_C_accessMemory_95 (fun H locs hW => ?_)
        obtain ⟨v7, ev7⟩ : ∃ z : Vs, z = u2 v5 (5) (bl (v (68 + 3 * i + 1) (b)) 31) (v5 (68 + 3 * i + 1) (a)) := ⟨_, rfl⟩
        rw [← ev7] at hW
        have hO7 : Ok np v7 := by rw [ev7]; exact hO5.set (by omega) (okS_free (by omega))
        refine lv_aload hx hb d_C_accessMemory_96 (lv_at hl 1 rfl) ?_
        refine lv_iconst (v := 3) hx hb d_C_accessMemory_98 (by decide) ?_
        refine lv_iconst (v := 1) hx hb d_C_accessMemory_99 (by decide) ?_
        refine wis hx hb hW (68 + 3 * i + 1) (by omega) mk_regs 0 rfl (3) rfl (by omega) (by decide) (x := 1) mk_regs d_C_accessMemory_100 (fun H locs hW => ?_)
        obtain ⟨v8, ev8⟩ : ∃ z : Vs, z = u2 v7 (68 + 3 * i + 1) (3) (1) := ⟨_, rfl⟩
        rw [← ev8] at hW
        have hO8 : Ok np v8 := by rw [ev8]; exact hO7.set (by omega) (okS_free (by omega))
        refine lv_goto (tgt := 109) hx hb d_C_accessMemory_101 (by decide) ?_
        have hfin : cAcc v i op a b = v8 := by
          subst ev8 ev7 ev5
          simp only [cAcc, if_neg c_35, if_neg c_54, if_pos c_82]
        exact hret () _ _ _ _ _ _ trivial (by show Wd D classes (tysA g) s A (wC g ad np (cAcc v i op a b)) _ _; rw [hfin]; exact hW) (by decide) (by decide) d_C_accessMemory_109
    · refine lv_aload_n hx hb d_C_accessMemory_57 rfl (lv_at hl 2 rfl) ?_
      refine wg hx hb hts i_C hown hW (0) (by omega) mk_root rfl 4 (by decide) (hts _ kf_C_33) rfl d_C_accessMemory_58 ?_
      refine lv_iload hx hb d_C_accessMemory_61 (lv_at hl 0 rfl) ?_
      refine lv_aload hx hb d_C_accessMemory_63 (lv_at hl 1 rfl) ?_
      refine lv_iload_n hx hb d_C_accessMemory_65 rfl (lv_at hl 5 rfl) ?_
      refine wi hx hb hW (68 + 3 * i + 1) (by omega) mk_regs 0 rfl (a) zy (by omega) (by decide) d_C_accessMemory_66 ?_
      refine wis hx hb hW (5) (by omega) mk_memory 0 rfl (bl (v (68 + 3 * i + 1) (b)) 31) (fmod32 _) (by omega) (by decide) (x := v5 (68 + 3 * i + 1) (a)) mk_memory d_C_accessMemory_67 (fun H locs hW => ?_)
      obtain ⟨v9, ev9⟩ : ∃ z : Vs, z = u2 v5 (5) (bl (v (68 + 3 * i + 1) (b)) 31) (v5 (68 + 3 * i + 1) (a)) := ⟨_, rfl⟩
      rw [← ev9] at hW
      have hO9 : Ok np v9 := by rw [ev9]; exact hO5.set (by omega) (okS_free (by omega))
      refine lv_goto (tgt := 109) hx hb d_C_accessMemory_68 (by decide) ?_
      have hfin : cAcc v i op a b = v9 := by
        subst ev9 ev5
        simp only [cAcc, if_neg c_35, if_pos c_54]
      exact hret () _ _ _ _ _ _ trivial (by show Wd D classes (tysA g) s A (wC g ad np (cAcc v i op a b)) _ _; rw [hfin]; exact hW) (by decide) (by decide) d_C_accessMemory_109
  · refine lv_aload hx hb d_C_accessMemory_38 (lv_at hl 1 rfl) ?_
    refine lv_iload_n hx hb d_C_accessMemory_40 rfl (lv_at hl 5 rfl) ?_
    refine lv_aload_n hx hb d_C_accessMemory_41 rfl (lv_at hl 2 rfl) ?_
    refine wg hx hb hts i_C hown hW (0) (by omega) mk_root rfl 4 (by decide) (hts _ kf_C_33) rfl d_C_accessMemory_42 ?_
    refine lv_iload hx hb d_C_accessMemory_45 (lv_at hl 0 rfl) ?_
    refine wi hx hb hW (5) (by omega) mk_memory 0 rfl (bl (v (68 + 3 * i + 1) (b)) 31) (fmod32 _) (by omega) (by decide) d_C_accessMemory_47 ?_
    refine wis hx hb hW (68 + 3 * i + 1) (by omega) mk_regs 0 rfl (a) zy (by omega) (by decide) (x := v5 (5) (bl (v (68 + 3 * i + 1) (b)) 31)) mk_regs d_C_accessMemory_48 (fun H locs hW => ?_)
    obtain ⟨v10, ev10⟩ : ∃ z : Vs, z = u2 v5 (68 + 3 * i + 1) (a) (v5 (5) (bl (v (68 + 3 * i + 1) (b)) 31)) := ⟨_, rfl⟩
    rw [← ev10] at hW
    have hO10 : Ok np v10 := by rw [ev10]; exact hO5.set (by omega) (okS_free (by omega))
    refine lv_goto (tgt := 109) hx hb d_C_accessMemory_49 (by decide) ?_
    have hfin : cAcc v i op a b = v10 := by
      subst ev10 ev5
      simp only [cAcc, if_pos c_35]
    exact hret () _ _ _ _ _ _ trivial (by show Wd D classes (tysA g) s A (wC g ad np (cAcc v i op a b)) _ _; rw [hfin]; exact hW) (by decide) (by decide) d_C_accessMemory_109
abbrev rm_Page_lowestWithRight : Room := { frames := 0, cells := 0, slots := 0, locals := 0 }
set_option maxHeartbeats 4000000 in
set_option maxRecDepth 100000 in
theorem c_Page_lowestWithRight (l : Launch) {D : va_G} {g : Nat → ClassId} {ad : Nat → Nat} {np : Nat} {v : Vs} (j : Nat) (hj : j < 8) (hO : Ok np v) : MtI l y_Page_lowestWithRight ws_Page_lowestWithRight rm_Page_lowestWithRight D classes (tysA g) [.ref (ad (28 + 5 * j))] (wC g ad np (v)) (fun (rr : Int32) (_ : Unit) => rr = cLow v j) (fun _ => wC g ad np (v)) 0 0 := by
  refine mt_i (ty := .int) (fun _ _ _ => rfl) (by decide +kernel) rfl (Nat.le_of_ble_eq_true rfl) (fun p e s m args below meth c Q A C hA hW hret ls hl => ?_)
  obtain ⟨hx, hb, hr, hml, hown, hts0, hlocks⟩ := C
  have hts : ∀ w ∈ bigw, w.before args s = true := fun w h => hts0 w (List.mem_cons_of_mem _ h)
  have hown : s.vm.findClass R_Page = some m.cls := hown
  have hnp := hO.le
  have hl : lv_has ls 2 [(0, .ref (ad (28 + 5 * j)))] := hl
  refine lv_iconst (v := 0) hx hb d_Page_lowestWithRight_0 (by decide) ?_
  refine lv_istore_n (lv' := [(1, .int (0)), (0, .ref (ad (28 + 5 * j)))]) hx hb d_Page_lowestWithRight_1 rfl hl (by decide) rfl (fun ls hl => ?_)
  have loop : ∀ (r : Nat) (t : Nat) (H : Heap) (locs : List Loc) (ls : Array Slot), 3 = t + r → cLowL v j r t = cLow v j → Wd D classes (tysA g) s A (wC g ad np (v)) H locs → lv_has ls 2 [(0, .ref (ad (28 + 5 * j))), (1, .int (nI (t)))] → W p l e rm_Page_lowestWithRight s m args below meth c H locs 0 0 Q (F0 m 2 ls []) := by
    intro r
    induction r with
    | zero =>
      intro t H locs ls h3 hT hW hl
      refine lv_iload_n hx hb d_Page_lowestWithRight_2 rfl (lv_at hl 1 rfl) ?_
      refine lv_iconst (v := 3) hx hb d_Page_lowestWithRight_3 (by decide) ?_
      refine lv_icmp_ge (tgt := 24) hx hb d_Page_lowestWithRight_4 (by decide) (fun c_4 => ?_) (fun c_4 => ?_)
      · have nc_4 : 3 ≤ t := ni_le rfl rfl (by omega) (by omega) c_4
        refine lv_iconst (v := 3) hx hb d_Page_lowestWithRight_24 (by decide) ?_
        exact hret _ () _ _ _ _ _ _ (show (3 : Int32) = cLow v j by rw [← hT]; rfl) hW (by decide) (by decide) d_Page_lowestWithRight_25
      · have nc_4 : t < 3 := ni_nle rfl rfl (by omega) (by omega) c_4
        exfalso; omega
    | succ r ih =>
      intro t H locs ls h3 hT hW hl
      refine lv_iload_n hx hb d_Page_lowestWithRight_2 rfl (lv_at hl 1 rfl) ?_
      refine lv_iconst (v := 3) hx hb d_Page_lowestWithRight_3 (by decide) ?_
      refine lv_icmp_ge (tgt := 24) hx hb d_Page_lowestWithRight_4 (by decide) (fun c_4 => ?_) (fun c_4 => ?_)
      · have nc_4 : 3 ≤ t := ni_le rfl rfl (by omega) (by omega) c_4
        exfalso; omega
      · have nc_4 : t < 3 := ni_nle rfl rfl (by omega) (by omega) c_4
        refine lv_aload_n hx hb d_Page_lowestWithRight_7 rfl (lv_at hl 0 rfl) ?_
        refine wg hx hb hts i_Page hown hW (28 + 5 * j) (by omega) (mk_page hj) rfl 0 (by decide) (hts _ kf_Page_9) rfl d_Page_lowestWithRight_8 ?_
        refine lv_iload_n hx hb d_Page_lowestWithRight_11 rfl (lv_at hl 1 rfl) ?_
        refine wi hx hb hW (28 + 5 * j + 1) (by omega) (mk_rights hj) 0 rfl (t) rfl (by omega) (by decide) d_Page_lowestWithRight_12 ?_
        refine lv_if_eq (tgt := 18) hx hb d_Page_lowestWithRight_13 (by decide) (fun c_13 => ?_) (fun c_13 => ?_)
        · refine lv_iinc (v := nI (t + 1)) (lv' := [(1, .int (nI (t + 1))), (0, .ref (ad (28 + 5 * j)))]) hx hb d_Page_lowestWithRight_18 hl (k := 1) rfl (nI_1 _) (by decide) rfl (fun ls hl => ?_)
          refine lv_goto (tgt := 2) hx hb d_Page_lowestWithRight_21 (by decide) ?_
          refine ih (t + 1) _ _ _ (by omega) ?_ hW (lv_sub hl [1, 0] rfl)
          rw [← hT, cLowL, if_pos c_13]
        · refine lv_iload_n hx hb d_Page_lowestWithRight_16 rfl (lv_at hl 1 rfl) ?_
          exact hret _ () _ _ _ _ _ _ (show nI t = cLow v j by rw [← hT, cLowL, if_neg c_13]) hW (by decide) (by decide) d_Page_lowestWithRight_17
  exact loop 3 0 _ _ _ rfl rfl hW (lv_sub hl [1, 0] rfl)
abbrev rm_C_giveUp : Room := { frames := 1, cells := 0, slots := 0, locals := 21 }
set_option maxHeartbeats 4000000 in
set_option maxRecDepth 100000 in
theorem c_C_giveUp (l : Launch) {D : va_G} {g : Nat → ClassId} {ad : Nat → Nat} {np : Nat} {v : Vs} (j : Nat) (hj : j < 8) (x : Int32) (n : Nat) (zx : x = nI n) (ln : n < 3) (hO : Ok np v) : MtV l y_C_giveUp ws_C_giveUp rm_C_giveUp D classes (tysA g) [.ref (ad (0)), .ref (ad (28 + 5 * j)), .int (x)] (wC g ad np (v)) (fun _ : Unit => True) (fun _ => wC g ad np (cGive v j x n)) 0 0 := by
  refine mt_v (by decide +kernel) rfl (Nat.le_of_ble_eq_true rfl) (fun p e s m args below meth c Q A C hnm hA hW hret ls hl => ?_)
  obtain ⟨hx, hb, hr, hml, hown, hts0, hlocks⟩ := C
  have hts : ∀ w ∈ bigw, w.before args s = true := fun w h => hts0 w (List.mem_cons_of_mem _ h)
  have hown : s.vm.findClass R_C = some m.cls := hown
  have hnp := hO.le
  have hl : lv_has ls 3 [(0, .ref (ad (0))), (1, .ref (ad (28 + 5 * j))), (2, .int (x))] := hl
  refine lv_aload_n hx hb d_C_giveUp_0 rfl (lv_at hl 0 rfl) ?_
  refine lv_dup hx hb d_C_giveUp_1 rfl ?_
  refine wg hx hb hts i_C hown hW (0) (by omega) mk_root rfl 9 (by decide) (hts _ kf_C_130) rfl d_C_giveUp_2 ?_
  refine lv_iconst (v := 1) hx hb d_C_giveUp_5 (by decide) ?_
  refine lv_iadd hx hb d_C_giveUp_6 ?_
  refine wp hx hb hts i_C t_C t_C_ok n_C hown hW (0) (by omega) mk_root rfl 9 (by decide) (hts _ kf_C_130) rfl (by decide +kernel) (x := (v 0 9) + (1)) (Nat.le_of_ble_eq_true rfl) (mk_root.trans rfl) d_C_giveUp_7 (fun H locs hW => ?_)
  obtain ⟨v1, ev1⟩ : ∃ z : Vs, z = u2 v (0) 9 ((v 0 9) + (1)) := ⟨_, rfl⟩
  rw [← ev1] at hW
  have hO1 : Ok np v1 := by rw [ev1]; exact hO.set (by omega) (okS_free (by omega))
  refine lv_aload_n hx hb d_C_giveUp_10 rfl (lv_at hl 1 rfl) ?_
  refine wg hx hb hts i_Page hown hW (28 + 5 * j) (by omega) (mk_page hj) rfl 0 (by decide) (hts _ kf_C_118) rfl d_C_giveUp_11 ?_
  refine lv_iload_n hx hb d_C_giveUp_14 rfl (lv_at hl 2 rfl) ?_
  refine lv_iconst (v := 0) hx hb d_C_giveUp_15 (by decide) ?_
  refine wis hx hb hW (28 + 5 * j + 1) (by omega) (mk_rights hj) 0 rfl (n) zx (by omega) (by decide) (x := 0) (mk_rights hj) d_C_giveUp_16 (fun H locs hW => ?_)
  obtain ⟨v2, ev2⟩ : ∃ z : Vs, z = u2 v1 (28 + 5 * j + 1) (n) (0) := ⟨_, rfl⟩
  rw [← ev2] at hW
  have hO2 : Ok np v2 := by rw [ev2]; exact hO1.set (by omega) (okS_free (by omega))
  refine lv_aload_n hx hb d_C_giveUp_17 rfl (lv_at hl 1 rfl) ?_
  refine wg hx hb hts i_Page hown hW (28 + 5 * j) (by omega) (mk_page hj) rfl 3 (by decide) (hts _ kf_C_121) rfl d_C_giveUp_18 ?_
  refine lv_iload_n hx hb d_C_giveUp_21 rfl (lv_at hl 2 rfl) ?_
  refine lv_icmp_ne (tgt := 55) hx hb d_C_giveUp_22 (by decide) (fun c_22 => ?_) (fun c_22 => ?_)
  · have hfin : cGive v j x n = v2 := by
      subst ev2 ev1
      simp only [cGive, if_neg c_22]
    exact hret () _ _ _ _ _ _ trivial (by show Wd D classes (tysA g) s A (wC g ad np (cGive v j x n)) _ _; rw [hfin]; exact hW) (by decide) (by decide) d_C_giveUp_55
  · refine lv_aload_n hx hb d_C_giveUp_25 rfl (lv_at hl 1 rfl) ?_
    refine lv_aload_n hx hb d_C_giveUp_26 rfl (lv_at hl 1 rfl) ?_
    refine wci hW hA (va_runV (As := []) (rest := [.ref (ad (28 + 5 * j))]) ⟨hx, hb, hml, hown, hts⟩ (c_Page_lowestWithRight l j hj hO2 _) (cv 0 hts kc_Page_lowestWithRight ki_Page_lowestWithRight ke_Page_lowestWithRight kn_Page km_C_233 kh_Page_lowestWithRight rfl rfl ⟨by decide, by decide⟩) (preW hW rfl rfl (mw_get (by omega) (mk_page hj))) rfl rfl hl.1 rfl (lv_room (Nat.le_of_ble_eq_true rfl)) d_C_giveUp_27 ⟨by decide, by decide⟩) (fun rr3 uu3 H locs hp3 hW => ?_)
    have hW : Wd D classes (tysA g) s A (wC g ad np (v2)) H locs := hW
    have hp3 : rr3 = cLow v2 j := hp3
    subst hp3
    refine wp hx hb hts i_Page t_Page t_Page_ok n_Page hown hW (28 + 5 * j) (by omega) (mk_page hj) rfl 3 (by decide) (hts _ kf_C_121) rfl (by decide +kernel) (x := cLow v2 j) (Nat.le_of_ble_eq_true rfl) ((mk_page hj).trans rfl) d_C_giveUp_30 (fun H locs hW => ?_)
    obtain ⟨v4, ev4⟩ : ∃ z : Vs, z = u2 v2 (28 + 5 * j) 3 (cLow v2 j) := ⟨_, rfl⟩
    rw [← ev4] at hW
    have hO4 : Ok np v4 := by rw [ev4]; exact hO2.set (by omega) (okS_free (by omega))
    refine lv_aload_n hx hb d_C_giveUp_33 rfl (lv_at hl 0 rfl) ?_
    refine lv_dup hx hb d_C_giveUp_34 rfl ?_
    refine wg hx hb hts i_C hown hW (0) (by omega) mk_root rfl 7 (by decide) (hts _ kf_C_124) rfl d_C_giveUp_35 ?_
    refine lv_aload_n hx hb d_C_giveUp_38 rfl (lv_at hl 1 rfl) ?_
    refine wg hx hb hts i_Page hown hW (28 + 5 * j) (by omega) (mk_page hj) rfl 3 (by decide) (hts _ kf_C_121) rfl d_C_giveUp_39 ?_
    refine lv_iconst (v := 3) hx hb d_C_giveUp_42 (by decide) ?_
    refine lv_icmp_ne (tgt := 50) hx hb d_C_giveUp_43 (by decide) (fun c_43 => ?_) (fun c_43 => ?_)
    · refine lv_iconst (v := 0) hx hb d_C_giveUp_50 (by decide) ?_
      refine lv_iadd hx hb d_C_giveUp_51 ?_
      refine wp hx hb hts i_C t_C t_C_ok n_C hown hW (0) (by omega) mk_root rfl 7 (by decide) (hts _ kf_C_124) rfl (by decide +kernel) (x := (v4 0 7) + (0)) (Nat.le_of_ble_eq_true rfl) (mk_root.trans rfl) d_C_giveUp_52 (fun H locs hW => ?_)
      obtain ⟨v5, ev5⟩ : ∃ z : Vs, z = u2 v4 (0) 7 ((v4 0 7) + (0)) := ⟨_, rfl⟩
      rw [← ev5] at hW
      have hO5 : Ok np v5 := by rw [ev5]; exact hO4.set (by omega) (okS_free (by omega))
      have hfin : cGive v j x n = v5 := by
        subst ev5 ev4 ev2 ev1
        simp only [cGive, if_pos c_22, if_neg c_43]
      exact hret () _ _ _ _ _ _ trivial (by show Wd D classes (tysA g) s A (wC g ad np (cGive v j x n)) _ _; rw [hfin]; exact hW) (by decide) (by decide) d_C_giveUp_55
    · refine lv_iconst (v := 1) hx hb d_C_giveUp_46 (by decide) ?_
      refine lv_goto (tgt := 51) hx hb d_C_giveUp_47 (by decide) ?_
      refine lv_iadd hx hb d_C_giveUp_51 ?_
      refine wp hx hb hts i_C t_C t_C_ok n_C hown hW (0) (by omega) mk_root rfl 7 (by decide) (hts _ kf_C_124) rfl (by decide +kernel) (x := (v4 0 7) + (1)) (Nat.le_of_ble_eq_true rfl) (mk_root.trans rfl) d_C_giveUp_52 (fun H locs hW => ?_)
      obtain ⟨v6, ev6⟩ : ∃ z : Vs, z = u2 v4 (0) 7 ((v4 0 7) + (1)) := ⟨_, rfl⟩
      rw [← ev6] at hW
      have hO6 : Ok np v6 := by rw [ev6]; exact hO4.set (by omega) (okS_free (by omega))
      have hfin : cGive v j x n = v6 := by
        subst ev6 ev4 ev2 ev1
        simp only [cGive, if_pos c_22, if_pos c_43]
      exact hret () _ _ _ _ _ _ trivial (by show Wd D classes (tysA g) s A (wC g ad np (cGive v j x n)) _ _; rw [hfin]; exact hW) (by decide) (by decide) d_C_giveUp_55
abbrev rm_Page_giveWrite : Room := { frames := 0, cells := 0, slots := 0, locals := 0 }
set_option maxHeartbeats 4000000 in
set_option maxRecDepth 100000 in
theorem c_Page_giveWrite (l : Launch) {D : va_G} {g : Nat → ClassId} {ad : Nat → Nat} {np : Nat} {v : Vs} (j : Nat) (hj : j < 8) (x : Int32) (n : Nat) (zx : x = nI n) (ln : n < 3) (hO : Ok np v) : MtI l y_Page_giveWrite ws_Page_giveWrite rm_Page_giveWrite D classes (tysA g) [.ref (ad (28 + 5 * j)), .int (x)] (wC g ad np (v)) (fun (rr : Int32) (_ : Unit) => rr = (cGW v j x n).1) (fun _ => wC g ad np ((cGW v j x n).2)) 0 0 := by
  refine mt_i (ty := .int) (fun _ _ _ => rfl) (by decide +kernel) rfl (Nat.le_of_ble_eq_true rfl) (fun p e s m args below meth c Q A C hA hW hret ls hl => ?_)
  obtain ⟨hx, hb, hr, hml, hown, hts0, hlocks⟩ := C
  have hts : ∀ w ∈ bigw, w.before args s = true := fun w h => hts0 w (List.mem_cons_of_mem _ h)
  have hown : s.vm.findClass R_Page = some m.cls := hown
  have hnp := hO.le
  have hl : lv_has ls 4 [(0, .ref (ad (28 + 5 * j))), (1, .int (x))] := hl
  refine lv_iconst (v := 0) hx hb d_Page_giveWrite_0 (by decide) ?_
  refine lv_istore_n (lv' := [(2, .int (0)), (0, .ref (ad (28 + 5 * j))), (1, .int (x))]) hx hb d_Page_giveWrite_1 rfl hl (by decide) rfl (fun ls hl => ?_)
  refine lv_iconst (v := 0) hx hb d_Page_giveWrite_2 (by decide) ?_
  refine lv_istore_n (lv' := [(3, .int (0)), (2, .int (0)), (0, .ref (ad (28 + 5 * j))), (1, .int (x))]) hx hb d_Page_giveWrite_3 rfl hl (by decide) rfl (fun ls hl => ?_)
  have loop : ∀ (r : Nat) (t : Nat) (lost : Int32) (vc : Vs) (H : Heap) (locs : List Loc) (ls : Array Slot), Ok np vc → 3 = t + r → cGWL j x r t lost vc = cGWL j x 3 0 0 v → Wd D classes (tysA g) s A (wC g ad np (vc)) H locs → lv_has ls 4 [(0, .ref (ad (28 + 5 * j))), (1, .int (x)), (2, .int (lost)), (3, .int (nI (t)))] → W p l e rm_Page_giveWrite s m args below meth c H locs 0 0 Q (F0 m 4 ls []) := by
    intro r
    induction r with
    | zero =>
      intro t lost vc H locs ls hOc h3 hT hW hl
      refine lv_iload_n hx hb d_Page_giveWrite_4 rfl (lv_at hl 3 rfl) ?_
      refine lv_iconst (v := 3) hx hb d_Page_giveWrite_5 (by decide) ?_
      refine lv_icmp_ge (tgt := 39) hx hb d_Page_giveWrite_6 (by decide) (fun c_6 => ?_) (fun c_6 => ?_)
      · have nc_6 : 3 ≤ t := ni_le rfl rfl (by omega) (by omega) c_6
        refine lv_aload_n hx hb d_Page_giveWrite_39 rfl (lv_at hl 0 rfl) ?_
        refine wg hx hb hts i_Page hown hW (28 + 5 * j) (by omega) (mk_page hj) rfl 0 (by decide) (hts _ kf_Page_9) rfl d_Page_giveWrite_40 ?_
        refine lv_iload_n hx hb d_Page_giveWrite_43 rfl (lv_at hl 1 rfl) ?_
        refine lv_iconst (v := 2) hx hb d_Page_giveWrite_44 (by decide) ?_
        refine wis hx hb hW (28 + 5 * j + 1) (by omega) (mk_rights hj) 0 rfl (n) zx (by omega) (by decide) (x := 2) (mk_rights hj) d_Page_giveWrite_45 (fun H locs hW => ?_)
        obtain ⟨v1, ev1⟩ : ∃ z : Vs, z = u2 vc (28 + 5 * j + 1) (n) (2) := ⟨_, rfl⟩
        rw [← ev1] at hW
        have hO1 : Ok np v1 := by rw [ev1]; exact hOc.set (by omega) (okS_free (by omega))
        refine lv_aload_n hx hb d_Page_giveWrite_46 rfl (lv_at hl 0 rfl) ?_
        refine lv_iload_n hx hb d_Page_giveWrite_47 rfl (lv_at hl 1 rfl) ?_
        refine wp hx hb hts i_Page t_Page t_Page_ok n_Page hown hW (28 + 5 * j) (by omega) (mk_page hj) rfl 3 (by decide) (hts _ kf_Page_25) rfl (by decide +kernel) (x := x) (Nat.le_of_ble_eq_true rfl) ((mk_page hj).trans rfl) d_Page_giveWrite_48 (fun H locs hW => ?_)
        obtain ⟨v2, ev2⟩ : ∃ z : Vs, z = u2 v1 (28 + 5 * j) 3 (x) := ⟨_, rfl⟩
        rw [← ev2] at hW
        have hO2 : Ok np v2 := by rw [ev2]; exact hO1.set (by omega) (okS_free (by omega))
        refine lv_iload_n hx hb d_Page_giveWrite_51 rfl (lv_at hl 2 rfl) ?_
        have hfin : (cGW v j x n).2 = v2 := by
          unfold cGW; rw [← hT]; subst ev2 ev1; rfl
        exact hret _ () _ _ _ _ _ _ (show lost = (cGW v j x n).1 by unfold cGW; rw [← hT]; rfl) (by show Wd D classes (tysA g) s A (wC g ad np ((cGW v j x n).2)) _ _; rw [hfin]; exact hW) (by decide) (by decide) d_Page_giveWrite_52
      · have nc_6 : t < 3 := ni_nle rfl rfl (by omega) (by omega) c_6
        exfalso; omega
    | succ r ih =>
      intro t lost vc H locs ls hOc h3 hT hW hl
      refine lv_iload_n hx hb d_Page_giveWrite_4 rfl (lv_at hl 3 rfl) ?_
      refine lv_iconst (v := 3) hx hb d_Page_giveWrite_5 (by decide) ?_
      refine lv_icmp_ge (tgt := 39) hx hb d_Page_giveWrite_6 (by decide) (fun c_6 => ?_) (fun c_6 => ?_)
      · have nc_6 : 3 ≤ t := ni_le rfl rfl (by omega) (by omega) c_6
        exfalso; omega
      · have nc_6 : t < 3 := ni_nle rfl rfl (by omega) (by omega) c_6
        refine lv_iload_n hx hb d_Page_giveWrite_9 rfl (lv_at hl 3 rfl) ?_
        refine lv_iload_n hx hb d_Page_giveWrite_10 rfl (lv_at hl 1 rfl) ?_
        refine lv_icmp_eq (tgt := 33) hx hb d_Page_giveWrite_11 (by decide) (fun c_11 => ?_) (fun c_11 => ?_)
        · have nc_11 : t = n := ni_eq rfl zx (by omega) (by omega) c_11
          refine lv_iinc (v := nI (t + 1)) (lv' := [(3, .int (nI (t + 1))), (0, .ref (ad (28 + 5 * j))), (1, .int (x)), (2, .int (lost))]) hx hb d_Page_giveWrite_33 hl (k := 3) rfl (nI_1 _) (by decide) rfl (fun ls hl => ?_)
          refine lv_goto (tgt := 4) hx hb d_Page_giveWrite_36 (by decide) ?_
          refine ih (t + 1) (lost) vc _ _ _ hOc (by omega) ?_ hW (lv_sub hl [1, 2, 3, 0] rfl)
          rw [← hT, cGWL]; skip; simp only [if_pos c_11]
        · have nc_11 : ¬ t = n := ni_ne rfl zx (by omega) (by omega) c_11
          refine lv_aload_n hx hb d_Page_giveWrite_14 rfl (lv_at hl 0 rfl) ?_
          refine wg hx hb hts i_Page hown hW (28 + 5 * j) (by omega) (mk_page hj) rfl 0 (by decide) (hts _ kf_Page_9) rfl d_Page_giveWrite_15 ?_
          refine lv_iload_n hx hb d_Page_giveWrite_18 rfl (lv_at hl 3 rfl) ?_
          refine wi hx hb hW (28 + 5 * j + 1) (by omega) (mk_rights hj) 0 rfl (t) rfl (by omega) (by decide) d_Page_giveWrite_19 ?_
          refine lv_if_eq (tgt := 33) hx hb d_Page_giveWrite_20 (by decide) (fun c_20 => ?_) (fun c_20 => ?_)
          · refine lv_iinc (v := nI (t + 1)) (lv' := [(3, .int (nI (t + 1))), (0, .ref (ad (28 + 5 * j))), (1, .int (x)), (2, .int (lost))]) hx hb d_Page_giveWrite_33 hl (k := 3) rfl (nI_1 _) (by decide) rfl (fun ls hl => ?_)
            refine lv_goto (tgt := 4) hx hb d_Page_giveWrite_36 (by decide) ?_
            refine ih (t + 1) (lost) vc _ _ _ hOc (by omega) ?_ hW (lv_sub hl [1, 2, 3, 0] rfl)
            rw [← hT, cGWL]; skip; simp only [if_neg c_11, if_pos c_20]
          · refine lv_aload_n hx hb d_Page_giveWrite_23 rfl (lv_at hl 0 rfl) ?_
            refine wg hx hb hts i_Page hown hW (28 + 5 * j) (by omega) (mk_page hj) rfl 0 (by decide) (hts _ kf_Page_9) rfl d_Page_giveWrite_24 ?_
            refine lv_iload_n hx hb d_Page_giveWrite_27 rfl (lv_at hl 3 rfl) ?_
            refine lv_iconst (v := 0) hx hb d_Page_giveWrite_28 (by decide) ?_
            refine wis hx hb hW (28 + 5 * j + 1) (by omega) (mk_rights hj) 0 rfl (t) rfl (by omega) (by decide) (x := 0) (mk_rights hj) d_Page_giveWrite_29 (fun H locs hW => ?_)
            obtain ⟨v3, ev3⟩ : ∃ z : Vs, z = u2 vc (28 + 5 * j + 1) (t) (0) := ⟨_, rfl⟩
            rw [← ev3] at hW
            have hO3 : Ok np v3 := by rw [ev3]; exact hOc.set (by omega) (okS_free (by omega))
            refine lv_iinc (v := lost + 1) (lv' := [(2, .int (lost + 1)), (0, .ref (ad (28 + 5 * j))), (1, .int (x)), (3, .int (nI (t)))]) hx hb d_Page_giveWrite_30 hl (k := 2) rfl rfl (by decide) rfl (fun ls hl => ?_)
            refine lv_iinc (v := nI (t + 1)) (lv' := [(3, .int (nI (t + 1))), (2, .int (lost + 1)), (0, .ref (ad (28 + 5 * j))), (1, .int (x))]) hx hb d_Page_giveWrite_33 hl (k := 3) rfl (nI_1 _) (by decide) rfl (fun ls hl => ?_)
            refine lv_goto (tgt := 4) hx hb d_Page_giveWrite_36 (by decide) ?_
            refine ih (t + 1) (lost + 1) v3 _ _ _ hO3 (by omega) ?_ hW (lv_sub hl [2, 3, 1, 0] rfl)
            rw [← hT, cGWL]; subst ev3; simp only [if_neg c_11, if_neg c_20]
  exact loop 3 0 0 v _ _ _ hO rfl rfl hW (lv_sub hl [2, 3, 1, 0] rfl)
abbrev rm_Page_giveRead : Room := { frames := 0, cells := 0, slots := 0, locals := 0 }
set_option maxHeartbeats 4000000 in
set_option maxRecDepth 100000 in
theorem c_Page_giveRead (l : Launch) {D : va_G} {g : Nat → ClassId} {ad : Nat → Nat} {np : Nat} {v : Vs} (j : Nat) (hj : j < 8) (x : Int32) (n : Nat) (zx : x = nI n) (ln : n < 3) (hO : Ok np v) : MtV l y_Page_giveRead ws_Page_giveRead rm_Page_giveRead D classes (tysA g) [.ref (ad (28 + 5 * j)), .int (x)] (wC g ad np (v)) (fun _ : Unit => True) (fun _ => wC g ad np (cGR v j x n)) 0 0 := by
  refine mt_v (by decide +kernel) rfl (Nat.le_of_ble_eq_true rfl) (fun p e s m args below meth c Q A C hnm hA hW hret ls hl => ?_)
  obtain ⟨hx, hb, hr, hml, hown, hts0, hlocks⟩ := C
  have hts : ∀ w ∈ bigw, w.before args s = true := fun w h => hts0 w (List.mem_cons_of_mem _ h)
  have hown : s.vm.findClass R_Page = some m.cls := hown
  have hnp := hO.le
  have hl : lv_has ls 3 [(0, .ref (ad (28 + 5 * j))), (1, .int (x))] := hl
  refine lv_iconst (v := 0) hx hb d_Page_giveRead_0 (by decide) ?_
  refine lv_istore_n (lv' := [(2, .int (0)), (0, .ref (ad (28 + 5 * j))), (1, .int (x))]) hx hb d_Page_giveRead_1 rfl hl (by decide) rfl (fun ls hl => ?_)
  have loop : ∀ (r : Nat) (t : Nat) (vc : Vs) (H : Heap) (locs : List Loc) (ls : Array Slot), Ok np vc → 3 = t + r → cGRL j x r t vc = cGRL j x 3 0 v → Wd D classes (tysA g) s A (wC g ad np (vc)) H locs → lv_has ls 3 [(0, .ref (ad (28 + 5 * j))), (1, .int (x)), (2, .int (nI (t)))] → W p l e rm_Page_giveRead s m args below meth c H locs 0 0 Q (F0 m 2 ls []) := by
    intro r
    induction r with
    | zero =>
      intro t vc H locs ls hOc h3 hT hW hl
      refine lv_iload_n hx hb d_Page_giveRead_2 rfl (lv_at hl 2 rfl) ?_
      refine lv_iconst (v := 3) hx hb d_Page_giveRead_3 (by decide) ?_
      refine lv_icmp_ge (tgt := 35) hx hb d_Page_giveRead_4 (by decide) (fun c_4 => ?_) (fun c_4 => ?_)
      · have nc_4 : 3 ≤ t := ni_le rfl rfl (by omega) (by omega) c_4
        refine lv_aload_n hx hb d_Page_giveRead_35 rfl (lv_at hl 0 rfl) ?_
        refine wg hx hb hts i_Page hown hW (28 + 5 * j) (by omega) (mk_page hj) rfl 0 (by decide) (hts _ kf_Page_9) rfl d_Page_giveRead_36 ?_
        refine lv_iload_n hx hb d_Page_giveRead_39 rfl (lv_at hl 1 rfl) ?_
        refine wi hx hb hW (28 + 5 * j + 1) (by omega) (mk_rights hj) 0 rfl (n) zx (by omega) (by decide) d_Page_giveRead_40 ?_
        refine lv_if_ne (tgt := 51) hx hb d_Page_giveRead_41 (by decide) (fun c_41 => ?_) (fun c_41 => ?_)
        · refine lv_aload_n hx hb d_Page_giveRead_51 rfl (lv_at hl 0 rfl) ?_
          refine wg hx hb hts i_Page hown hW (28 + 5 * j) (by omega) (mk_page hj) rfl 3 (by decide) (hts _ kf_Page_25) rfl d_Page_giveRead_52 ?_
          refine lv_iconst (v := 3) hx hb d_Page_giveRead_55 (by decide) ?_
          refine lv_icmp_ne (tgt := 64) hx hb d_Page_giveRead_56 (by decide) (fun c_56 => ?_) (fun c_56 => ?_)
          · have hfin : cGR v j x n = vc := by
              unfold cGR; rw [← hT]; show cGRE vc j x n = _; skip; simp only [cGRE, if_neg c_41, if_neg c_56]
            exact hret () _ _ _ _ _ _ trivial (by show Wd D classes (tysA g) s A (wC g ad np (cGR v j x n)) _ _; rw [hfin]; exact hW) (by decide) (by decide) d_Page_giveRead_64
          · refine lv_aload_n hx hb d_Page_giveRead_59 rfl (lv_at hl 0 rfl) ?_
            refine lv_iload_n hx hb d_Page_giveRead_60 rfl (lv_at hl 1 rfl) ?_
            refine wp hx hb hts i_Page t_Page t_Page_ok n_Page hown hW (28 + 5 * j) (by omega) (mk_page hj) rfl 3 (by decide) (hts _ kf_Page_25) rfl (by decide +kernel) (x := x) (Nat.le_of_ble_eq_true rfl) ((mk_page hj).trans rfl) d_Page_giveRead_61 (fun H locs hW => ?_)
            obtain ⟨v1, ev1⟩ : ∃ z : Vs, z = u2 vc (28 + 5 * j) 3 (x) := ⟨_, rfl⟩
            rw [← ev1] at hW
            have hO1 : Ok np v1 := by rw [ev1]; exact hOc.set (by omega) (okS_free (by omega))
            have hfin : cGR v j x n = v1 := by
              unfold cGR; rw [← hT]; show cGRE vc j x n = _; subst ev1; simp only [cGRE, if_neg c_41, if_pos c_56]
            exact hret () _ _ _ _ _ _ trivial (by show Wd D classes (tysA g) s A (wC g ad np (cGR v j x n)) _ _; rw [hfin]; exact hW) (by decide) (by decide) d_Page_giveRead_64
        · refine lv_aload_n hx hb d_Page_giveRead_44 rfl (lv_at hl 0 rfl) ?_
          refine wg hx hb hts i_Page hown hW (28 + 5 * j) (by omega) (mk_page hj) rfl 0 (by decide) (hts _ kf_Page_9) rfl d_Page_giveRead_45 ?_
          refine lv_iload_n hx hb d_Page_giveRead_48 rfl (lv_at hl 1 rfl) ?_
          refine lv_iconst (v := 1) hx hb d_Page_giveRead_49 (by decide) ?_
          refine wis hx hb hW (28 + 5 * j + 1) (by omega) (mk_rights hj) 0 rfl (n) zx (by omega) (by decide) (x := 1) (mk_rights hj) d_Page_giveRead_50 (fun H locs hW => ?_)
          obtain ⟨v2, ev2⟩ : ∃ z : Vs, z = u2 vc (28 + 5 * j + 1) (n) (1) := ⟨_, rfl⟩
          rw [← ev2] at hW
          have hO2 : Ok np v2 := by rw [ev2]; exact hOc.set (by omega) (okS_free (by omega))
          refine lv_aload_n hx hb d_Page_giveRead_51 rfl (lv_at hl 0 rfl) ?_
          refine wg hx hb hts i_Page hown hW (28 + 5 * j) (by omega) (mk_page hj) rfl 3 (by decide) (hts _ kf_Page_25) rfl d_Page_giveRead_52 ?_
          refine lv_iconst (v := 3) hx hb d_Page_giveRead_55 (by decide) ?_
          refine lv_icmp_ne (tgt := 64) hx hb d_Page_giveRead_56 (by decide) (fun c_56 => ?_) (fun c_56 => ?_)
          · have hfin : cGR v j x n = v2 := by
              unfold cGR; rw [← hT]; show cGRE vc j x n = _; subst ev2; simp only [cGRE, if_pos c_41, if_neg c_56]
            exact hret () _ _ _ _ _ _ trivial (by show Wd D classes (tysA g) s A (wC g ad np (cGR v j x n)) _ _; rw [hfin]; exact hW) (by decide) (by decide) d_Page_giveRead_64
          · refine lv_aload_n hx hb d_Page_giveRead_59 rfl (lv_at hl 0 rfl) ?_
            refine lv_iload_n hx hb d_Page_giveRead_60 rfl (lv_at hl 1 rfl) ?_
            refine wp hx hb hts i_Page t_Page t_Page_ok n_Page hown hW (28 + 5 * j) (by omega) (mk_page hj) rfl 3 (by decide) (hts _ kf_Page_25) rfl (by decide +kernel) (x := x) (Nat.le_of_ble_eq_true rfl) ((mk_page hj).trans rfl) d_Page_giveRead_61 (fun H locs hW => ?_)
            obtain ⟨v3, ev3⟩ : ∃ z : Vs, z = u2 v2 (28 + 5 * j) 3 (x) := ⟨_, rfl⟩
            rw [← ev3] at hW
            have hO3 : Ok np v3 := by rw [ev3]; exact hO2.set (by omega) (okS_free (by omega))
            have hfin : cGR v j x n = v3 := by
              unfold cGR; rw [← hT]; show cGRE vc j x n = _; subst ev3 ev2; simp only [cGRE, if_pos c_41, if_pos c_56]
            exact hret () _ _ _ _ _ _ trivial (by show Wd D classes (tysA g) s A (wC g ad np (cGR v j x n)) _ _; rw [hfin]; exact hW) (by decide) (by decide) d_Page_giveRead_64
      · have nc_4 : t < 3 := ni_nle rfl rfl (by omega) (by omega) c_4
        exfalso; omega
    | succ r ih =>
      intro t vc H locs ls hOc h3 hT hW hl
      refine lv_iload_n hx hb d_Page_giveRead_2 rfl (lv_at hl 2 rfl) ?_
      refine lv_iconst (v := 3) hx hb d_Page_giveRead_3 (by decide) ?_
      refine lv_icmp_ge (tgt := 35) hx hb d_Page_giveRead_4 (by decide) (fun c_4 => ?_) (fun c_4 => ?_)
      · have nc_4 : 3 ≤ t := ni_le rfl rfl (by omega) (by omega) c_4
        exfalso; omega
      · have nc_4 : t < 3 := ni_nle rfl rfl (by omega) (by omega) c_4
        refine lv_iload_n hx hb d_Page_giveRead_7 rfl (lv_at hl 2 rfl) ?_
        refine lv_iload_n hx hb d_Page_giveRead_8 rfl (lv_at hl 1 rfl) ?_
        refine lv_icmp_eq (tgt := 29) hx hb d_Page_giveRead_9 (by decide) (fun c_9 => ?_) (fun c_9 => ?_)
        · have nc_9 : t = n := ni_eq rfl zx (by omega) (by omega) c_9
          refine lv_iinc (v := nI (t + 1)) (lv' := [(2, .int (nI (t + 1))), (0, .ref (ad (28 + 5 * j))), (1, .int (x))]) hx hb d_Page_giveRead_29 hl (k := 2) rfl (nI_1 _) (by decide) rfl (fun ls hl => ?_)
          refine lv_goto (tgt := 2) hx hb d_Page_giveRead_32 (by decide) ?_
          refine ih (t + 1) vc _ _ _ hOc (by omega) ?_ hW (lv_sub hl [1, 2, 0] rfl)
          rw [← hT, cGRL]; skip; simp only [if_pos c_9]
        · have nc_9 : ¬ t = n := ni_ne rfl zx (by omega) (by omega) c_9
          refine lv_aload_n hx hb d_Page_giveRead_12 rfl (lv_at hl 0 rfl) ?_
          refine wg hx hb hts i_Page hown hW (28 + 5 * j) (by omega) (mk_page hj) rfl 0 (by decide) (hts _ kf_Page_9) rfl d_Page_giveRead_13 ?_
          refine lv_iload_n hx hb d_Page_giveRead_16 rfl (lv_at hl 2 rfl) ?_
          refine wi hx hb hW (28 + 5 * j + 1) (by omega) (mk_rights hj) 0 rfl (t) rfl (by omega) (by decide) d_Page_giveRead_17 ?_
          refine lv_iconst (v := 2) hx hb d_Page_giveRead_18 (by decide) ?_
          refine lv_icmp_ne (tgt := 29) hx hb d_Page_giveRead_19 (by decide) (fun c_19 => ?_) (fun c_19 => ?_)
          · refine lv_iinc (v := nI (t + 1)) (lv' := [(2, .int (nI (t + 1))), (0, .ref (ad (28 + 5 * j))), (1, .int (x))]) hx hb d_Page_giveRead_29 hl (k := 2) rfl (nI_1 _) (by decide) rfl (fun ls hl => ?_)
            refine lv_goto (tgt := 2) hx hb d_Page_giveRead_32 (by decide) ?_
            refine ih (t + 1) vc _ _ _ hOc (by omega) ?_ hW (lv_sub hl [1, 2, 0] rfl)
            rw [← hT, cGRL]; skip; simp only [if_neg c_9, if_neg c_19]
          · refine lv_aload_n hx hb d_Page_giveRead_22 rfl (lv_at hl 0 rfl) ?_
            refine wg hx hb hts i_Page hown hW (28 + 5 * j) (by omega) (mk_page hj) rfl 0 (by decide) (hts _ kf_Page_9) rfl d_Page_giveRead_23 ?_
            refine lv_iload_n hx hb d_Page_giveRead_26 rfl (lv_at hl 2 rfl) ?_
            refine lv_iconst (v := 1) hx hb d_Page_giveRead_27 (by decide) ?_
            refine wis hx hb hW (28 + 5 * j + 1) (by omega) (mk_rights hj) 0 rfl (t) rfl (by omega) (by decide) (x := 1) (mk_rights hj) d_Page_giveRead_28 (fun H locs hW => ?_)
            obtain ⟨v4, ev4⟩ : ∃ z : Vs, z = u2 vc (28 + 5 * j + 1) (t) (1) := ⟨_, rfl⟩
            rw [← ev4] at hW
            have hO4 : Ok np v4 := by rw [ev4]; exact hOc.set (by omega) (okS_free (by omega))
            refine lv_iinc (v := nI (t + 1)) (lv' := [(2, .int (nI (t + 1))), (0, .ref (ad (28 + 5 * j))), (1, .int (x))]) hx hb d_Page_giveRead_29 hl (k := 2) rfl (nI_1 _) (by decide) rfl (fun ls hl => ?_)
            refine lv_goto (tgt := 2) hx hb d_Page_giveRead_32 (by decide) ?_
            refine ih (t + 1) v4 _ _ _ hO4 (by omega) ?_ hW (lv_sub hl [1, 2, 0] rfl)
            rw [← hT, cGRL]; subst ev4; simp only [if_neg c_9, if_pos c_19]
  exact loop 3 0 v _ _ _ hO rfl rfl hW (lv_sub hl [1, 2, 0] rfl)
end
section
/-! the class's public methods that make nothing -/
theorem pos_nn {x : Int32} (h : 0 ≤ x) : x = nI (nn x) ∧ nn x < 2147483648 := by
  obtain ⟨j, hj, e⟩ := nI_of (x := x) (fun c => absurd h (by intro h; exact i_nlt h c))
  have h1 : nn x = j := by rw [nn, e, nI_clamp hj]
  rw [h1]
  exact ⟨e, by omega⟩
theorem sw_7 (x : Int32) : (x.toInt < 0 ∨ 6 < x.toInt) ∨ x = 0 ∨ x = 1 ∨ x = 2 ∨ x = 3 ∨ x = 4 ∨ x = 5 ∨ x = 6 := by
  have key : ∀ (k : Int32), x.toInt = k.toInt → x = k := fun k h => Int32.toInt_inj.mp h
  rcases (show (x.toInt < 0 ∨ 6 < x.toInt) ∨ x.toInt = 0 ∨ x.toInt = 1 ∨ x.toInt = 2 ∨ x.toInt = 3 ∨ x.toInt = 4 ∨ x.toInt = 5 ∨ x.toInt = 6 by omega) with h | h | h | h | h | h | h | h
  · exact Or.inl h
  · exact Or.inr (Or.inl (key 0 h))
  · exact Or.inr (Or.inr (Or.inl (key 1 h)))
  · exact Or.inr (Or.inr (Or.inr (Or.inl (key 2 h))))
  · exact Or.inr (Or.inr (Or.inr (Or.inr (Or.inl (key 3 h)))))
  · exact Or.inr (Or.inr (Or.inr (Or.inr (Or.inr (Or.inl (key 4 h))))))
  · exact Or.inr (Or.inr (Or.inr (Or.inr (Or.inr (Or.inr (Or.inl (key 5 h)))))))
  · exact Or.inr (Or.inr (Or.inr (Or.inr (Or.inr (Or.inr (Or.inr (key 6 h)))))))
theorem out_ne {x : Int32} {n : Int} (h : x.toInt < 0 ∨ n < x.toInt) (k : Int32) (hk : 0 ≤ k.toInt ∧ k.toInt ≤ n) : ¬ x = k := by
  intro e
  rw [e] at h
  omega
def cAdd (v : Vs) (i : Nat) (op a b : Int32) : Vs :=
  let v1 := u2 v (6 + 4 * i + 1) (nv v (6 + 4 * i) 3) op
  let v2 := u2 v1 (6 + 4 * i + 2) (nv v1 (6 + 4 * i) 3) a
  let v3 := u2 v2 (6 + 4 * i + 3) (nv v2 (6 + 4 * i) 3) b
  u2 v3 (6 + 4 * i) 3 (v3 (6 + 4 * i) 3 + 1)
def mInstr (v : Vs) (x op a b : Int32) : Int32 × Vs :=
  if inI x 4 then (if inI op 13 then (if inI a 4 then (if fitP op b then
    (if v (6 + 4 * nn x) 3 = 12 then (-2, v) else (cAdd v (nn x) op a b (6 + 4 * nn x) 3, cAdd v (nn x) op a b))
  else (-1, v)) else (-1, v)) else (-1, v)) else (-1, v)
def cServeL (j : Nat) : Nat → Vs → Int32 × Vs
  | 0, v => (-3, v)
  | r + 1, v =>
    let q := nv v (28 + 5 * j + 3 + 1) 0
    let v1 := cRem v (28 + 5 * j + 3) (v (68 + 3 * q) 0)
    if v1 (68 + 3 * q) 5 = 4 then cServeL j r v1 else (cGrant v1 j q (68 + 3 * q) 0, cGrant v1 j q)
def mServe (v : Vs) (x : Int32) : Int32 × Vs := if inI x 8 then cServeL (nn x) (nv v (28 + 5 * nn x + 3) 1) v else (-1, v)
def cMove (v : Vs) (q : Nat) (x y : Int32) : Vs :=
  let v1 := cRem v (22 + 2 * nv v (68 + 3 * q) 4) x
  let v2 := u2 v1 (68 + 3 * q) 4 y
  let v3 := u2 v2 (68 + 3 * q + 2) (nv v (68 + 3 * q) 4) y
  let v4 := u2 v3 (68 + 3 * q + 2) (nn y) y
  if v4 (68 + 3 * q) 5 = 1 then cJoin v4 q else v4
def mMigrate (v : Vs) (x y : Int32) : Int32 × Vs :=
  if inI x (v 0 5) then (if inI y 3 then (if v (68 + 3 * nn x) 5 = 4 then (-1, v) else if v (68 + 3 * nn x) 4 = y then (-1, v) else (v (68 + 3 * nn x) 4, cMove v (nn x) x y)) else (-1, v)) else (-1, v)
def cFindL (q : Nat) : Nat → Nat → Nat → Vs → Int32 × Vs
  | 0, f, _, v => (nI f, v)
  | r + 1, f, t, v => if nI t = v (68 + 3 * q) 4 then (nI f, v) else cFindL q r (f + 1) (nv v (68 + 3 * q + 2) t) (u2 v (68 + 3 * q + 2) t (v (68 + 3 * q) 4))
def mFind (v : Vs) (x y : Int32) : Int32 × Vs := if inI x 3 then (if inI y (v 0 5) then cFindL (nn y) 3 0 (nn x) v else (-1, v)) else (-1, v)
abbrev NONEv : Int64 := 10000000000
def rReg (v : Vs) (x y : Int32) : Int64 := if inI x (v 0 5) then (if inI y 4 then (v (68 + 3 * nn x + 1) (nn y)).toInt64 else NONEv) else NONEv
def rInfo (v : Vs) (x y : Int32) : Int64 := if inI x (v 0 5) then
  (if y = 0 then (v (68 + 3 * nn x) 5).toInt64 else if y = 1 then (v (68 + 3 * nn x) 4).toInt64 else if y = 2 then (v (68 + 3 * nn x) 6).toInt64
  else if y = 3 then (v (68 + 3 * nn x) 7).toInt64 else if y = 4 then (v (68 + 3 * nn x) 8).toInt64
  else if y = 5 then (if v (68 + 3 * nn x) 5 = 2 then (v (68 + 3 * nn x) 9).toInt64 else 8) else NONEv) else NONEv
def rLine (v : Vs) (x k : Int32) : Int32 := if inI x 3 then (if 0 ≤ k then (if v (22 + 2 * nn x) 1 ≤ k then 8 else v (22 + 2 * nn x + 1) (nn k)) else -1) else -1
def rWord (v : Vs) (x : Int32) : Int64 := if inI x 32 then (v 5 (nn x)).toInt64 else NONEv
def rCopy (v : Vs) (x y : Int32) : Int64 := if inI x 3 then (if inI y 32 then (if v (28 + 5 * (nn y / 4) + 1) (nn x) = 0 then NONEv else (v 5 (nn y)).toInt64) else -1) else -1
def rRight (v : Vs) (x y : Int32) : Int32 := if inI x 3 then (if inI y 8 then v (28 + 5 * nn y + 1) (nn x) else -1) else -1
def rOwner (v : Vs) (x : Int32) : Int32 := if inI x 8 then v (28 + 5 * nn x) 3 else -1
def rCount (v : Vs) (y : Int32) : Int32 :=
  if y = 0 then v 0 5 else if y = 1 then v 0 7 else if y = 2 then v 0 8 else if y = 3 then v 0 9 else if y = 4 then cReqL v 8 0 0 else if y = 5 then cRdyL v 3 0 0 else if y = 6 then v 0 10 else -1
section OKH
variable {np : Nat} {v : Vs}
/-- a store behind a program's end -/
theorem Ok.pset (h : Ok np v) {i o t : Nat} {x : Int32} (hi : i < 4) (h1 : 1 ≤ o) (h2 : o < 4) (ht : nv v (6 + 4 * i) 3 ≤ t) : Ok np (u2 v (6 + 4 * i + o) t x) := by
  refine ⟨h.1, fun k' j' hk' => ?_, fun i' hi' => ?_⟩
  · by_cases he : k' = 6 + 4 * i + o ∧ j' = t
    · rw [he.1, he.2]; exact okS_free (by omega)
    · rw [u2_a (by omega)]; exact h.2.1 k' j' hk'
  · have e0 : ∀ j, u2 v (6 + 4 * i + o) t x (6 + 4 * i') j = v (6 + 4 * i') j := fun j => u2_a (by omega)
    have hq := h.2.2 i' hi'
    unfold okP at hq ⊢
    have en : nv (u2 v (6 + 4 * i + o) t x) (6 + 4 * i') 3 = nv v (6 + 4 * i') 3 := by unfold nv; rw [e0]
    rw [e0, en]
    refine ⟨hq.1, fun s hs => ?_⟩
    have e : ∀ p, p < 4 → u2 v (6 + 4 * i + o) t x (6 + 4 * i' + p) s = v (6 + 4 * i' + p) s := fun p hp => u2_a (by
      by_cases hii : i' = i
      · subst hii; omega
      · omega)
    rw [e 1 (by omega), e 2 (by omega), e 3 (by omega)]
    exact hq.2 s hs
theorem fit_lt {op b : Int32} (h : fitP op b) : (op ≠ 0 → op ≠ 5 → okLt 4 b) ∧ (op = 5 → okLt 12 b) := by
  refine ⟨fun h0 h5 => ?_, fun h5 => ?_⟩
  · rcases h with h | h
    · exact absurd h.1 h0
    · have h2 := h.2
      rw [if_neg h5] at h2
      obtain ⟨i, hi, e⟩ := inI_nat (N := 4) rfl (by omega) h2
      exact ⟨i, hi, e⟩
  · rcases h with h | h
    · have := h.1; rw [h5] at this; exact absurd this (by decide)
    · have h2 := h.2
      rw [if_pos h5] at h2
      obtain ⟨i, hi, e⟩ := inI_nat (N := 12) rfl (by omega) h2
      exact ⟨i, hi, e⟩
theorem Ok.add (h : Ok np v) {i : Nat} {op a b : Int32} (hi : i < 4) (hs : nv v (6 + 4 * i) 3 < 12) (h1 : inI op 13) (h2 : inI a 4) (h3 : fitP op b) : Ok np (cAdd v i op a b) := by
  have o1 : Ok np (u2 v (6 + 4 * i + 1) (nv v (6 + 4 * i) 3) op) := h.pset hi (by omega) (by omega) (Nat.le_refl _)
  obtain ⟨v1, e1⟩ : ∃ z : Vs, z = u2 v (6 + 4 * i + 1) (nv v (6 + 4 * i) 3) op := ⟨_, rfl⟩
  rw [← e1] at o1
  have n1 : nv v1 (6 + 4 * i) 3 = nv v (6 + 4 * i) 3 := by unfold nv; rw [e1, u2_a (by omega)]
  have o2 : Ok np (u2 v1 (6 + 4 * i + 2) (nv v1 (6 + 4 * i) 3) a) := o1.pset hi (by omega) (by omega) (Nat.le_refl _)
  obtain ⟨v2, e2⟩ : ∃ z : Vs, z = u2 v1 (6 + 4 * i + 2) (nv v1 (6 + 4 * i) 3) a := ⟨_, rfl⟩
  rw [← e2] at o2
  have n2 : nv v2 (6 + 4 * i) 3 = nv v (6 + 4 * i) 3 := by rw [← n1]; unfold nv; rw [e2, u2_a (by omega)]
  have o3 : Ok np (u2 v2 (6 + 4 * i + 3) (nv v2 (6 + 4 * i) 3) b) := o2.pset hi (by omega) (by omega) (Nat.le_refl _)
  obtain ⟨v3, e3⟩ : ∃ z : Vs, z = u2 v2 (6 + 4 * i + 3) (nv v2 (6 + 4 * i) 3) b := ⟨_, rfl⟩
  rw [← e3] at o3
  have n3 : nv v3 (6 + 4 * i) 3 = nv v (6 + 4 * i) 3 := by rw [← n2]; unfold nv; rw [e3, u2_a (by omega)]
  have hf : cAdd v i op a b = u2 v3 (6 + 4 * i) 3 (v3 (6 + 4 * i) 3 + 1) := by subst e3 e2 e1; rfl
  rw [hf]
  have hv3 : v3 (6 + 4 * i) 3 = nI (nv v (6 + 4 * i) 3) := by rw [← n3]; exact (o3.psize hi).1
  have a1 : v3 (6 + 4 * i + 1) (nv v (6 + 4 * i) 3) = op := by rw [e3, u2_a (by omega), e2, u2_a (by omega), e1, u2_s]
  have a2 : v3 (6 + 4 * i + 2) (nv v (6 + 4 * i) 3) = a := by rw [e3, u2_a (by omega), e2, n1, u2_s]
  have a3 : v3 (6 + 4 * i + 3) (nv v (6 + 4 * i) 3) = b := by rw [e3, n2, u2_s]
  refine ⟨h.1, fun k' j' hk' => ?_, fun i' hi' => ?_⟩
  · by_cases he : k' = 6 + 4 * i ∧ j' = 3
    · rw [he.1, he.2]; exact okS_free (by omega)
    · rw [u2_a (by omega)]; exact o3.2.1 k' j' hk'
  · have hq := o3.2.2 i' hi'
    by_cases hii : i' = i
    · subst hii
      have er : ∀ p, 1 ≤ p → p < 4 → u2 v3 (6 + 4 * i') 3 (v3 (6 + 4 * i') 3 + 1) (6 + 4 * i' + p) = v3 (6 + 4 * i' + p) := fun p _ _ => u2_oth (by omega)
      have hz : v3 (6 + 4 * i') 3 + 1 = nI (nv v (6 + 4 * i') 3 + 1) := by rw [hv3]; exact nI_1 _
      unfold okP
      rw [u2_s, er 1 (by omega) (by omega), er 2 (by omega) (by omega), er 3 (by omega) (by omega)]
      have hn : nv (u2 v3 (6 + 4 * i') 3 (v3 (6 + 4 * i') 3 + 1)) (6 + 4 * i') 3 = nv v (6 + 4 * i') 3 + 1 := nv_of (by rw [u2_s]; exact hz) (by omega)
      rw [hn]
      refine ⟨⟨_, by omega, hz⟩, fun s hs2 => ?_⟩
      by_cases hsn : s = nv v (6 + 4 * i') 3
      · subst hsn
        rw [a1, a2, a3]
        obtain ⟨x1, hx1, ex1⟩ := inI_nat (N := 13) rfl (by omega) h1
        obtain ⟨x2, hx2, ex2⟩ := inI_nat (N := 4) rfl (by omega) h2
        exact ⟨⟨x1, hx1, ex1⟩, ⟨x2, hx2, ex2⟩, (fit_lt h3).1, (fit_lt h3).2⟩
      · exact hq.2 s (by omega)
    · have er : ∀ p, p < 4 → u2 v3 (6 + 4 * i) 3 (v3 (6 + 4 * i) 3 + 1) (6 + 4 * i' + p) = v3 (6 + 4 * i' + p) := fun p _ => u2_oth (by omega)
      have er0 : u2 v3 (6 + 4 * i) 3 (v3 (6 + 4 * i) 3 + 1) (6 + 4 * i') = v3 (6 + 4 * i') := u2_oth (by omega)
      unfold okP nv at hq ⊢
      rw [er0, er 1 (by omega), er 2 (by omega), er 3 (by omega)]
      exact hq
theorem Ok.instr (h : Ok np v) {x op a b : Int32} : Ok np (mInstr v x op a b).2 := by
  unfold mInstr
  split
  · next c1 =>
    split
    · next c2 =>
      split
      · next c3 =>
        split
        · next c4 =>
          split
          · exact h
          · next c5 =>
            have hb := (inI_nn (N := 4) rfl (by omega) c1).2
            have hp := h.psize hb
            refine h.add hb ?_ c2 c3 c4
            have : ¬ nv v (6 + 4 * nn x) 3 = 12 := fun e => c5 (by rw [hp.1, e]; rfl)
            omega
        · exact h
      · exact h
    · exact h
  · exact h
theorem Ok.serveL {j : Nat} (hj : j < 8) (h0 : 0 < np) : ∀ (r : Nat) (v : Vs), Ok np v → Ok np (cServeL j r v).2 := by
  intro r
  induction r with
  | zero => exact fun v h => h
  | succ r ih =>
    intro v h
    unfold cServeL
    dsimp only
    have h1 : Ok np (cRem v (28 + 5 * j + 3) (v (68 + 3 * nv v (28 + 5 * j + 3 + 1) 0) 0)) := h.rem (ln_page hj) h0
    split
    · exact ih _ h1
    · exact h1.grant hj (h.item (ln_page hj) 0 h0).2
theorem Ok.serve (h : Ok np v) {x : Int32} : Ok np (mServe v x).2 := by
  unfold mServe
  split
  · next c =>
    have hj := (inI_nn (N := 8) rfl (by omega) c).2
    have hs := (h.size (ln_page hj)).2.2
    by_cases h0 : 0 < nv v (28 + 5 * nn x + 3) 1
    · exact Ok.serveL hj (hs h0) _ v h
    · rw [show nv v (28 + 5 * nn x + 3) 1 = 0 by omega]; exact h
  · exact h
theorem Ok.move (h : Ok np v) {q : Nat} {x y : Int32} (hq : q < np) (hy : inI y 3) : Ok np (cMove v q x y) := by
  have hl : okLt 3 y := by
    obtain ⟨i, hi, e⟩ := inI_nat (N := 3) rfl (by omega) hy
    exact ⟨i, hi, e⟩
  have h4 : Ok np (u2 (u2 (u2 (cRem v (22 + 2 * nv v (68 + 3 * q) 4) x) (68 + 3 * q) 4 y) (68 + 3 * q + 2) (nv v (68 + 3 * q) 4) y) (68 + 3 * q + 2) (nn y) y) :=
    (((h.rem (ln_node (h.place hq).2) (by omega)).set (by omega) (okS_place hl)).set (by omega) (okS_hint hl)).set (by omega) (okS_hint hl)
  unfold cMove
  dsimp only
  split
  · exact h4.join hq
  · exact h4
theorem Ok.migrate (h : Ok np v) {x y : Int32} : Ok np (mMigrate v x y).2 := by
  unfold mMigrate
  split
  · next c1 =>
    split
    · next c2 =>
      split
      · exact h
      · split
        · exact h
        · exact h.move (inI_nn h.made.1 (by have := h.1; omega) c1).2 c2
    · exact h
  · exact h
theorem Ok.findL {q : Nat} (hq : q < np) : ∀ (r f t : Nat) (v : Vs), Ok np v → Ok np (cFindL q r f t v).2 := by
  intro r
  induction r with
  | zero => exact fun f t v h => h
  | succ r ih =>
    intro f t v h
    unfold cFindL
    split
    · exact h
    · exact ih _ _ _ (h.set (by omega) (okS_hint ⟨_, (h.place hq).2, (h.place hq).1⟩))
theorem Ok.find (h : Ok np v) {x y : Int32} : Ok np (mFind v x y).2 := by
  unfold mFind
  split
  · split
    · next c => exact Ok.findL (inI_nn h.made.1 (by have := h.1; omega) c).2 _ _ _ _ h
    · exact h
  · exact h
end OKH
/-- a page or null -/
def lqP (ad : Nat → Nat) : Option Nat → Value
  | none => .null
  | some q => .ref (ad (28 + 5 * q))
end
section
abbrev rm_C_makeRoom : Room := { frames := 2, cells := 0, slots := 0, locals := 43 }
set_option maxHeartbeats 4000000 in
set_option maxRecDepth 100000 in
theorem c_C_makeRoom (l : Launch) {D : va_G} {g : Nat → ClassId} {ad : Nat → Nat} {np : Nat} {v : Vs} (x : Int32) (n : Nat) (zx : x = nI n) (ln : n < 3) (hO : Ok np v) : MtV l y_C_makeRoom ws_C_makeRoom rm_C_makeRoom D classes (tysA g) [.ref (ad (0)), .int (x)] (wC g ad np (v)) (fun _ : Unit => True) (fun _ => wC g ad np (cRoom v x n)) 0 0 := by
  refine mt_v (by decide +kernel) rfl (Nat.le_of_ble_eq_true rfl) (fun p e s m args below meth c Q A C hnm hA hW hret ls hl => ?_)
  obtain ⟨hx, hb, hr, hml, hown, hts0, hlocks⟩ := C
  have hts : ∀ w ∈ bigw, w.before args s = true := fun w h => hts0 w (List.mem_cons_of_mem _ h)
  have hown : s.vm.findClass R_C = some m.cls := hown
  have hnp := hO.le
  have hl : lv_has ls 6 [(0, .ref (ad (0))), (1, .int (x))] := hl
  refine lv_iconst (v := 0) hx hb d_C_makeRoom_0 (by decide) ?_
  refine lv_istore_n (lv' := [(2, .int (0)), (0, .ref (ad (0))), (1, .int (x))]) hx hb d_C_makeRoom_1 rfl hl (by decide) rfl (fun ls hl => ?_)
  refine lv_null hx hb d_C_makeRoom_2 ?_
  refine lv_astore_nN (lv' := [(3, .null), (2, .int (0)), (0, .ref (ad (0))), (1, .int (x))]) hx hb d_C_makeRoom_3 rfl hl (by decide) rfl (fun ls hl => ?_)
  refine lv_iconst (v := 0) hx hb d_C_makeRoom_4 (by decide) ?_
  refine lv_istore (lv' := [(4, .int (0)), (3, .null), (2, .int (0)), (0, .ref (ad (0))), (1, .int (x))]) hx hb d_C_makeRoom_5 hl (by decide) rfl (fun ls hl => ?_)
  have loop : ∀ (r : Nat) (t h : Nat) (o : Option Nat) (H : Heap) (locs : List Loc) (ls : Array Slot), 8 = t + r → h ≤ t → (∀ q, o = some q → q < 8) → cOld v n r t h o = cOld v n 8 0 0 none → Wd D classes (tysA g) s A (wC g ad np (v)) H locs → lv_has ls 6 [(0, .ref (ad (0))), (1, .int (x)), (2, .int (nI (h))), (3, lqP ad o), (4, .int (nI (t)))] → W p l e rm_C_makeRoom s m args below meth c H locs 0 0 Q (F0 m 7 ls []) := by
    intro r
    induction r with
    | zero =>
      intro t h o H locs ls h8 hht ho hT hW hl
      cases o with
      | none =>
        have hl : lv_has ls 6 [(0, .ref (ad (0))), (1, .int (x)), (2, .int (nI (h))), (3, .null), (4, .int (nI (t)))] := hl
        refine lv_iload hx hb d_C_makeRoom_7 (lv_at hl 4 rfl) ?_
        refine lv_bipush (v := 8) hx hb d_C_makeRoom_9 (by decide) ?_
        refine lv_icmp_ge (tgt := 65) hx hb d_C_makeRoom_11 (by decide) (fun c_11 => ?_) (fun c_11 => ?_)
        · have nc_11 : 8 ≤ t := ni_le rfl rfl (by omega) (by omega) c_11
          refine lv_aload_nN hx hb d_C_makeRoom_65 rfl (lv_at hl 3 rfl) ?_
          refine lv_ifnullN (tgt := 80) hx hb d_C_makeRoom_66 (by decide) ?_
          have hfin : cRoom v x n = v := by
            unfold cRoom; rw [← hT]; skip; rfl
          exact hret () _ _ _ _ _ _ trivial (by show Wd D classes (tysA g) s A (wC g ad np (cRoom v x n)) _ _; rw [hfin]; exact hW) (by decide) (by decide) d_C_makeRoom_80
        · have nc_11 : t < 8 := ni_nle rfl rfl (by omega) (by omega) c_11
          exfalso; omega
      | some q =>
        have hq := ho q rfl
        have hl : lv_has ls 6 [(0, .ref (ad (0))), (1, .int (x)), (2, .int (nI (h))), (3, .ref (ad (28 + 5 * q))), (4, .int (nI (t)))] := hl
        refine lv_iload hx hb d_C_makeRoom_7 (lv_at hl 4 rfl) ?_
        refine lv_bipush (v := 8) hx hb d_C_makeRoom_9 (by decide) ?_
        refine lv_icmp_ge (tgt := 65) hx hb d_C_makeRoom_11 (by decide) (fun c_11 => ?_) (fun c_11 => ?_)
        · have nc_11 : 8 ≤ t := ni_le rfl rfl (by omega) (by omega) c_11
          refine lv_aload_n hx hb d_C_makeRoom_65 rfl (lv_at hl 3 rfl) ?_
          refine lv_ifnull hx hb d_C_makeRoom_66 ?_
          refine lv_iload_n hx hb d_C_makeRoom_69 rfl (lv_at hl 2 rfl) ?_
          refine lv_iconst (v := 3) hx hb d_C_makeRoom_70 (by decide) ?_
          refine lv_icmp_ne (tgt := 80) hx hb d_C_makeRoom_71 (by decide) (fun c_71 => ?_) (fun c_71 => ?_)
          · have nc_71 : ¬ h = 3 := ni_ne rfl rfl (by omega) (by omega) c_71
            have hfin : cRoom v x n = v := by
              unfold cRoom; rw [← hT]; skip; show (if nI h = 3 then cGive v q x n else v) = _; simp only [if_neg c_71]
            exact hret () _ _ _ _ _ _ trivial (by show Wd D classes (tysA g) s A (wC g ad np (cRoom v x n)) _ _; rw [hfin]; exact hW) (by decide) (by decide) d_C_makeRoom_80
          · have nc_71 : h = 3 := ni_eq rfl rfl (by omega) (by omega) c_71
            refine lv_aload_n hx hb d_C_makeRoom_74 rfl (lv_at hl 0 rfl) ?_
            refine lv_aload_n hx hb d_C_makeRoom_75 rfl (lv_at hl 3 rfl) ?_
            refine lv_iload_n hx hb d_C_makeRoom_76 rfl (lv_at hl 1 rfl) ?_
            refine wcv hW hA (va_runV (As := [.ref (ad (28 + 5 * q)), .int (x)]) (rest := []) ⟨hx, hb, hml, hown, hts⟩ (c_C_giveUp l q hq (x) n zx (by omega) hO _) (cv 2 hts kc_C_giveUp ki_C_giveUp ke_C_giveUp kn_C km_C_230 kh_C_giveUp rfl rfl ⟨by decide, by decide⟩) (preW hW rfl rfl (mw_get (by omega) mk_root)) rfl rfl hl.1 rfl (lv_room (Nat.le_of_ble_eq_true rfl)) d_C_makeRoom_77 ⟨by decide, by decide⟩) (fun uu1 H locs hp1 hW => ?_)
            have hW : Wd D classes (tysA g) s A (wC g ad np (cGive v q (x) n)) H locs := hW
            obtain ⟨v2, ev2⟩ : ∃ z : Vs, z = cGive v q (x) n := ⟨_, rfl⟩
            rw [← ev2] at hW
            have hO2 : Ok np v2 := by rw [ev2]; exact hO.give hq
            have hfin : cRoom v x n = v2 := by
              unfold cRoom; rw [← hT]; subst ev2; show (if nI h = 3 then cGive v q x n else v) = _; simp only [if_pos c_71]
            exact hret () _ _ _ _ _ _ trivial (by show Wd D classes (tysA g) s A (wC g ad np (cRoom v x n)) _ _; rw [hfin]; exact hW) (by decide) (by decide) d_C_makeRoom_80
        · have nc_11 : t < 8 := ni_nle rfl rfl (by omega) (by omega) c_11
          exfalso; omega
    | succ r ih =>
      intro t h o H locs ls h8 hht ho hT hW hl
      cases o with
      | none =>
        have hl : lv_has ls 6 [(0, .ref (ad (0))), (1, .int (x)), (2, .int (nI (h))), (3, .null), (4, .int (nI (t)))] := hl
        refine lv_iload hx hb d_C_makeRoom_7 (lv_at hl 4 rfl) ?_
        refine lv_bipush (v := 8) hx hb d_C_makeRoom_9 (by decide) ?_
        refine lv_icmp_ge (tgt := 65) hx hb d_C_makeRoom_11 (by decide) (fun c_11 => ?_) (fun c_11 => ?_)
        · have nc_11 : 8 ≤ t := ni_le rfl rfl (by omega) (by omega) c_11
          exfalso; omega
        · have nc_11 : t < 8 := ni_nle rfl rfl (by omega) (by omega) c_11
          refine lv_aload_n hx hb d_C_makeRoom_14 rfl (lv_at hl 0 rfl) ?_
          refine wg hx hb hts i_C hown hW (0) (by omega) mk_root rfl 3 (by decide) (hts _ kf_C_29) rfl d_C_makeRoom_15 ?_
          refine lv_iload hx hb d_C_makeRoom_18 (lv_at hl 4 rfl) ?_
          have hi3 : t < 8 := by omega
          refine wa hx hb hW 4 (by omega) mk_pages 4 rfl (t) rfl (by omega) (by decide) (if_pos hi3) d_C_makeRoom_20 ?_
          refine lv_astore (lv' := [(5, .ref (ad (28 + 5 * t))), (0, .ref (ad (0))), (1, .int (x)), (2, .int (nI (h))), (3, .null), (4, .int (nI (t)))]) hx hb d_C_makeRoom_21 hl (by decide) rfl (fun ls hl => ?_)
          refine lv_aload hx hb d_C_makeRoom_23 (lv_at hl 0 rfl) ?_
          refine wg hx hb hts i_Page hown hW (28 + 5 * t) (by omega) (mk_page hi3) rfl 0 (by decide) (hts _ kf_C_118) rfl d_C_makeRoom_25 ?_
          refine lv_iload_n hx hb d_C_makeRoom_28 rfl (lv_at hl 2 rfl) ?_
          refine wi hx hb hW (28 + 5 * t + 1) (by omega) (mk_rights hi3) 0 rfl (n) zx (by omega) (by decide) d_C_makeRoom_29 ?_
          refine lv_if_eq (tgt := 59) hx hb d_C_makeRoom_30 (by decide) (fun c_30 => ?_) (fun c_30 => ?_)
          · refine lv_iinc (v := nI (t + 1)) (lv' := [(4, .int (nI (t + 1))), (5, .ref (ad (28 + 5 * t))), (0, .ref (ad (0))), (1, .int (x)), (2, .int (nI (h))), (3, .null)]) hx hb d_C_makeRoom_59 hl (k := 5) rfl (nI_1 _) (by decide) rfl (fun ls hl => ?_)
            refine lv_goto (tgt := 7) hx hb d_C_makeRoom_62 (by decide) ?_
            refine ih (t + 1) h none _ _ _ (by omega) (by omega) (fun q e => by cases e) ?_ hW (lv_sub hl [2, 3, 4, 5, 0] rfl)
            rw [← hT, cOld, if_pos c_30]
          · refine lv_iinc (v := nI (h + 1)) (lv' := [(2, .int (nI (h + 1))), (5, .ref (ad (28 + 5 * t))), (0, .ref (ad (0))), (1, .int (x)), (3, .null), (4, .int (nI (t)))]) hx hb d_C_makeRoom_33 hl (k := 3) rfl (nI_1 _) (by decide) rfl (fun ls hl => ?_)
            refine lv_aload_nN hx hb d_C_makeRoom_36 rfl (lv_at hl 4 rfl) ?_
            refine lv_ifnullN (tgt := 56) hx hb d_C_makeRoom_37 (by decide) ?_
            refine lv_aload hx hb d_C_makeRoom_56 (lv_at hl 1 rfl) ?_
            refine lv_astore_n (lv' := [(3, .ref (ad (28 + 5 * t))), (2, .int (nI (h + 1))), (5, .ref (ad (28 + 5 * t))), (0, .ref (ad (0))), (1, .int (x)), (4, .int (nI (t)))]) hx hb d_C_makeRoom_58 rfl hl (by decide) rfl (fun ls hl => ?_)
            refine lv_iinc (v := nI (t + 1)) (lv' := [(4, .int (nI (t + 1))), (3, .ref (ad (28 + 5 * t))), (2, .int (nI (h + 1))), (5, .ref (ad (28 + 5 * t))), (0, .ref (ad (0))), (1, .int (x))]) hx hb d_C_makeRoom_59 hl (k := 5) rfl (nI_1 _) (by decide) rfl (fun ls hl => ?_)
            refine lv_goto (tgt := 7) hx hb d_C_makeRoom_62 (by decide) ?_
            refine ih (t + 1) (h + 1) (some t) _ _ _ (by omega) (by omega) (fun q e => by cases e; omega) ?_ hW (lv_sub hl [4, 5, 2, 1, 0] rfl)
            rw [← hT, cOld, if_neg c_30]
      | some q =>
        have hq := ho q rfl
        have hl : lv_has ls 6 [(0, .ref (ad (0))), (1, .int (x)), (2, .int (nI (h))), (3, .ref (ad (28 + 5 * q))), (4, .int (nI (t)))] := hl
        refine lv_iload hx hb d_C_makeRoom_7 (lv_at hl 4 rfl) ?_
        refine lv_bipush (v := 8) hx hb d_C_makeRoom_9 (by decide) ?_
        refine lv_icmp_ge (tgt := 65) hx hb d_C_makeRoom_11 (by decide) (fun c_11 => ?_) (fun c_11 => ?_)
        · have nc_11 : 8 ≤ t := ni_le rfl rfl (by omega) (by omega) c_11
          exfalso; omega
        · have nc_11 : t < 8 := ni_nle rfl rfl (by omega) (by omega) c_11
          refine lv_aload_n hx hb d_C_makeRoom_14 rfl (lv_at hl 0 rfl) ?_
          refine wg hx hb hts i_C hown hW (0) (by omega) mk_root rfl 3 (by decide) (hts _ kf_C_29) rfl d_C_makeRoom_15 ?_
          refine lv_iload hx hb d_C_makeRoom_18 (lv_at hl 4 rfl) ?_
          have hi4 : t < 8 := by omega
          refine wa hx hb hW 4 (by omega) mk_pages 4 rfl (t) rfl (by omega) (by decide) (if_pos hi4) d_C_makeRoom_20 ?_
          refine lv_astore (lv' := [(5, .ref (ad (28 + 5 * t))), (0, .ref (ad (0))), (1, .int (x)), (2, .int (nI (h))), (3, .ref (ad (28 + 5 * q))), (4, .int (nI (t)))]) hx hb d_C_makeRoom_21 hl (by decide) rfl (fun ls hl => ?_)
          refine lv_aload hx hb d_C_makeRoom_23 (lv_at hl 0 rfl) ?_
          refine wg hx hb hts i_Page hown hW (28 + 5 * t) (by omega) (mk_page hi4) rfl 0 (by decide) (hts _ kf_C_118) rfl d_C_makeRoom_25 ?_
          refine lv_iload_n hx hb d_C_makeRoom_28 rfl (lv_at hl 2 rfl) ?_
          refine wi hx hb hW (28 + 5 * t + 1) (by omega) (mk_rights hi4) 0 rfl (n) zx (by omega) (by decide) d_C_makeRoom_29 ?_
          refine lv_if_eq (tgt := 59) hx hb d_C_makeRoom_30 (by decide) (fun c_30 => ?_) (fun c_30 => ?_)
          · refine lv_iinc (v := nI (t + 1)) (lv' := [(4, .int (nI (t + 1))), (5, .ref (ad (28 + 5 * t))), (0, .ref (ad (0))), (1, .int (x)), (2, .int (nI (h))), (3, .ref (ad (28 + 5 * q)))]) hx hb d_C_makeRoom_59 hl (k := 5) rfl (nI_1 _) (by decide) rfl (fun ls hl => ?_)
            refine lv_goto (tgt := 7) hx hb d_C_makeRoom_62 (by decide) ?_
            refine ih (t + 1) h (some q) _ _ _ (by omega) (by omega) (fun q e => by cases e; omega) ?_ hW (lv_sub hl [2, 3, 4, 5, 0] rfl)
            rw [← hT, cOld, if_pos c_30]
          · refine lv_iinc (v := nI (h + 1)) (lv' := [(2, .int (nI (h + 1))), (5, .ref (ad (28 + 5 * t))), (0, .ref (ad (0))), (1, .int (x)), (3, .ref (ad (28 + 5 * q))), (4, .int (nI (t)))]) hx hb d_C_makeRoom_33 hl (k := 3) rfl (nI_1 _) (by decide) rfl (fun ls hl => ?_)
            refine lv_aload_n hx hb d_C_makeRoom_36 rfl (lv_at hl 4 rfl) ?_
            refine lv_ifnull hx hb d_C_makeRoom_37 ?_
            refine lv_aload hx hb d_C_makeRoom_40 (lv_at hl 1 rfl) ?_
            refine wg hx hb hts i_Page hown hW (28 + 5 * t) (by omega) (mk_page hi4) rfl 1 (by decide) (hts _ kf_C_218) rfl d_C_makeRoom_42 ?_
            refine lv_iload_n hx hb d_C_makeRoom_45 rfl (lv_at hl 3 rfl) ?_
            refine wi hx hb hW (28 + 5 * t + 2) (by omega) (mk_uses hi4) 0 rfl (n) zx (by omega) (by decide) d_C_makeRoom_46 ?_
            refine lv_aload_n hx hb d_C_makeRoom_47 rfl (lv_at hl 4 rfl) ?_
            refine wg hx hb hts i_Page hown hW (28 + 5 * q) (by omega) (mk_page hq) rfl 1 (by decide) (hts _ kf_C_218) rfl d_C_makeRoom_48 ?_
            refine lv_iload_n hx hb d_C_makeRoom_51 rfl (lv_at hl 3 rfl) ?_
            refine wi hx hb hW (28 + 5 * q + 2) (by omega) (mk_uses hq) 0 rfl (n) zx (by omega) (by decide) d_C_makeRoom_52 ?_
            refine lv_icmp_ge (tgt := 59) hx hb d_C_makeRoom_53 (by decide) (fun c_53 => ?_) (fun c_53 => ?_)
            · refine lv_iinc (v := nI (t + 1)) (lv' := [(4, .int (nI (t + 1))), (2, .int (nI (h + 1))), (5, .ref (ad (28 + 5 * t))), (0, .ref (ad (0))), (1, .int (x)), (3, .ref (ad (28 + 5 * q)))]) hx hb d_C_makeRoom_59 hl (k := 5) rfl (nI_1 _) (by decide) rfl (fun ls hl => ?_)
              refine lv_goto (tgt := 7) hx hb d_C_makeRoom_62 (by decide) ?_
              refine ih (t + 1) (h + 1) (some q) _ _ _ (by omega) (by omega) (fun q e => by cases e; omega) ?_ hW (lv_sub hl [3, 4, 1, 5, 0] rfl)
              rw [← hT, cOld, if_neg c_30, if_pos c_53]
            · refine lv_aload hx hb d_C_makeRoom_56 (lv_at hl 1 rfl) ?_
              refine lv_astore_n (lv' := [(3, .ref (ad (28 + 5 * t))), (2, .int (nI (h + 1))), (5, .ref (ad (28 + 5 * t))), (0, .ref (ad (0))), (1, .int (x)), (4, .int (nI (t)))]) hx hb d_C_makeRoom_58 rfl hl (by decide) rfl (fun ls hl => ?_)
              refine lv_iinc (v := nI (t + 1)) (lv' := [(4, .int (nI (t + 1))), (3, .ref (ad (28 + 5 * t))), (2, .int (nI (h + 1))), (5, .ref (ad (28 + 5 * t))), (0, .ref (ad (0))), (1, .int (x))]) hx hb d_C_makeRoom_59 hl (k := 5) rfl (nI_1 _) (by decide) rfl (fun ls hl => ?_)
              refine lv_goto (tgt := 7) hx hb d_C_makeRoom_62 (by decide) ?_
              refine ih (t + 1) (h + 1) (some t) _ _ _ (by omega) (by omega) (fun q e => by cases e; omega) ?_ hW (lv_sub hl [4, 5, 2, 1, 0] rfl)
              rw [← hT, cOld, if_neg c_30, if_neg c_53]
  exact loop 8 0 0 none _ _ _ rfl (Nat.le_refl _) (fun q e => by cases e) rfl hW (lv_sub hl [3, 4, 2, 1, 0] rfl)
abbrev rm_C_grantRequest : Room := { frames := 3, cells := 0, slots := 0, locals := 68 }
set_option maxHeartbeats 4000000 in
set_option maxRecDepth 100000 in
theorem c_C_grantRequest (l : Launch) {D : va_G} {g : Nat → ClassId} {ad : Nat → Nat} {np : Nat} {v : Vs} (j : Nat) (hj : j < 8) (i : Nat) (hi : i < np) (hO : Ok np v) : MtV l y_C_grantRequest ws_C_grantRequest rm_C_grantRequest D classes (tysA g) [.ref (ad (0)), .ref (ad (28 + 5 * j)), .ref (ad (68 + 3 * i))] (wC g ad np (v)) (fun _ : Unit => True) (fun _ => wC g ad np (cGrant v j i)) 0 0 := by
  refine mt_v (by decide +kernel) rfl (Nat.le_of_ble_eq_true rfl) (fun p e s m args below meth c Q A C hnm hA hW hret ls hl => ?_)
  obtain ⟨hx, hb, hr, hml, hown, hts0, hlocks⟩ := C
  have hts : ∀ w ∈ bigw, w.before args s = true := fun w h => hts0 w (List.mem_cons_of_mem _ h)
  have hown : s.vm.findClass R_C = some m.cls := hown
  have hnp := hO.le
  have hl : lv_has ls 4 [(0, .ref (ad (0))), (1, .ref (ad (28 + 5 * j))), (2, .ref (ad (68 + 3 * i)))] := hl
  refine lv_aload_n hx hb d_C_grantRequest_0 rfl (lv_at hl 2 rfl) ?_
  refine wg hx hb hts i_Proc hown hW (68 + 3 * i) (by omega) mk_proc rfl 4 (by decide) (hts _ kf_C_88) rfl d_C_grantRequest_1 ?_
  obtain ⟨e1, b1⟩ := hO.place hi
  refine lv_istore_n (lv' := [(3, .int (v (68 + 3 * i) 4)), (0, .ref (ad (0))), (1, .ref (ad (28 + 5 * j))), (2, .ref (ad (68 + 3 * i)))]) hx hb d_C_grantRequest_4 rfl hl (by decide) rfl (fun ls hl => ?_)
  refine lv_aload_n hx hb d_C_grantRequest_5 rfl (lv_at hl 1 rfl) ?_
  refine lv_dup hx hb d_C_grantRequest_6 rfl ?_
  refine wg hx hb hts i_C hown hW (0) (by omega) mk_root rfl 10 (by decide) (hts _ kf_C_140) rfl d_C_grantRequest_7 ?_
  refine lv_iconst (v := 1) hx hb d_C_grantRequest_10 (by decide) ?_
  refine lv_iadd hx hb d_C_grantRequest_11 ?_
  refine wp hx hb hts i_C t_C t_C_ok n_C hown hW (0) (by omega) mk_root rfl 10 (by decide) (hts _ kf_C_140) rfl (by decide +kernel) (x := (v 0 10) + (1)) (Nat.le_of_ble_eq_true rfl) (mk_root.trans rfl) d_C_grantRequest_12 (fun H locs hW => ?_)
  obtain ⟨v2, ev2⟩ : ∃ z : Vs, z = u2 v (0) 10 ((v 0 10) + (1)) := ⟨_, rfl⟩
  rw [← ev2] at hW
  have hO2 : Ok np v2 := by rw [ev2]; exact hO.set (by omega) (okS_free (by omega))
  refine lv_aload_n hx hb d_C_grantRequest_15 rfl (lv_at hl 1 rfl) ?_
  refine lv_dup hx hb d_C_grantRequest_16 rfl ?_
  refine wg hx hb hts i_C hown hW (0) (by omega) mk_root rfl 7 (by decide) (hts _ kf_C_124) rfl d_C_grantRequest_17 ?_
  refine lv_iconst (v := 1) hx hb d_C_grantRequest_20 (by decide) ?_
  refine lv_iadd hx hb d_C_grantRequest_21 ?_
  refine wp hx hb hts i_C t_C t_C_ok n_C hown hW (0) (by omega) mk_root rfl 7 (by decide) (hts _ kf_C_124) rfl (by decide +kernel) (x := (v2 0 7) + (1)) (Nat.le_of_ble_eq_true rfl) (mk_root.trans rfl) d_C_grantRequest_22 (fun H locs hW => ?_)
  obtain ⟨v3, ev3⟩ : ∃ z : Vs, z = u2 v2 (0) 7 ((v2 0 7) + (1)) := ⟨_, rfl⟩
  rw [← ev3] at hW
  have hO3 : Ok np v3 := by rw [ev3]; exact hO2.set (by omega) (okS_free (by omega))
  refine lv_aload_n hx hb d_C_grantRequest_25 rfl (lv_at hl 2 rfl) ?_
  refine wg hx hb hts i_Page hown hW (28 + 5 * j) (by omega) (mk_page hj) rfl 0 (by decide) (hts _ kf_C_118) rfl d_C_grantRequest_26 ?_
  refine lv_iload_n hx hb d_C_grantRequest_29 rfl (lv_at hl 0 rfl) ?_
  refine wi hx hb hW (28 + 5 * j + 1) (by omega) (mk_rights hj) 0 rfl (nv v (68 + 3 * i) 4) e1 (by omega) (by decide) d_C_grantRequest_30 ?_
  refine lv_if_ne (tgt := 49) hx hb d_C_grantRequest_31 (by decide) (fun c_31 => ?_) (fun c_31 => ?_)
  · refine lv_aload_n hx hb d_C_grantRequest_49 rfl (lv_at hl 3 rfl) ?_
    refine wg hx hb hts i_Proc hown hW (68 + 3 * i) (by omega) mk_proc rfl 10 (by decide) (hts _ kf_C_195) rfl d_C_grantRequest_50 ?_
    refine lv_iconst (v := 2) hx hb d_C_grantRequest_53 (by decide) ?_
    refine lv_icmp_ne (tgt := 74) hx hb d_C_grantRequest_54 (by decide) (fun c_54 => ?_) (fun c_54 => ?_)
    · refine lv_aload_n hx hb d_C_grantRequest_74 rfl (lv_at hl 2 rfl) ?_
      refine lv_iload_n hx hb d_C_grantRequest_75 rfl (lv_at hl 0 rfl) ?_
      refine wcv hW hA (va_runV (As := [.int (v (68 + 3 * i) 4)]) (rest := []) ⟨hx, hb, hml, hown, hts⟩ (c_Page_giveRead l j hj (v (68 + 3 * i) 4) (nv v (68 + 3 * i) 4) e1 (by omega) hO3 _) (cv 1 hts kc_Page_giveRead ki_Page_giveRead ke_Page_giveRead kn_Page km_C_227 kh_Page_giveRead rfl rfl ⟨by decide, by decide⟩) (preW hW rfl rfl (mw_get (by omega) (mk_page hj))) rfl rfl hl.1 rfl (lv_room (Nat.le_of_ble_eq_true rfl)) d_C_grantRequest_76 ⟨by decide, by decide⟩) (fun uu4 H locs hp4 hW => ?_)
      have hW : Wd D classes (tysA g) s A (wC g ad np (cGR v3 j (v (68 + 3 * i) 4) (nv v (68 + 3 * i) 4))) H locs := hW
      obtain ⟨v5, ev5⟩ : ∃ z : Vs, z = cGR v3 j (v (68 + 3 * i) 4) (nv v (68 + 3 * i) 4) := ⟨_, rfl⟩
      rw [← ev5] at hW
      have hO5 : Ok np v5 := by rw [ev5]; exact hO3.gr hj
      refine lv_aload_n hx hb d_C_grantRequest_79 rfl (lv_at hl 1 rfl) ?_
      refine lv_aload_n hx hb d_C_grantRequest_80 rfl (lv_at hl 2 rfl) ?_
      refine lv_iload_n hx hb d_C_grantRequest_81 rfl (lv_at hl 0 rfl) ?_
      refine wcv hW hA (va_runV (As := [.ref (ad (28 + 5 * j)), .int (v (68 + 3 * i) 4)]) (rest := []) ⟨hx, hb, hml, hown, hts⟩ (c_C_usePage l j hj (v (68 + 3 * i) 4) (nv v (68 + 3 * i) 4) e1 (by omega) hO5 _) (cv 2 hts kc_C_usePage ki_C_usePage ke_C_usePage kn_C km_C_207 kh_C_usePage rfl rfl ⟨by decide, by decide⟩) (preW hW rfl rfl (mw_get (by omega) mk_root)) rfl rfl hl.1 rfl (lv_room (Nat.le_of_ble_eq_true rfl)) d_C_grantRequest_82 ⟨by decide, by decide⟩) (fun uu6 H locs hp6 hW => ?_)
      have hW : Wd D classes (tysA g) s A (wC g ad np (cUse v5 j (nv v (68 + 3 * i) 4))) H locs := hW
      obtain ⟨v7, ev7⟩ : ∃ z : Vs, z = cUse v5 j (nv v (68 + 3 * i) 4) := ⟨_, rfl⟩
      rw [← ev7] at hW
      have hO7 : Ok np v7 := by rw [ev7]; exact hO5.use hj
      refine lv_aload_n hx hb d_C_grantRequest_85 rfl (lv_at hl 1 rfl) ?_
      refine lv_aload_n hx hb d_C_grantRequest_86 rfl (lv_at hl 3 rfl) ?_
      refine wcv hW hA (va_runV (As := [.ref (ad (68 + 3 * i))]) (rest := []) ⟨hx, hb, hml, hown, hts⟩ (c_C_joinLine l i hi hO7 _) (cv 1 hts kc_C_joinLine ki_C_joinLine ke_C_joinLine kn_C km_C_94 kh_C_joinLine rfl rfl ⟨by decide, by decide⟩) (preW hW rfl rfl (mw_get (by omega) mk_root)) rfl rfl hl.1 rfl (lv_room (Nat.le_of_ble_eq_true rfl)) d_C_grantRequest_87 ⟨by decide, by decide⟩) (fun uu8 H locs hp8 hW => ?_)
      have hW : Wd D classes (tysA g) s A (wC g ad np (cJoin v7 i)) H locs := hW
      obtain ⟨v9, ev9⟩ : ∃ z : Vs, z = cJoin v7 i := ⟨_, rfl⟩
      rw [← ev9] at hW
      have hO9 : Ok np v9 := by rw [ev9]; exact hO7.join hi
      have hfin : cGrant v j i = v9 := by
        subst ev9 ev7 ev5 ev3 ev2
        simp only [cGrant, cGrE, if_neg c_31, if_neg c_54]
      exact hret () _ _ _ _ _ _ trivial (by show Wd D classes (tysA g) s A (wC g ad np (cGrant v j i)) _ _; rw [hfin]; exact hW) (by decide) (by decide) d_C_grantRequest_90
    · refine lv_aload_n hx hb d_C_grantRequest_57 rfl (lv_at hl 1 rfl) ?_
      refine lv_dup hx hb d_C_grantRequest_58 rfl ?_
      refine wg hx hb hts i_C hown hW (0) (by omega) mk_root rfl 7 (by decide) (hts _ kf_C_124) rfl d_C_grantRequest_59 ?_
      refine lv_aload_n hx hb d_C_grantRequest_62 rfl (lv_at hl 2 rfl) ?_
      refine lv_iload_n hx hb d_C_grantRequest_63 rfl (lv_at hl 0 rfl) ?_
      refine wci hW hA (va_runV (As := [.int (v (68 + 3 * i) 4)]) (rest := [.int (v3 0 7), .ref (ad (0))]) ⟨hx, hb, hml, hown, hts⟩ (c_Page_giveWrite l j hj (v (68 + 3 * i) 4) (nv v (68 + 3 * i) 4) e1 (by omega) hO3 _) (cv 1 hts kc_Page_giveWrite ki_Page_giveWrite ke_Page_giveWrite kn_Page km_C_224 kh_Page_giveWrite rfl rfl ⟨by decide, by decide⟩) (preW hW rfl rfl (mw_get (by omega) (mk_page hj))) rfl rfl hl.1 rfl (lv_room (Nat.le_of_ble_eq_true rfl)) d_C_grantRequest_64 ⟨by decide, by decide⟩) (fun rr10 uu10 H locs hp10 hW => ?_)
      have hW : Wd D classes (tysA g) s A (wC g ad np ((cGW v3 j (v (68 + 3 * i) 4) (nv v (68 + 3 * i) 4)).2)) H locs := hW
      obtain ⟨v11, ev11⟩ : ∃ z : Vs, z = (cGW v3 j (v (68 + 3 * i) 4) (nv v (68 + 3 * i) 4)).2 := ⟨_, rfl⟩
      rw [← ev11] at hW
      have hO11 : Ok np v11 := by rw [ev11]; exact hO3.gw hj
      have hp10 : rr10 = (cGW v3 j (v (68 + 3 * i) 4) (nv v (68 + 3 * i) 4)).1 := hp10
      subst hp10
      refine lv_iadd hx hb d_C_grantRequest_67 ?_
      refine wp hx hb hts i_C t_C t_C_ok n_C hown hW (0) (by omega) mk_root rfl 7 (by decide) (hts _ kf_C_124) rfl (by decide +kernel) (x := (v3 0 7) + ((cGW v3 j (v (68 + 3 * i) 4) (nv v (68 + 3 * i) 4)).1)) (Nat.le_of_ble_eq_true rfl) (mk_root.trans rfl) d_C_grantRequest_68 (fun H locs hW => ?_)
      obtain ⟨v12, ev12⟩ : ∃ z : Vs, z = u2 v11 (0) 7 ((v3 0 7) + ((cGW v3 j (v (68 + 3 * i) 4) (nv v (68 + 3 * i) 4)).1)) := ⟨_, rfl⟩
      rw [← ev12] at hW
      have hO12 : Ok np v12 := by rw [ev12]; exact hO11.set (by omega) (okS_free (by omega))
      refine lv_goto (tgt := 79) hx hb d_C_grantRequest_71 (by decide) ?_
      refine lv_aload_n hx hb d_C_grantRequest_79 rfl (lv_at hl 1 rfl) ?_
      refine lv_aload_n hx hb d_C_grantRequest_80 rfl (lv_at hl 2 rfl) ?_
      refine lv_iload_n hx hb d_C_grantRequest_81 rfl (lv_at hl 0 rfl) ?_
      refine wcv hW hA (va_runV (As := [.ref (ad (28 + 5 * j)), .int (v (68 + 3 * i) 4)]) (rest := []) ⟨hx, hb, hml, hown, hts⟩ (c_C_usePage l j hj (v (68 + 3 * i) 4) (nv v (68 + 3 * i) 4) e1 (by omega) hO12 _) (cv 2 hts kc_C_usePage ki_C_usePage ke_C_usePage kn_C km_C_207 kh_C_usePage rfl rfl ⟨by decide, by decide⟩) (preW hW rfl rfl (mw_get (by omega) mk_root)) rfl rfl hl.1 rfl (lv_room (Nat.le_of_ble_eq_true rfl)) d_C_grantRequest_82 ⟨by decide, by decide⟩) (fun uu13 H locs hp13 hW => ?_)
      have hW : Wd D classes (tysA g) s A (wC g ad np (cUse v12 j (nv v (68 + 3 * i) 4))) H locs := hW
      obtain ⟨v14, ev14⟩ : ∃ z : Vs, z = cUse v12 j (nv v (68 + 3 * i) 4) := ⟨_, rfl⟩
      rw [← ev14] at hW
      have hO14 : Ok np v14 := by rw [ev14]; exact hO12.use hj
      refine lv_aload_n hx hb d_C_grantRequest_85 rfl (lv_at hl 1 rfl) ?_
      refine lv_aload_n hx hb d_C_grantRequest_86 rfl (lv_at hl 3 rfl) ?_
      refine wcv hW hA (va_runV (As := [.ref (ad (68 + 3 * i))]) (rest := []) ⟨hx, hb, hml, hown, hts⟩ (c_C_joinLine l i hi hO14 _) (cv 1 hts kc_C_joinLine ki_C_joinLine ke_C_joinLine kn_C km_C_94 kh_C_joinLine rfl rfl ⟨by decide, by decide⟩) (preW hW rfl rfl (mw_get (by omega) mk_root)) rfl rfl hl.1 rfl (lv_room (Nat.le_of_ble_eq_true rfl)) d_C_grantRequest_87 ⟨by decide, by decide⟩) (fun uu15 H locs hp15 hW => ?_)
      have hW : Wd D classes (tysA g) s A (wC g ad np (cJoin v14 i)) H locs := hW
      obtain ⟨v16, ev16⟩ : ∃ z : Vs, z = cJoin v14 i := ⟨_, rfl⟩
      rw [← ev16] at hW
      have hO16 : Ok np v16 := by rw [ev16]; exact hO14.join hi
      have hfin : cGrant v j i = v16 := by
        subst ev16 ev14 ev12 ev11 ev3 ev2
        simp only [cGrant, cGrE, if_neg c_31, if_pos c_54]
      exact hret () _ _ _ _ _ _ trivial (by show Wd D classes (tysA g) s A (wC g ad np (cGrant v j i)) _ _; rw [hfin]; exact hW) (by decide) (by decide) d_C_grantRequest_90
  · refine lv_aload_n hx hb d_C_grantRequest_34 rfl (lv_at hl 1 rfl) ?_
    refine lv_dup hx hb d_C_grantRequest_35 rfl ?_
    refine wg hx hb hts i_C hown hW (0) (by omega) mk_root rfl 7 (by decide) (hts _ kf_C_124) rfl d_C_grantRequest_36 ?_
    refine lv_iconst (v := 1) hx hb d_C_grantRequest_39 (by decide) ?_
    refine lv_iadd hx hb d_C_grantRequest_40 ?_
    refine wp hx hb hts i_C t_C t_C_ok n_C hown hW (0) (by omega) mk_root rfl 7 (by decide) (hts _ kf_C_124) rfl (by decide +kernel) (x := (v3 0 7) + (1)) (Nat.le_of_ble_eq_true rfl) (mk_root.trans rfl) d_C_grantRequest_41 (fun H locs hW => ?_)
    obtain ⟨v17, ev17⟩ : ∃ z : Vs, z = u2 v3 (0) 7 ((v3 0 7) + (1)) := ⟨_, rfl⟩
    rw [← ev17] at hW
    have hO17 : Ok np v17 := by rw [ev17]; exact hO3.set (by omega) (okS_free (by omega))
    refine lv_aload_n hx hb d_C_grantRequest_44 rfl (lv_at hl 1 rfl) ?_
    refine lv_iload_n hx hb d_C_grantRequest_45 rfl (lv_at hl 0 rfl) ?_
    refine wcv hW hA (va_runV (As := [.int (v (68 + 3 * i) 4)]) (rest := []) ⟨hx, hb, hml, hown, hts⟩ (c_C_makeRoom l (v (68 + 3 * i) 4) (nv v (68 + 3 * i) 4) e1 (by omega) hO17 _) (cv 1 hts kc_C_makeRoom ki_C_makeRoom ke_C_makeRoom kn_C km_C_221 kh_C_makeRoom rfl rfl ⟨by decide, by decide⟩) (preW hW rfl rfl (mw_get (by omega) mk_root)) rfl rfl hl.1 rfl (lv_room (Nat.le_of_ble_eq_true rfl)) d_C_grantRequest_46 ⟨by decide, by decide⟩) (fun uu18 H locs hp18 hW => ?_)
    have hW : Wd D classes (tysA g) s A (wC g ad np (cRoom v17 (v (68 + 3 * i) 4) (nv v (68 + 3 * i) 4))) H locs := hW
    obtain ⟨v19, ev19⟩ : ∃ z : Vs, z = cRoom v17 (v (68 + 3 * i) 4) (nv v (68 + 3 * i) 4) := ⟨_, rfl⟩
    rw [← ev19] at hW
    have hO19 : Ok np v19 := by rw [ev19]; exact hO17.room
    refine lv_aload_n hx hb d_C_grantRequest_49 rfl (lv_at hl 3 rfl) ?_
    refine wg hx hb hts i_Proc hown hW (68 + 3 * i) (by omega) mk_proc rfl 10 (by decide) (hts _ kf_C_195) rfl d_C_grantRequest_50 ?_
    refine lv_iconst (v := 2) hx hb d_C_grantRequest_53 (by decide) ?_
    refine lv_icmp_ne (tgt := 74) hx hb d_C_grantRequest_54 (by decide) (fun c_54 => ?_) (fun c_54 => ?_)
    · refine lv_aload_n hx hb d_C_grantRequest_74 rfl (lv_at hl 2 rfl) ?_
      refine lv_iload_n hx hb d_C_grantRequest_75 rfl (lv_at hl 0 rfl) ?_
      refine wcv hW hA (va_runV (As := [.int (v (68 + 3 * i) 4)]) (rest := []) ⟨hx, hb, hml, hown, hts⟩ (c_Page_giveRead l j hj (v (68 + 3 * i) 4) (nv v (68 + 3 * i) 4) e1 (by omega) hO19 _) (cv 1 hts kc_Page_giveRead ki_Page_giveRead ke_Page_giveRead kn_Page km_C_227 kh_Page_giveRead rfl rfl ⟨by decide, by decide⟩) (preW hW rfl rfl (mw_get (by omega) (mk_page hj))) rfl rfl hl.1 rfl (lv_room (Nat.le_of_ble_eq_true rfl)) d_C_grantRequest_76 ⟨by decide, by decide⟩) (fun uu20 H locs hp20 hW => ?_)
      have hW : Wd D classes (tysA g) s A (wC g ad np (cGR v19 j (v (68 + 3 * i) 4) (nv v (68 + 3 * i) 4))) H locs := hW
      obtain ⟨v21, ev21⟩ : ∃ z : Vs, z = cGR v19 j (v (68 + 3 * i) 4) (nv v (68 + 3 * i) 4) := ⟨_, rfl⟩
      rw [← ev21] at hW
      have hO21 : Ok np v21 := by rw [ev21]; exact hO19.gr hj
      refine lv_aload_n hx hb d_C_grantRequest_79 rfl (lv_at hl 1 rfl) ?_
      refine lv_aload_n hx hb d_C_grantRequest_80 rfl (lv_at hl 2 rfl) ?_
      refine lv_iload_n hx hb d_C_grantRequest_81 rfl (lv_at hl 0 rfl) ?_
      refine wcv hW hA (va_runV (As := [.ref (ad (28 + 5 * j)), .int (v (68 + 3 * i) 4)]) (rest := []) ⟨hx, hb, hml, hown, hts⟩ (c_C_usePage l j hj (v (68 + 3 * i) 4) (nv v (68 + 3 * i) 4) e1 (by omega) hO21 _) (cv 2 hts kc_C_usePage ki_C_usePage ke_C_usePage kn_C km_C_207 kh_C_usePage rfl rfl ⟨by decide, by decide⟩) (preW hW rfl rfl (mw_get (by omega) mk_root)) rfl rfl hl.1 rfl (lv_room (Nat.le_of_ble_eq_true rfl)) d_C_grantRequest_82 ⟨by decide, by decide⟩) (fun uu22 H locs hp22 hW => ?_)
      have hW : Wd D classes (tysA g) s A (wC g ad np (cUse v21 j (nv v (68 + 3 * i) 4))) H locs := hW
      obtain ⟨v23, ev23⟩ : ∃ z : Vs, z = cUse v21 j (nv v (68 + 3 * i) 4) := ⟨_, rfl⟩
      rw [← ev23] at hW
      have hO23 : Ok np v23 := by rw [ev23]; exact hO21.use hj
      refine lv_aload_n hx hb d_C_grantRequest_85 rfl (lv_at hl 1 rfl) ?_
      refine lv_aload_n hx hb d_C_grantRequest_86 rfl (lv_at hl 3 rfl) ?_
      refine wcv hW hA (va_runV (As := [.ref (ad (68 + 3 * i))]) (rest := []) ⟨hx, hb, hml, hown, hts⟩ (c_C_joinLine l i hi hO23 _) (cv 1 hts kc_C_joinLine ki_C_joinLine ke_C_joinLine kn_C km_C_94 kh_C_joinLine rfl rfl ⟨by decide, by decide⟩) (preW hW rfl rfl (mw_get (by omega) mk_root)) rfl rfl hl.1 rfl (lv_room (Nat.le_of_ble_eq_true rfl)) d_C_grantRequest_87 ⟨by decide, by decide⟩) (fun uu24 H locs hp24 hW => ?_)
      have hW : Wd D classes (tysA g) s A (wC g ad np (cJoin v23 i)) H locs := hW
      obtain ⟨v25, ev25⟩ : ∃ z : Vs, z = cJoin v23 i := ⟨_, rfl⟩
      rw [← ev25] at hW
      have hO25 : Ok np v25 := by rw [ev25]; exact hO23.join hi
      have hfin : cGrant v j i = v25 := by
        subst ev25 ev23 ev21 ev19 ev17 ev3 ev2
        simp only [cGrant, cGrE, if_pos c_31, if_neg c_54]
      exact hret () _ _ _ _ _ _ trivial (by show Wd D classes (tysA g) s A (wC g ad np (cGrant v j i)) _ _; rw [hfin]; exact hW) (by decide) (by decide) d_C_grantRequest_90
    · refine lv_aload_n hx hb d_C_grantRequest_57 rfl (lv_at hl 1 rfl) ?_
      refine lv_dup hx hb d_C_grantRequest_58 rfl ?_
      refine wg hx hb hts i_C hown hW (0) (by omega) mk_root rfl 7 (by decide) (hts _ kf_C_124) rfl d_C_grantRequest_59 ?_
      refine lv_aload_n hx hb d_C_grantRequest_62 rfl (lv_at hl 2 rfl) ?_
      refine lv_iload_n hx hb d_C_grantRequest_63 rfl (lv_at hl 0 rfl) ?_
      refine wci hW hA (va_runV (As := [.int (v (68 + 3 * i) 4)]) (rest := [.int (v19 0 7), .ref (ad (0))]) ⟨hx, hb, hml, hown, hts⟩ (c_Page_giveWrite l j hj (v (68 + 3 * i) 4) (nv v (68 + 3 * i) 4) e1 (by omega) hO19 _) (cv 1 hts kc_Page_giveWrite ki_Page_giveWrite ke_Page_giveWrite kn_Page km_C_224 kh_Page_giveWrite rfl rfl ⟨by decide, by decide⟩) (preW hW rfl rfl (mw_get (by omega) (mk_page hj))) rfl rfl hl.1 rfl (lv_room (Nat.le_of_ble_eq_true rfl)) d_C_grantRequest_64 ⟨by decide, by decide⟩) (fun rr26 uu26 H locs hp26 hW => ?_)
      have hW : Wd D classes (tysA g) s A (wC g ad np ((cGW v19 j (v (68 + 3 * i) 4) (nv v (68 + 3 * i) 4)).2)) H locs := hW
      obtain ⟨v27, ev27⟩ : ∃ z : Vs, z = (cGW v19 j (v (68 + 3 * i) 4) (nv v (68 + 3 * i) 4)).2 := ⟨_, rfl⟩
      rw [← ev27] at hW
      have hO27 : Ok np v27 := by rw [ev27]; exact hO19.gw hj
      have hp26 : rr26 = (cGW v19 j (v (68 + 3 * i) 4) (nv v (68 + 3 * i) 4)).1 := hp26
      subst hp26
      refine lv_iadd hx hb d_C_grantRequest_67 ?_
      refine wp hx hb hts i_C t_C t_C_ok n_C hown hW (0) (by omega) mk_root rfl 7 (by decide) (hts _ kf_C_124) rfl (by decide +kernel) (x := (v19 0 7) + ((cGW v19 j (v (68 + 3 * i) 4) (nv v (68 + 3 * i) 4)).1)) (Nat.le_of_ble_eq_true rfl) (mk_root.trans rfl) d_C_grantRequest_68 (fun H locs hW => ?_)
      obtain ⟨v28, ev28⟩ : ∃ z : Vs, z = u2 v27 (0) 7 ((v19 0 7) + ((cGW v19 j (v (68 + 3 * i) 4) (nv v (68 + 3 * i) 4)).1)) := ⟨_, rfl⟩
      rw [← ev28] at hW
      have hO28 : Ok np v28 := by rw [ev28]; exact hO27.set (by omega) (okS_free (by omega))
      refine lv_goto (tgt := 79) hx hb d_C_grantRequest_71 (by decide) ?_
      refine lv_aload_n hx hb d_C_grantRequest_79 rfl (lv_at hl 1 rfl) ?_
      refine lv_aload_n hx hb d_C_grantRequest_80 rfl (lv_at hl 2 rfl) ?_
      refine lv_iload_n hx hb d_C_grantRequest_81 rfl (lv_at hl 0 rfl) ?_
      refine wcv hW hA (va_runV (As := [.ref (ad (28 + 5 * j)), .int (v (68 + 3 * i) 4)]) (rest := []) ⟨hx, hb, hml, hown, hts⟩ (c_C_usePage l j hj (v (68 + 3 * i) 4) (nv v (68 + 3 * i) 4) e1 (by omega) hO28 _) (cv 2 hts kc_C_usePage ki_C_usePage ke_C_usePage kn_C km_C_207 kh_C_usePage rfl rfl ⟨by decide, by decide⟩) (preW hW rfl rfl (mw_get (by omega) mk_root)) rfl rfl hl.1 rfl (lv_room (Nat.le_of_ble_eq_true rfl)) d_C_grantRequest_82 ⟨by decide, by decide⟩) (fun uu29 H locs hp29 hW => ?_)
      have hW : Wd D classes (tysA g) s A (wC g ad np (cUse v28 j (nv v (68 + 3 * i) 4))) H locs := hW
      obtain ⟨v30, ev30⟩ : ∃ z : Vs, z = cUse v28 j (nv v (68 + 3 * i) 4) := ⟨_, rfl⟩
      rw [← ev30] at hW
      have hO30 : Ok np v30 := by rw [ev30]; exact hO28.use hj
      refine lv_aload_n hx hb d_C_grantRequest_85 rfl (lv_at hl 1 rfl) ?_
      refine lv_aload_n hx hb d_C_grantRequest_86 rfl (lv_at hl 3 rfl) ?_
      refine wcv hW hA (va_runV (As := [.ref (ad (68 + 3 * i))]) (rest := []) ⟨hx, hb, hml, hown, hts⟩ (c_C_joinLine l i hi hO30 _) (cv 1 hts kc_C_joinLine ki_C_joinLine ke_C_joinLine kn_C km_C_94 kh_C_joinLine rfl rfl ⟨by decide, by decide⟩) (preW hW rfl rfl (mw_get (by omega) mk_root)) rfl rfl hl.1 rfl (lv_room (Nat.le_of_ble_eq_true rfl)) d_C_grantRequest_87 ⟨by decide, by decide⟩) (fun uu31 H locs hp31 hW => ?_)
      have hW : Wd D classes (tysA g) s A (wC g ad np (cJoin v30 i)) H locs := hW
      obtain ⟨v32, ev32⟩ : ∃ z : Vs, z = cJoin v30 i := ⟨_, rfl⟩
      rw [← ev32] at hW
      have hO32 : Ok np v32 := by rw [ev32]; exact hO30.join hi
      have hfin : cGrant v j i = v32 := by
        subst ev32 ev30 ev28 ev27 ev19 ev17 ev3 ev2
        simp only [cGrant, cGrE, if_pos c_31, if_pos c_54]
      exact hret () _ _ _ _ _ _ trivial (by show Wd D classes (tysA g) s A (wC g ad np (cGrant v j i)) _ _; rw [hfin]; exact hW) (by decide) (by decide) d_C_grantRequest_90
abbrev rm_C_requestsStanding : Room := { frames := 0, cells := 0, slots := 0, locals := 0 }
set_option maxHeartbeats 4000000 in
set_option maxRecDepth 100000 in
theorem c_C_requestsStanding (l : Launch) {D : va_G} {g : Nat → ClassId} {ad : Nat → Nat} {np : Nat} {v : Vs} (hO : Ok np v) : MtI l y_C_requestsStanding ws_C_requestsStanding rm_C_requestsStanding D classes (tysA g) [.ref (ad (0))] (wC g ad np (v)) (fun (rr : Int32) (_ : Unit) => rr = cReqL v 8 0 0) (fun _ => wC g ad np (v)) 0 0 := by
  refine mt_i (ty := .int) (fun _ _ _ => rfl) (by decide +kernel) rfl (Nat.le_of_ble_eq_true rfl) (fun p e s m args below meth c Q A C hA hW hret ls hl => ?_)
  obtain ⟨hx, hb, hr, hml, hown, hts0, hlocks⟩ := C
  have hts : ∀ w ∈ bigw, w.before args s = true := fun w h => hts0 w (List.mem_cons_of_mem _ h)
  have hown : s.vm.findClass R_C = some m.cls := hown
  have hnp := hO.le
  have hl : lv_has ls 3 [(0, .ref (ad (0)))] := hl
  refine lv_iconst (v := 0) hx hb d_C_requestsStanding_0 (by decide) ?_
  refine lv_istore_n (lv' := [(1, .int (0)), (0, .ref (ad (0)))]) hx hb d_C_requestsStanding_1 rfl hl (by decide) rfl (fun ls hl => ?_)
  refine lv_iconst (v := 0) hx hb d_C_requestsStanding_2 (by decide) ?_
  refine lv_istore_n (lv' := [(2, .int (0)), (1, .int (0)), (0, .ref (ad (0)))]) hx hb d_C_requestsStanding_3 rfl hl (by decide) rfl (fun ls hl => ?_)
  have loop : ∀ (r : Nat) (t : Nat) (acc : Int32) (H : Heap) (locs : List Loc) (ls : Array Slot), 8 = t + r → cReqL v r t acc = cReqL v 8 0 0 → Wd D classes (tysA g) s A (wC g ad np (v)) H locs → lv_has ls 3 [(0, .ref (ad (0))), (1, .int (acc)), (2, .int (nI (t)))] → W p l e rm_C_requestsStanding s m args below meth c H locs 0 0 Q (F0 m 4 ls []) := by
    intro r
    induction r with
    | zero =>
      intro t acc H locs ls h3 hT hW hl
      refine lv_iload_n hx hb d_C_requestsStanding_4 rfl (lv_at hl 2 rfl) ?_
      refine lv_bipush (v := 8) hx hb d_C_requestsStanding_5 (by decide) ?_
      refine lv_icmp_ge (tgt := 31) hx hb d_C_requestsStanding_7 (by decide) (fun c_7 => ?_) (fun c_7 => ?_)
      · have nc_7 : 8 ≤ t := ni_le rfl rfl (by omega) (by omega) c_7
        refine lv_iload_n hx hb d_C_requestsStanding_31 rfl (lv_at hl 1 rfl) ?_
        exact hret _ () _ _ _ _ _ _ (show acc = cReqL v 8 0 0 by rw [← hT]; rfl) hW (by decide) (by decide) d_C_requestsStanding_32
      · have nc_7 : t < 8 := ni_nle rfl rfl (by omega) (by omega) c_7
        exfalso; omega
    | succ r ih =>
      intro t acc H locs ls h3 hT hW hl
      refine lv_iload_n hx hb d_C_requestsStanding_4 rfl (lv_at hl 2 rfl) ?_
      refine lv_bipush (v := 8) hx hb d_C_requestsStanding_5 (by decide) ?_
      refine lv_icmp_ge (tgt := 31) hx hb d_C_requestsStanding_7 (by decide) (fun c_7 => ?_) (fun c_7 => ?_)
      · have nc_7 : 8 ≤ t := ni_le rfl rfl (by omega) (by omega) c_7
        exfalso; omega
      · have nc_7 : t < 8 := ni_nle rfl rfl (by omega) (by omega) c_7
        refine lv_iload_n hx hb d_C_requestsStanding_10 rfl (lv_at hl 1 rfl) ?_
        refine lv_aload_n hx hb d_C_requestsStanding_11 rfl (lv_at hl 0 rfl) ?_
        refine wg hx hb hts i_C hown hW (0) (by omega) mk_root rfl 3 (by decide) (hts _ kf_C_29) rfl d_C_requestsStanding_12 ?_
        refine lv_iload_n hx hb d_C_requestsStanding_15 rfl (lv_at hl 2 rfl) ?_
        have hi1 : t < 8 := by omega
        refine wa hx hb hW 4 (by omega) mk_pages 4 rfl (t) rfl (by omega) (by decide) (if_pos hi1) d_C_requestsStanding_16 ?_
        refine wg hx hb hts i_Page hown hW (28 + 5 * t) (by omega) (mk_page hi1) rfl 2 (by decide) (hts _ kf_C_76) rfl d_C_requestsStanding_17 ?_
        refine wg hx hb hts i_Line hown hW (28 + 5 * t + 3) (by have := ln_lt (ln_page hi1); omega) (mk_line (ln_page hi1)) rfl 1 (by decide) (hts _ kf_C_62) rfl d_C_requestsStanding_20 ?_
        obtain ⟨e2, b2⟩ := hO.size (ln_page hi1)
        refine lv_iadd hx hb d_C_requestsStanding_23 ?_
        refine lv_istore_n (lv' := [(1, .int ((acc) + (v (28 + 5 * t + 3) 1))), (0, .ref (ad (0))), (2, .int (nI (t)))]) hx hb d_C_requestsStanding_24 rfl hl (by decide) rfl (fun ls hl => ?_)
        refine lv_iinc (v := nI (t + 1)) (lv' := [(2, .int (nI (t + 1))), (1, .int ((acc) + (v (28 + 5 * t + 3) 1))), (0, .ref (ad (0)))]) hx hb d_C_requestsStanding_25 hl (k := 2) rfl (nI_1 _) (by decide) rfl (fun ls hl => ?_)
        refine lv_goto (tgt := 4) hx hb d_C_requestsStanding_28 (by decide) ?_
        refine ih (t + 1) _ _ _ _ (by omega) ?_ hW (lv_sub hl [2, 1, 0] rfl)
        rw [← hT, cReqL]
  exact loop 8 0 0 _ _ _ rfl rfl hW (lv_sub hl [2, 1, 0] rfl)
abbrev rm_C_processesReady : Room := { frames := 0, cells := 0, slots := 0, locals := 0 }
set_option maxHeartbeats 4000000 in
set_option maxRecDepth 100000 in
theorem c_C_processesReady (l : Launch) {D : va_G} {g : Nat → ClassId} {ad : Nat → Nat} {np : Nat} {v : Vs} (hO : Ok np v) : MtI l y_C_processesReady ws_C_processesReady rm_C_processesReady D classes (tysA g) [.ref (ad (0))] (wC g ad np (v)) (fun (rr : Int32) (_ : Unit) => rr = cRdyL v 3 0 0) (fun _ => wC g ad np (v)) 0 0 := by
  refine mt_i (ty := .int) (fun _ _ _ => rfl) (by decide +kernel) rfl (Nat.le_of_ble_eq_true rfl) (fun p e s m args below meth c Q A C hA hW hret ls hl => ?_)
  obtain ⟨hx, hb, hr, hml, hown, hts0, hlocks⟩ := C
  have hts : ∀ w ∈ bigw, w.before args s = true := fun w h => hts0 w (List.mem_cons_of_mem _ h)
  have hown : s.vm.findClass R_C = some m.cls := hown
  have hnp := hO.le
  have hl : lv_has ls 3 [(0, .ref (ad (0)))] := hl
  refine lv_iconst (v := 0) hx hb d_C_processesReady_0 (by decide) ?_
  refine lv_istore_n (lv' := [(1, .int (0)), (0, .ref (ad (0)))]) hx hb d_C_processesReady_1 rfl hl (by decide) rfl (fun ls hl => ?_)
  refine lv_iconst (v := 0) hx hb d_C_processesReady_2 (by decide) ?_
  refine lv_istore_n (lv' := [(2, .int (0)), (1, .int (0)), (0, .ref (ad (0)))]) hx hb d_C_processesReady_3 rfl hl (by decide) rfl (fun ls hl => ?_)
  have loop : ∀ (r : Nat) (t : Nat) (acc : Int32) (H : Heap) (locs : List Loc) (ls : Array Slot), 3 = t + r → cRdyL v r t acc = cRdyL v 3 0 0 → Wd D classes (tysA g) s A (wC g ad np (v)) H locs → lv_has ls 3 [(0, .ref (ad (0))), (1, .int (acc)), (2, .int (nI (t)))] → W p l e rm_C_processesReady s m args below meth c H locs 0 0 Q (F0 m 4 ls []) := by
    intro r
    induction r with
    | zero =>
      intro t acc H locs ls h3 hT hW hl
      refine lv_iload_n hx hb d_C_processesReady_4 rfl (lv_at hl 2 rfl) ?_
      refine lv_iconst (v := 3) hx hb d_C_processesReady_5 (by decide) ?_
      refine lv_icmp_ge (tgt := 27) hx hb d_C_processesReady_6 (by decide) (fun c_6 => ?_) (fun c_6 => ?_)
      · have nc_6 : 3 ≤ t := ni_le rfl rfl (by omega) (by omega) c_6
        refine lv_iload_n hx hb d_C_processesReady_27 rfl (lv_at hl 1 rfl) ?_
        exact hret _ () _ _ _ _ _ _ (show acc = cRdyL v 3 0 0 by rw [← hT]; rfl) hW (by decide) (by decide) d_C_processesReady_28
      · have nc_6 : t < 3 := ni_nle rfl rfl (by omega) (by omega) c_6
        exfalso; omega
    | succ r ih =>
      intro t acc H locs ls h3 hT hW hl
      refine lv_iload_n hx hb d_C_processesReady_4 rfl (lv_at hl 2 rfl) ?_
      refine lv_iconst (v := 3) hx hb d_C_processesReady_5 (by decide) ?_
      refine lv_icmp_ge (tgt := 27) hx hb d_C_processesReady_6 (by decide) (fun c_6 => ?_) (fun c_6 => ?_)
      · have nc_6 : 3 ≤ t := ni_le rfl rfl (by omega) (by omega) c_6
        exfalso; omega
      · have nc_6 : t < 3 := ni_nle rfl rfl (by omega) (by omega) c_6
        refine lv_iload_n hx hb d_C_processesReady_9 rfl (lv_at hl 1 rfl) ?_
        refine lv_aload_n hx hb d_C_processesReady_10 rfl (lv_at hl 0 rfl) ?_
        refine wg hx hb hts i_C hown hW (0) (by omega) mk_root rfl 2 (by decide) (hts _ kf_C_23) rfl d_C_processesReady_11 ?_
        refine lv_iload_n hx hb d_C_processesReady_14 rfl (lv_at hl 2 rfl) ?_
        have hk1 : isLn (22 + 2 * t) := ln_node (by omega)
        refine wa hx hb hW 3 (by omega) mk_lines 3 rfl (t) rfl (by omega) (by decide) (if_pos (by omega)) d_C_processesReady_15 ?_
        refine wg hx hb hts i_Line hown hW (22 + 2 * t) (by have := ln_lt hk1; omega) (mk_line hk1) rfl 1 (by decide) (hts _ kf_C_62) rfl d_C_processesReady_16 ?_
        obtain ⟨e2, b2⟩ := hO.size hk1
        refine lv_iadd hx hb d_C_processesReady_19 ?_
        refine lv_istore_n (lv' := [(1, .int ((acc) + (v (22 + 2 * t) 1))), (0, .ref (ad (0))), (2, .int (nI (t)))]) hx hb d_C_processesReady_20 rfl hl (by decide) rfl (fun ls hl => ?_)
        refine lv_iinc (v := nI (t + 1)) (lv' := [(2, .int (nI (t + 1))), (1, .int ((acc) + (v (22 + 2 * t) 1))), (0, .ref (ad (0)))]) hx hb d_C_processesReady_21 hl (k := 2) rfl (nI_1 _) (by decide) rfl (fun ls hl => ?_)
        refine lv_goto (tgt := 4) hx hb d_C_processesReady_24 (by decide) ?_
        refine ih (t + 1) _ _ _ _ (by omega) ?_ hW (lv_sub hl [2, 1, 0] rfl)
        rw [← hT, cRdyL]
  exact loop 3 0 0 _ _ _ rfl rfl hW (lv_sub hl [2, 1, 0] rfl)
abbrev rm_Program_add : Room := { frames := 0, cells := 0, slots := 0, locals := 0 }
set_option maxHeartbeats 4000000 in
set_option maxRecDepth 100000 in
theorem c_Program_add (l : Launch) {D : va_G} {g : Nat → ClassId} {ad : Nat → Nat} {np : Nat} {v : Vs} (i : Nat) (hi : i < 4) (op : Int32) (a : Int32) (b : Int32) (hO : Ok np v) (hs : nv v (6 + 4 * i) 3 < 12) : MtV l y_Program_add ws_Program_add rm_Program_add D classes (tysA g) [.ref (ad (6 + 4 * i)), .int (op), .int (a), .int (b)] (wC g ad np (v)) (fun _ : Unit => True) (fun _ => wC g ad np (cAdd v i op a b)) 0 0 := by
  refine mt_v (by decide +kernel) rfl (Nat.le_of_ble_eq_true rfl) (fun p e s m args below meth c Q A C hnm hA hW hret ls hl => ?_)
  obtain ⟨hx, hb, hr, hml, hown, hts0, hlocks⟩ := C
  have hts : ∀ w ∈ bigw, w.before args s = true := fun w h => hts0 w (List.mem_cons_of_mem _ h)
  have hown : s.vm.findClass R_Program = some m.cls := hown
  have hnp := hO.le
  have hl : lv_has ls 4 [(0, .ref (ad (6 + 4 * i))), (1, .int (op)), (2, .int (a)), (3, .int (b))] := hl
  refine lv_aload_n hx hb d_Program_add_0 rfl (lv_at hl 0 rfl) ?_
  refine wg hx hb hts i_Program hown hW (6 + 4 * i) (by omega) (mk_program hi) rfl 0 (by decide) (hts _ kf_Program_9) rfl d_Program_add_1 ?_
  refine lv_aload_n hx hb d_Program_add_4 rfl (lv_at hl 0 rfl) ?_
  refine wg hx hb hts i_Program hown hW (6 + 4 * i) (by omega) (mk_program hi) rfl 3 (by decide) (hts _ kf_Program_21) rfl d_Program_add_5 ?_
  obtain ⟨e1, b1⟩ := hO.psize hi
  refine lv_iload_n hx hb d_Program_add_8 rfl (lv_at hl 1 rfl) ?_
  refine wis hx hb hW (6 + 4 * i + 1) (by omega) (mk_ops hi (by decide) (by decide)) 0 rfl (nv v (6 + 4 * i) 3) e1 (by omega) (by decide) (x := op) (mk_ops hi (by decide) (by decide)) d_Program_add_9 (fun H locs hW => ?_)
  obtain ⟨v2, ev2⟩ : ∃ z : Vs, z = u2 v (6 + 4 * i + 1) (nv v (6 + 4 * i) 3) (op) := ⟨_, rfl⟩
  rw [← ev2] at hW
  have t2_3 : nv v2 (6 + 4 * i) 3 = nv v (6 + 4 * i) 3 := by rw [← (rfl : nv v (6 + 4 * i) 3 = nv v (6 + 4 * i) 3)]; unfold nv; rw [ev2, u2_a (by omega)]
  have hO2 : Ok np v2 := by rw [ev2]; exact hO.pset hi (by decide) (by decide) (by omega)
  refine lv_aload_n hx hb d_Program_add_10 rfl (lv_at hl 0 rfl) ?_
  refine wg hx hb hts i_Program hown hW (6 + 4 * i) (by omega) (mk_program hi) rfl 1 (by decide) (hts _ kf_Program_15) rfl d_Program_add_11 ?_
  refine lv_aload_n hx hb d_Program_add_14 rfl (lv_at hl 0 rfl) ?_
  refine wg hx hb hts i_Program hown hW (6 + 4 * i) (by omega) (mk_program hi) rfl 3 (by decide) (hts _ kf_Program_21) rfl d_Program_add_15 ?_
  obtain ⟨e3, b3⟩ := hO2.psize hi
  refine lv_iload_n hx hb d_Program_add_18 rfl (lv_at hl 2 rfl) ?_
  refine wis hx hb hW (6 + 4 * i + 2) (by omega) (mk_ops hi (by decide) (by decide)) 0 rfl (nv v2 (6 + 4 * i) 3) e3 (by omega) (by decide) (x := a) (mk_ops hi (by decide) (by decide)) d_Program_add_19 (fun H locs hW => ?_)
  obtain ⟨v4, ev4⟩ : ∃ z : Vs, z = u2 v2 (6 + 4 * i + 2) (nv v2 (6 + 4 * i) 3) (a) := ⟨_, rfl⟩
  rw [← ev4] at hW
  have t4_3 : nv v4 (6 + 4 * i) 3 = nv v (6 + 4 * i) 3 := by rw [← t2_3]; unfold nv; rw [ev4, u2_a (by omega)]
  have hO4 : Ok np v4 := by rw [ev4]; exact hO2.pset hi (by decide) (by decide) (by omega)
  refine lv_aload_n hx hb d_Program_add_20 rfl (lv_at hl 0 rfl) ?_
  refine wg hx hb hts i_Program hown hW (6 + 4 * i) (by omega) (mk_program hi) rfl 2 (by decide) (hts _ kf_Program_18) rfl d_Program_add_21 ?_
  refine lv_aload_n hx hb d_Program_add_24 rfl (lv_at hl 0 rfl) ?_
  refine wg hx hb hts i_Program hown hW (6 + 4 * i) (by omega) (mk_program hi) rfl 3 (by decide) (hts _ kf_Program_21) rfl d_Program_add_25 ?_
  obtain ⟨e5, b5⟩ := hO4.psize hi
  refine lv_iload_n hx hb d_Program_add_28 rfl (lv_at hl 3 rfl) ?_
  refine wis hx hb hW (6 + 4 * i + 3) (by omega) (mk_ops hi (by decide) (by decide)) 0 rfl (nv v4 (6 + 4 * i) 3) e5 (by omega) (by decide) (x := b) (mk_ops hi (by decide) (by decide)) d_Program_add_29 (fun H locs hW => ?_)
  obtain ⟨v6, ev6⟩ : ∃ z : Vs, z = u2 v4 (6 + 4 * i + 3) (nv v4 (6 + 4 * i) 3) (b) := ⟨_, rfl⟩
  rw [← ev6] at hW
  have t6_3 : nv v6 (6 + 4 * i) 3 = nv v (6 + 4 * i) 3 := by rw [← t4_3]; unfold nv; rw [ev6, u2_a (by omega)]
  have hO6 : Ok np v6 := by rw [ev6]; exact hO4.pset hi (by decide) (by decide) (by omega)
  refine lv_aload_n hx hb d_Program_add_30 rfl (lv_at hl 0 rfl) ?_
  refine lv_dup hx hb d_Program_add_31 rfl ?_
  refine wg hx hb hts i_Program hown hW (6 + 4 * i) (by omega) (mk_program hi) rfl 3 (by decide) (hts _ kf_Program_21) rfl d_Program_add_32 ?_
  obtain ⟨e7, b7⟩ := hO6.psize hi
  refine lv_iconst (v := 1) hx hb d_Program_add_35 (by decide) ?_
  refine lv_iadd hx hb d_Program_add_36 ?_
  refine wp hx hb hts i_Program t_Program t_Program_ok n_Program hown hW (6 + 4 * i) (by omega) (mk_program hi) rfl 3 (by decide) (hts _ kf_Program_21) rfl (by decide +kernel) (x := (v6 (6 + 4 * i) 3) + (1)) (Nat.le_of_ble_eq_true rfl) ((mk_program hi).trans rfl) d_Program_add_37 (fun H locs hW => ?_)
  obtain ⟨v8, ev8⟩ : ∃ z : Vs, z = u2 v6 (6 + 4 * i) 3 ((v6 (6 + 4 * i) 3) + (1)) := ⟨_, rfl⟩
  rw [← ev8] at hW
  have hfin : cAdd v i op a b = v8 := by
    subst ev8 ev6 ev4 ev2
    rfl
  exact hret () _ _ _ _ _ _ trivial (by show Wd D classes (tysA g) s A (wC g ad np (cAdd v i op a b)) _ _; rw [hfin]; exact hW) (by decide) (by decide) d_Program_add_40
abbrev rm_C_instr : Room := { frames := 2, cells := 0, slots := 0, locals := 42 }
set_option maxHeartbeats 4000000 in
set_option maxRecDepth 100000 in
theorem c_C_instr (l : Launch) {D : va_G} {g : Nat → ClassId} {ad : Nat → Nat} {np : Nat} {v : Vs} (x : Int32) (op : Int32) (a : Int32) (b : Int32) (hO : Ok np v) : MtI l y_C_instr ws_C_instr rm_C_instr D classes (tysA g) [.ref (ad (0)), .int (x), .int (op), .int (a), .int (b)] (wC g ad np (v)) (fun (rr : Int32) (_ : Unit) => rr = (mInstr v x op a b).1) (fun _ => wC g ad np ((mInstr v x op a b).2)) 0 0 := by
  refine mt_i (ty := .int) (fun _ _ _ => rfl) (by decide +kernel) rfl (Nat.le_of_ble_eq_true rfl) (fun p e s m args below meth c Q A C hA hW hret ls hl => ?_)
  obtain ⟨hx, hb, hr, hml, hown, hts0, hlocks⟩ := C
  have hts : ∀ w ∈ bigw, w.before args s = true := fun w h => hts0 w (List.mem_cons_of_mem _ h)
  have hown : s.vm.findClass R_C = some m.cls := hown
  have hnp := hO.le
  have hl : lv_has ls 6 [(0, .ref (ad (0))), (1, .int (x)), (2, .int (op)), (3, .int (a)), (4, .int (b))] := hl
  refine lv_iload_n hx hb d_C_instr_0 rfl (lv_at hl 1 rfl) ?_
  refine lv_iconst (v := 4) hx hb d_C_instr_1 (by decide) ?_
  refine wci hW hA (va_runS (As := [.int (x), .int (4)]) (rest := []) ⟨hx, hb, hml, hown, hts⟩ (c_C_isIn l _ (x) (4) _) (cs 2 hts kc_C_isIn ks_C_isIn kn_C km_C_40 kh_C_isIn rfl rfl ⟨by decide, by decide⟩) (preWS hW) rfl rfl hl.1 rfl (lv_room (Nat.le_of_ble_eq_true rfl)) d_C_instr_2 ⟨by decide, by decide⟩) (fun rr1 uu1 H locs hp1 hW => ?_)
  have hW : Wd D classes (tysA g) s A (wC g ad np (v)) H locs := hW
  have hp1 : rr1 = if inI (x) (4) then 1 else 0 := hp1
  refine lv_if_eq (tgt := 34) hx hb d_C_instr_5 (by decide) (fun c_5 => ?_) (fun c_5 => ?_)
  · have c_5 : ¬ (inI (x) (4)) := bo_eq hp1 c_5
    refine lv_iconst (v := (-1)) hx hb d_C_instr_34 (by decide) ?_
    have hfin : mInstr v x op a b = ((-1), v) := by
      skip; simp only [mInstr, if_neg c_5]
    refine hret _ () _ _ _ _ _ _ ?_ (by show Wd D classes (tysA g) s A (wC g ad np ((mInstr v x op a b).2)) _ _; rw [hfin]; exact hW) (by decide) (by decide) d_C_instr_35
    show (-1) = (mInstr v x op a b).1
    rw [hfin]
  · have c_5 : inI (x) (4) := bo_ne hp1 c_5
    obtain ⟨e2, b2⟩ := inI_nn (N := 4) rfl (by omega) c_5
    refine lv_iload_n hx hb d_C_instr_8 rfl (lv_at hl 2 rfl) ?_
    refine lv_bipush (v := 13) hx hb d_C_instr_9 (by decide) ?_
    refine wci hW hA (va_runS (As := [.int (op), .int (13)]) (rest := []) ⟨hx, hb, hml, hown, hts⟩ (c_C_isIn l _ (op) (13) _) (cs 2 hts kc_C_isIn ks_C_isIn kn_C km_C_40 kh_C_isIn rfl rfl ⟨by decide, by decide⟩) (preWS hW) rfl rfl hl.1 rfl (lv_room (Nat.le_of_ble_eq_true rfl)) d_C_instr_11 ⟨by decide, by decide⟩) (fun rr3 uu3 H locs hp3 hW => ?_)
    have hW : Wd D classes (tysA g) s A (wC g ad np (v)) H locs := hW
    have hp3 : rr3 = if inI (op) (13) then 1 else 0 := hp3
    refine lv_if_eq (tgt := 34) hx hb d_C_instr_14 (by decide) (fun c_14 => ?_) (fun c_14 => ?_)
    · have c_14 : ¬ (inI (op) (13)) := bo_eq hp3 c_14
      refine lv_iconst (v := (-1)) hx hb d_C_instr_34 (by decide) ?_
      have hfin : mInstr v x op a b = ((-1), v) := by
        skip; simp only [mInstr, if_pos c_5, if_neg c_14]
      refine hret _ () _ _ _ _ _ _ ?_ (by show Wd D classes (tysA g) s A (wC g ad np ((mInstr v x op a b).2)) _ _; rw [hfin]; exact hW) (by decide) (by decide) d_C_instr_35
      show (-1) = (mInstr v x op a b).1
      rw [hfin]
    · have c_14 : inI (op) (13) := bo_ne hp3 c_14
      obtain ⟨e4, b4⟩ := inI_nn (N := 13) rfl (by omega) c_14
      refine lv_iload_n hx hb d_C_instr_17 rfl (lv_at hl 3 rfl) ?_
      refine lv_iconst (v := 4) hx hb d_C_instr_18 (by decide) ?_
      refine wci hW hA (va_runS (As := [.int (a), .int (4)]) (rest := []) ⟨hx, hb, hml, hown, hts⟩ (c_C_isIn l _ (a) (4) _) (cs 2 hts kc_C_isIn ks_C_isIn kn_C km_C_40 kh_C_isIn rfl rfl ⟨by decide, by decide⟩) (preWS hW) rfl rfl hl.1 rfl (lv_room (Nat.le_of_ble_eq_true rfl)) d_C_instr_19 ⟨by decide, by decide⟩) (fun rr5 uu5 H locs hp5 hW => ?_)
      have hW : Wd D classes (tysA g) s A (wC g ad np (v)) H locs := hW
      have hp5 : rr5 = if inI (a) (4) then 1 else 0 := hp5
      refine lv_if_eq (tgt := 34) hx hb d_C_instr_22 (by decide) (fun c_22 => ?_) (fun c_22 => ?_)
      · have c_22 : ¬ (inI (a) (4)) := bo_eq hp5 c_22
        refine lv_iconst (v := (-1)) hx hb d_C_instr_34 (by decide) ?_
        have hfin : mInstr v x op a b = ((-1), v) := by
          skip; simp only [mInstr, if_pos c_5, if_pos c_14, if_neg c_22]
        refine hret _ () _ _ _ _ _ _ ?_ (by show Wd D classes (tysA g) s A (wC g ad np ((mInstr v x op a b).2)) _ _; rw [hfin]; exact hW) (by decide) (by decide) d_C_instr_35
        show (-1) = (mInstr v x op a b).1
        rw [hfin]
      · have c_22 : inI (a) (4) := bo_ne hp5 c_22
        obtain ⟨e6, b6⟩ := inI_nn (N := 4) rfl (by omega) c_22
        refine lv_iload_n hx hb d_C_instr_25 rfl (lv_at hl 2 rfl) ?_
        refine lv_iload hx hb d_C_instr_26 (lv_at hl 4 rfl) ?_
        refine wci hW hA (va_runS (As := [.int (op), .int (b)]) (rest := []) ⟨hx, hb, hml, hown, hts⟩ (c_C_fitsOp l _ (op) (b) _) (cs 2 hts kc_C_fitsOp ks_C_fitsOp kn_C km_C_44 kh_C_fitsOp rfl rfl ⟨by decide, by decide⟩) (preWS hW) rfl rfl hl.1 rfl (lv_room (Nat.le_of_ble_eq_true rfl)) d_C_instr_28 ⟨by decide, by decide⟩) (fun rr7 uu7 H locs hp7 hW => ?_)
        have hW : Wd D classes (tysA g) s A (wC g ad np (v)) H locs := hW
        have hp7 : rr7 = if fitP (op) (b) then 1 else 0 := hp7
        refine lv_if_ne (tgt := 36) hx hb d_C_instr_31 (by decide) (fun c_31 => ?_) (fun c_31 => ?_)
        · have c_31 : fitP (op) (b) := bo_ne hp7 c_31
          refine lv_aload_n hx hb d_C_instr_36 rfl (lv_at hl 0 rfl) ?_
          refine wg hx hb hts i_C hown hW (0) (by omega) mk_root rfl 0 (by decide) (hts _ kf_C_11) rfl d_C_instr_37 ?_
          refine lv_iload_n hx hb d_C_instr_40 rfl (lv_at hl 1 rfl) ?_
          have hi8 : nn x < 4 := by omega
          refine wa hx hb hW 1 (by omega) mk_programs 1 rfl (nn x) e2 (by omega) (by decide) (if_pos hi8) d_C_instr_41 ?_
          refine lv_astore (lv' := [(5, .ref (ad (6 + 4 * (nn x)))), (0, .ref (ad (0))), (1, .int (x)), (2, .int (op)), (3, .int (a)), (4, .int (b))]) hx hb d_C_instr_42 hl (by decide) rfl (fun ls hl => ?_)
          refine lv_aload hx hb d_C_instr_44 (lv_at hl 0 rfl) ?_
          refine wg hx hb hts i_Program hown hW (6 + 4 * (nn x)) (by omega) (mk_program hi8) rfl 3 (by decide) (hts _ kf_C_47) rfl d_C_instr_46 ?_
          obtain ⟨e9, b9⟩ := hO.psize hi8
          refine lv_bipush (v := 12) hx hb d_C_instr_49 (by decide) ?_
          refine lv_icmp_ne (tgt := 57) hx hb d_C_instr_51 (by decide) (fun c_51 => ?_) (fun c_51 => ?_)
          · have nc_51 : ¬ nv v (6 + 4 * (nn x)) 3 = 12 := ni_ne e9 rfl (by omega) (by omega) c_51
            have hsz : nv v (6 + 4 * nn x) 3 < 12 := by omega
            refine lv_aload hx hb d_C_instr_57 (lv_at hl 0 rfl) ?_
            refine lv_iload_n hx hb d_C_instr_59 rfl (lv_at hl 3 rfl) ?_
            refine lv_iload_n hx hb d_C_instr_60 rfl (lv_at hl 4 rfl) ?_
            refine lv_iload hx hb d_C_instr_61 (lv_at hl 5 rfl) ?_
            refine wcv hW hA (va_runV (As := [.int (op), .int (a), .int (b)]) (rest := []) ⟨hx, hb, hml, hown, hts⟩ (c_Program_add l (nn x) hi8 (op) (a) (b) hO hsz _) (cv 3 hts kc_Program_add ki_Program_add ke_Program_add kn_Program km_C_51 kh_Program_add rfl rfl ⟨by decide, by decide⟩) (preW hW rfl rfl (mw_get (by omega) (mk_program hi8))) rfl rfl hl.1 rfl (lv_room (Nat.le_of_ble_eq_true rfl)) d_C_instr_63 ⟨by decide, by decide⟩) (fun uu10 H locs hp10 hW => ?_)
            have hW : Wd D classes (tysA g) s A (wC g ad np (cAdd v (nn x) (op) (a) (b))) H locs := hW
            obtain ⟨v11, ev11⟩ : ∃ z : Vs, z = cAdd v (nn x) (op) (a) (b) := ⟨_, rfl⟩
            rw [← ev11] at hW
            refine lv_aload hx hb d_C_instr_66 (lv_at hl 0 rfl) ?_
            refine wg hx hb hts i_Program hown hW (6 + 4 * (nn x)) (by omega) (mk_program hi8) rfl 3 (by decide) (hts _ kf_C_47) rfl d_C_instr_68 ?_
            obtain ⟨e12, b12⟩ := hO.psize hi8
            have hfin : mInstr v x op a b = (v11 (6 + 4 * (nn x)) 3, v11) := by
              subst ev11; simp only [mInstr, if_pos c_5, if_pos c_14, if_pos c_22, if_pos c_31, if_neg c_51]
            refine hret _ () _ _ _ _ _ _ ?_ (by show Wd D classes (tysA g) s A (wC g ad np ((mInstr v x op a b).2)) _ _; rw [hfin]; exact hW) (by decide) (by decide) d_C_instr_71
            show v11 (6 + 4 * (nn x)) 3 = (mInstr v x op a b).1
            rw [hfin]
          · have nc_51 : nv v (6 + 4 * (nn x)) 3 = 12 := ni_eq e9 rfl (by omega) (by omega) c_51
            refine lv_bipush (v := (-2)) hx hb d_C_instr_54 (by decide) ?_
            have hfin : mInstr v x op a b = ((-2), v) := by
              skip; simp only [mInstr, if_pos c_5, if_pos c_14, if_pos c_22, if_pos c_31, if_pos c_51]
            refine hret _ () _ _ _ _ _ _ ?_ (by show Wd D classes (tysA g) s A (wC g ad np ((mInstr v x op a b).2)) _ _; rw [hfin]; exact hW) (by decide) (by decide) d_C_instr_56
            show (-2) = (mInstr v x op a b).1
            rw [hfin]
        · have c_31 : ¬ (fitP (op) (b)) := bo_eq hp7 c_31
          refine lv_iconst (v := (-1)) hx hb d_C_instr_34 (by decide) ?_
          have hfin : mInstr v x op a b = ((-1), v) := by
            skip; simp only [mInstr, if_pos c_5, if_pos c_14, if_pos c_22, if_neg c_31]
          refine hret _ () _ _ _ _ _ _ ?_ (by show Wd D classes (tysA g) s A (wC g ad np ((mInstr v x op a b).2)) _ _; rw [hfin]; exact hW) (by decide) (by decide) d_C_instr_35
          show (-1) = (mInstr v x op a b).1
          rw [hfin]
abbrev rm_C_serve : Room := { frames := 4, cells := 0, slots := 0, locals := 91 }
set_option maxHeartbeats 4000000 in
set_option maxRecDepth 100000 in
theorem c_C_serve (l : Launch) {D : va_G} {g : Nat → ClassId} {ad : Nat → Nat} {np : Nat} {v : Vs} (x : Int32) (hO : Ok np v) : MtI l y_C_serve ws_C_serve rm_C_serve D classes (tysA g) [.ref (ad (0)), .int (x)] (wC g ad np (v)) (fun (rr : Int32) (_ : Unit) => rr = (mServe v x).1) (fun _ => wC g ad np ((mServe v x).2)) 0 0 := by
  refine mt_i (ty := .int) (fun _ _ _ => rfl) (by decide +kernel) rfl (Nat.le_of_ble_eq_true rfl) (fun p e s m args below meth c Q A C hA hW hret ls hl => ?_)
  obtain ⟨hx, hb, hr, hml, hown, hts0, hlocks⟩ := C
  have hts : ∀ w ∈ bigw, w.before args s = true := fun w h => hts0 w (List.mem_cons_of_mem _ h)
  have hown : s.vm.findClass R_C = some m.cls := hown
  have hnp := hO.le
  have hl : lv_has ls 6 [(0, .ref (ad (0))), (1, .int (x))] := hl
  refine lv_iload_n hx hb d_C_serve_0 rfl (lv_at hl 1 rfl) ?_
  refine lv_bipush (v := 8) hx hb d_C_serve_1 (by decide) ?_
  refine wci hW hA (va_runS (As := [.int (x), .int (8)]) (rest := []) ⟨hx, hb, hml, hown, hts⟩ (c_C_isIn l _ (x) (8) _) (cs 2 hts kc_C_isIn ks_C_isIn kn_C km_C_40 kh_C_isIn rfl rfl ⟨by decide, by decide⟩) (preWS hW) rfl rfl hl.1 rfl (lv_room (Nat.le_of_ble_eq_true rfl)) d_C_serve_3 ⟨by decide, by decide⟩) (fun rr1 uu1 H locs hp1 hW => ?_)
  have hW : Wd D classes (tysA g) s A (wC g ad np (v)) H locs := hW
  have hp1 : rr1 = if inI (x) (8) then 1 else 0 := hp1
  refine lv_if_ne (tgt := 11) hx hb d_C_serve_6 (by decide) (fun c_6 => ?_) (fun c_6 => ?_)
  · have c_6 : inI (x) (8) := bo_ne hp1 c_6
    obtain ⟨e2, b2⟩ := inI_nn (N := 8) rfl (by omega) c_6
    refine lv_aload_n hx hb d_C_serve_11 rfl (lv_at hl 0 rfl) ?_
    refine wg hx hb hts i_C hown hW (0) (by omega) mk_root rfl 3 (by decide) (hts _ kf_C_29) rfl d_C_serve_12 ?_
    refine lv_iload_n hx hb d_C_serve_15 rfl (lv_at hl 1 rfl) ?_
    have hi3 : nn x < 8 := by omega
    refine wa hx hb hW 4 (by omega) mk_pages 4 rfl (nn x) e2 (by omega) (by decide) (if_pos hi3) d_C_serve_16 ?_
    refine wg hx hb hts i_Page hown hW (28 + 5 * (nn x)) (by omega) (mk_page hi3) rfl 2 (by decide) (hts _ kf_C_76) rfl d_C_serve_17 ?_
    refine lv_astore_n (lv' := [(2, .ref (ad (28 + 5 * (nn x) + 3))), (0, .ref (ad (0))), (1, .int (x))]) hx hb d_C_serve_20 rfl hl (by decide) rfl (fun ls hl => ?_)
    refine lv_aload_n hx hb d_C_serve_21 rfl (lv_at hl 0 rfl) ?_
    refine wg hx hb hts i_Line hown hW (28 + 5 * (nn x) + 3) (by have := ln_lt (ln_page hi3); omega) (mk_line (ln_page hi3)) rfl 1 (by decide) (hts _ kf_C_62) rfl d_C_serve_22 ?_
    obtain ⟨e4, b4⟩ := hO.size (ln_page hi3)
    refine lv_istore_n (lv' := [(3, .int (v (28 + 5 * (nn x) + 3) 1)), (2, .ref (ad (28 + 5 * (nn x) + 3))), (0, .ref (ad (0))), (1, .int (x))]) hx hb d_C_serve_25 rfl hl (by decide) rfl (fun ls hl => ?_)
    refine lv_iconst (v := 0) hx hb d_C_serve_26 (by decide) ?_
    refine lv_istore (lv' := [(4, .int (0)), (3, .int (v (28 + 5 * (nn x) + 3) 1)), (2, .ref (ad (28 + 5 * (nn x) + 3))), (0, .ref (ad (0))), (1, .int (x))]) hx hb d_C_serve_27 hl (by decide) rfl (fun ls hl => ?_)
    have hjx : nn x < 8 := by omega
    have hM : mServe v x = cServeL (nn x) (nv v (28 + 5 * nn x + 3) 1) v := by simp only [mServe, if_pos c_6]
    obtain ⟨sz, esz⟩ : ∃ z, z = nv v (28 + 5 * nn x + 3) 1 := ⟨_, rfl⟩
    have hsz : v (28 + 5 * (nn x) + 3) 1 = nI sz := by rw [esz]; exact e4
    have hs8 : sz ≤ 8 ∧ (0 < sz → 0 < np) := by rw [esz]; exact (hO.size (ln_page hjx)).2
    have loop : ∀ (r : Nat) (t : Nat) (vc : Vs) (H : Heap) (locs : List Loc) (ls : Array Slot), Ok np vc → sz = t + r → cServeL (nn x) r vc = cServeL (nn x) (nv v (28 + 5 * nn x + 3) 1) v → Wd D classes (tysA g) s A (wC g ad np (vc)) H locs → lv_has ls 6 [(0, .ref (ad (0))), (1, .int (x)), (2, .ref (ad (28 + 5 * (nn x) + 3))), (3, .int (v (28 + 5 * (nn x) + 3) 1)), (4, .int (nI (t)))] → W p l e rm_C_serve s m args below meth c H locs 0 0 Q (F0 m 29 ls []) := by
      intro r
      induction r with
      | zero =>
        intro t vc H locs ls hOc h3 hT hW hl
        refine lv_iload hx hb d_C_serve_29 (lv_at hl 4 rfl) ?_
        refine lv_iload_n hx hb d_C_serve_31 rfl (lv_at hl 3 rfl) ?_
        refine lv_icmp_ge (tgt := 90) hx hb d_C_serve_32 (by decide) (fun c_32 => ?_) (fun c_32 => ?_)
        · have nc_32 : sz ≤ t := ni_le hsz rfl (by omega) (by omega) c_32
          refine lv_bipush (v := (-3)) hx hb d_C_serve_90 (by decide) ?_
          have hfin : mServe v x = (-3, vc) := by rw [hM, ← hT]; rfl
          exact hret _ () _ _ _ _ _ _ (show (-3 : Int32) = (mServe v x).1 by rw [hfin]) (by show Wd D classes (tysA g) s A (wC g ad np ((mServe v x).2)) _ _; rw [hfin]; exact hW) (by decide) (by decide) d_C_serve_92
        · have nc_32 : t < sz := ni_nle hsz rfl (by omega) (by omega) c_32
          exfalso; omega
      | succ r ih =>
        intro t vc H locs ls hOc h3 hT hW hl
        refine lv_iload hx hb d_C_serve_29 (lv_at hl 4 rfl) ?_
        refine lv_iload_n hx hb d_C_serve_31 rfl (lv_at hl 3 rfl) ?_
        refine lv_icmp_ge (tgt := 90) hx hb d_C_serve_32 (by decide) (fun c_32 => ?_) (fun c_32 => ?_)
        · have nc_32 : sz ≤ t := ni_le hsz rfl (by omega) (by omega) c_32
          exfalso; omega
        · have nc_32 : t < sz := ni_nle hsz rfl (by omega) (by omega) c_32
          refine lv_aload_n hx hb d_C_serve_35 rfl (lv_at hl 0 rfl) ?_
          refine wg hx hb hts i_C hown hW (0) (by omega) mk_root rfl 1 (by decide) (hts _ kf_C_17) rfl d_C_serve_36 ?_
          refine lv_aload_n hx hb d_C_serve_39 rfl (lv_at hl 2 rfl) ?_
          refine wg hx hb hts i_Line hown hW (28 + 5 * (nn x) + 3) (by have := ln_lt (ln_page hjx); omega) (mk_line (ln_page hjx)) rfl 0 (by decide) (hts _ kf_C_63) rfl d_C_serve_40 ?_
          refine lv_iconst (v := 0) hx hb d_C_serve_43 (by decide) ?_
          refine wi hx hb hW (28 + 5 * (nn x) + 3 + 1) (by have := ln_lt (ln_page hjx); omega) (mk_items (ln_page hjx)) 0 rfl (0) rfl (by omega) (by decide) d_C_serve_44 ?_
          obtain ⟨e5, b5⟩ := hOc.item (ln_page hjx) (0) (by omega)
          have hi6 : nv vc (28 + 5 * (nn x) + 3 + 1) 0 < np := by omega
          refine wa hx hb hW 2 (by omega) mk_processes 2 rfl (nv vc (28 + 5 * (nn x) + 3 + 1) 0) e5 (by omega) (by decide) (if_pos hi6) d_C_serve_45 ?_
          refine lv_astore (lv' := [(5, .ref (ad (68 + 3 * (nv vc (28 + 5 * (nn x) + 3 + 1) 0)))), (0, .ref (ad (0))), (1, .int (x)), (2, .ref (ad (28 + 5 * (nn x) + 3))), (3, .int (v (28 + 5 * (nn x) + 3) 1)), (4, .int (nI (t)))]) hx hb d_C_serve_46 hl (by decide) rfl (fun ls hl => ?_)
          refine lv_aload_n hx hb d_C_serve_48 rfl (lv_at hl 3 rfl) ?_
          refine lv_aload hx hb d_C_serve_49 (lv_at hl 0 rfl) ?_
          refine wg hx hb hts i_Proc hown hW (68 + 3 * (nv vc (28 + 5 * (nn x) + 3 + 1) 0)) (by omega) mk_proc rfl 0 (by decide) (hts _ kf_C_73) rfl d_C_serve_51 ?_
          obtain ⟨e7, b7⟩ := hOc.number hi6
          refine wcv hW hA (va_runV (As := [.int (vc (68 + 3 * (nv vc (28 + 5 * (nn x) + 3 + 1) 0)) 0)]) (rest := []) ⟨hx, hb, hml, hown, hts⟩ (c_Line_remove l (28 + 5 * (nn x) + 3) (ln_page hjx) (vc (68 + 3 * (nv vc (28 + 5 * (nn x) + 3 + 1) 0)) 0) hOc (by omega) _) (cv 1 hts kc_Line_remove ki_Line_remove ke_Line_remove kn_Line km_C_80 kh_Line_remove rfl rfl ⟨by decide, by decide⟩) (preW hW rfl rfl (mw_get (by have := ln_lt (ln_page hjx); omega) (mk_line (ln_page hjx)))) rfl rfl hl.1 rfl (lv_room (Nat.le_of_ble_eq_true rfl)) d_C_serve_54 ⟨by decide, by decide⟩) (fun uu8 H locs hp8 hW => ?_)
          have hW : Wd D classes (tysA g) s A (wC g ad np (cRem vc (28 + 5 * (nn x) + 3) (vc (68 + 3 * (nv vc (28 + 5 * (nn x) + 3 + 1) 0)) 0))) H locs := hW
          obtain ⟨v9, ev9⟩ : ∃ z : Vs, z = cRem vc (28 + 5 * (nn x) + 3) (vc (68 + 3 * (nv vc (28 + 5 * (nn x) + 3 + 1) 0)) 0) := ⟨_, rfl⟩
          rw [← ev9] at hW
          have hO9 : Ok np v9 := by rw [ev9]; exact hOc.rem (ln_page hjx) (by omega)
          refine lv_aload hx hb d_C_serve_57 (lv_at hl 0 rfl) ?_
          refine wg hx hb hts i_Proc hown hW (68 + 3 * (nv vc (28 + 5 * (nn x) + 3 + 1) 0)) (by omega) mk_proc rfl 5 (by decide) (hts _ kf_C_70) rfl d_C_serve_59 ?_
          refine lv_iconst (v := 4) hx hb d_C_serve_62 (by decide) ?_
          refine lv_icmp_eq (tgt := 84) hx hb d_C_serve_63 (by decide) (fun c_63 => ?_) (fun c_63 => ?_)
          · refine lv_iinc (v := nI (t + 1)) (lv' := [(4, .int (nI (t + 1))), (5, .ref (ad (68 + 3 * (nv vc (28 + 5 * (nn x) + 3 + 1) 0)))), (0, .ref (ad (0))), (1, .int (x)), (2, .ref (ad (28 + 5 * (nn x) + 3))), (3, .int (v (28 + 5 * (nn x) + 3) 1))]) hx hb d_C_serve_84 hl (k := 5) rfl (nI_1 _) (by decide) rfl (fun ls hl => ?_)
            refine lv_goto (tgt := 29) hx hb d_C_serve_87 (by decide) ?_
            refine ih (t + 1) v9 _ _ _ hO9 (by omega) ?_ hW (lv_sub hl [2, 3, 4, 5, 0] rfl)
            rw [← hT, cServeL]; subst ev9; simp only [if_pos c_63]
          · refine lv_aload_n hx hb d_C_serve_66 rfl (lv_at hl 1 rfl) ?_
            refine lv_aload_n hx hb d_C_serve_67 rfl (lv_at hl 1 rfl) ?_
            refine wg hx hb hts i_C hown hW (0) (by omega) mk_root rfl 3 (by decide) (hts _ kf_C_29) rfl d_C_serve_68 ?_
            refine lv_iload_n hx hb d_C_serve_71 rfl (lv_at hl 2 rfl) ?_
            have hi10 : nn x < 8 := by omega
            refine wa hx hb hW 4 (by omega) mk_pages 4 rfl (nn x) e2 (by omega) (by decide) (if_pos hi10) d_C_serve_72 ?_
            refine lv_aload hx hb d_C_serve_73 (lv_at hl 0 rfl) ?_
            refine wcv hW hA (va_runV (As := [.ref (ad (28 + 5 * (nn x))), .ref (ad (68 + 3 * (nv vc (28 + 5 * (nn x) + 3 + 1) 0)))]) (rest := []) ⟨hx, hb, hml, hown, hts⟩ (c_C_grantRequest l (nn x) hi10 (nv vc (28 + 5 * (nn x) + 3 + 1) 0) hi6 hO9 _) (cv 2 hts kc_C_grantRequest ki_C_grantRequest ke_C_grantRequest kn_C km_C_84 kh_C_grantRequest rfl rfl ⟨by decide, by decide⟩) (preW hW rfl rfl (mw_get (by omega) mk_root)) rfl rfl hl.1 rfl (lv_room (Nat.le_of_ble_eq_true rfl)) d_C_serve_75 ⟨by decide, by decide⟩) (fun uu11 H locs hp11 hW => ?_)
            have hW : Wd D classes (tysA g) s A (wC g ad np (cGrant v9 (nn x) (nv vc (28 + 5 * (nn x) + 3 + 1) 0))) H locs := hW
            obtain ⟨v12, ev12⟩ : ∃ z : Vs, z = cGrant v9 (nn x) (nv vc (28 + 5 * (nn x) + 3 + 1) 0) := ⟨_, rfl⟩
            rw [← ev12] at hW
            have hO12 : Ok np v12 := by rw [ev12]; exact hO9.grant hi10 hi6
            refine lv_aload hx hb d_C_serve_78 (lv_at hl 0 rfl) ?_
            refine wg hx hb hts i_Proc hown hW (68 + 3 * (nv vc (28 + 5 * (nn x) + 3 + 1) 0)) (by omega) mk_proc rfl 0 (by decide) (hts _ kf_C_73) rfl d_C_serve_80 ?_
            obtain ⟨e13, b13⟩ := hO12.number hi6
            have hfin : mServe v x = (v12 (68 + 3 * (nv vc (28 + 5 * (nn x) + 3 + 1) 0)) 0, v12) := by rw [hM, ← hT, cServeL]; subst ev12 ev9; simp only [if_neg c_63]
            exact hret _ () _ _ _ _ _ _ (show v12 (68 + 3 * (nv vc (28 + 5 * (nn x) + 3 + 1) 0)) 0 = (mServe v x).1 by rw [hfin]) (by show Wd D classes (tysA g) s A (wC g ad np ((mServe v x).2)) _ _; rw [hfin]; exact hW) (by decide) (by decide) d_C_serve_83
    exact loop sz 0 v _ _ _ hO (by omega) (by rw [esz]) hW (lv_sub hl [3, 4, 2, 1, 0] rfl)
  · have c_6 : ¬ (inI (x) (8)) := bo_eq hp1 c_6
    refine lv_iconst (v := (-1)) hx hb d_C_serve_9 (by decide) ?_
    have hfin : mServe v x = (-1, v) := by simp only [mServe, if_neg c_6]
    exact hret _ () _ _ _ _ _ _ (show (-1 : Int32) = (mServe v x).1 by rw [hfin]) (by show Wd D classes (tysA g) s A (wC g ad np ((mServe v x).2)) _ _; rw [hfin]; exact hW) (by decide) (by decide) d_C_serve_10
abbrev rm_C_migrate : Room := { frames := 2, cells := 0, slots := 0, locals := 42 }
set_option maxHeartbeats 4000000 in
set_option maxRecDepth 100000 in
theorem c_C_migrate (l : Launch) {D : va_G} {g : Nat → ClassId} {ad : Nat → Nat} {np : Nat} {v : Vs} (x : Int32) (y : Int32) (hO : Ok np v) : MtI l y_C_migrate ws_C_migrate rm_C_migrate D classes (tysA g) [.ref (ad (0)), .int (x), .int (y)] (wC g ad np (v)) (fun (rr : Int32) (_ : Unit) => rr = (mMigrate v x y).1) (fun _ => wC g ad np ((mMigrate v x y).2)) 0 0 := by
  refine mt_i (ty := .int) (fun _ _ _ => rfl) (by decide +kernel) rfl (Nat.le_of_ble_eq_true rfl) (fun p e s m args below meth c Q A C hA hW hret ls hl => ?_)
  obtain ⟨hx, hb, hr, hml, hown, hts0, hlocks⟩ := C
  have hts : ∀ w ∈ bigw, w.before args s = true := fun w h => hts0 w (List.mem_cons_of_mem _ h)
  have hown : s.vm.findClass R_C = some m.cls := hown
  have hnp := hO.le
  have hl : lv_has ls 5 [(0, .ref (ad (0))), (1, .int (x)), (2, .int (y))] := hl
  refine lv_iload_n hx hb d_C_migrate_0 rfl (lv_at hl 1 rfl) ?_
  refine lv_aload_n hx hb d_C_migrate_1 rfl (lv_at hl 0 rfl) ?_
  refine wg hx hb hts i_C hown hW (0) (by omega) mk_root rfl 5 (by decide) (hts _ kf_C_55) rfl d_C_migrate_2 ?_
  obtain ⟨e1, b1⟩ := hO.made
  refine wci hW hA (va_runS (As := [.int (x), .int (v 0 5)]) (rest := []) ⟨hx, hb, hml, hown, hts⟩ (c_C_isIn l _ (x) (v 0 5) _) (cs 2 hts kc_C_isIn ks_C_isIn kn_C km_C_40 kh_C_isIn rfl rfl ⟨by decide, by decide⟩) (preWS hW) rfl rfl hl.1 rfl (lv_room (Nat.le_of_ble_eq_true rfl)) d_C_migrate_5 ⟨by decide, by decide⟩) (fun rr2 uu2 H locs hp2 hW => ?_)
  have hW : Wd D classes (tysA g) s A (wC g ad np (v)) H locs := hW
  have hp2 : rr2 = if inI (x) (v 0 5) then 1 else 0 := hp2
  refine lv_if_eq (tgt := 19) hx hb d_C_migrate_8 (by decide) (fun c_8 => ?_) (fun c_8 => ?_)
  · have c_8 : ¬ (inI (x) (v 0 5)) := bo_eq hp2 c_8
    refine lv_iconst (v := (-1)) hx hb d_C_migrate_19 (by decide) ?_
    have hfin : mMigrate v x y = ((-1), v) := by
      skip; simp only [mMigrate, cMove, if_neg c_8]
    refine hret _ () _ _ _ _ _ _ ?_ (by show Wd D classes (tysA g) s A (wC g ad np ((mMigrate v x y).2)) _ _; rw [hfin]; exact hW) (by decide) (by decide) d_C_migrate_20
    show (-1) = (mMigrate v x y).1
    rw [hfin]
  · have c_8 : inI (x) (v 0 5) := bo_ne hp2 c_8
    obtain ⟨e3, b3⟩ := inI_nn (N := np) e1 (by omega) c_8
    refine lv_iload_n hx hb d_C_migrate_11 rfl (lv_at hl 2 rfl) ?_
    refine lv_iconst (v := 3) hx hb d_C_migrate_12 (by decide) ?_
    refine wci hW hA (va_runS (As := [.int (y), .int (3)]) (rest := []) ⟨hx, hb, hml, hown, hts⟩ (c_C_isIn l _ (y) (3) _) (cs 2 hts kc_C_isIn ks_C_isIn kn_C km_C_40 kh_C_isIn rfl rfl ⟨by decide, by decide⟩) (preWS hW) rfl rfl hl.1 rfl (lv_room (Nat.le_of_ble_eq_true rfl)) d_C_migrate_13 ⟨by decide, by decide⟩) (fun rr4 uu4 H locs hp4 hW => ?_)
    have hW : Wd D classes (tysA g) s A (wC g ad np (v)) H locs := hW
    have hp4 : rr4 = if inI (y) (3) then 1 else 0 := hp4
    refine lv_if_ne (tgt := 21) hx hb d_C_migrate_16 (by decide) (fun c_16 => ?_) (fun c_16 => ?_)
    · have c_16 : inI (y) (3) := bo_ne hp4 c_16
      obtain ⟨e5, b5⟩ := inI_nn (N := 3) rfl (by omega) c_16
      refine lv_aload_n hx hb d_C_migrate_21 rfl (lv_at hl 0 rfl) ?_
      refine wg hx hb hts i_C hown hW (0) (by omega) mk_root rfl 1 (by decide) (hts _ kf_C_17) rfl d_C_migrate_22 ?_
      refine lv_iload_n hx hb d_C_migrate_25 rfl (lv_at hl 1 rfl) ?_
      have hi6 : nn x < np := by omega
      refine wa hx hb hW 2 (by omega) mk_processes 2 rfl (nn x) e3 (by omega) (by decide) (if_pos hi6) d_C_migrate_26 ?_
      refine lv_astore_n (lv' := [(3, .ref (ad (68 + 3 * (nn x)))), (0, .ref (ad (0))), (1, .int (x)), (2, .int (y))]) hx hb d_C_migrate_27 rfl hl (by decide) rfl (fun ls hl => ?_)
      refine lv_aload_n hx hb d_C_migrate_28 rfl (lv_at hl 0 rfl) ?_
      refine wg hx hb hts i_Proc hown hW (68 + 3 * (nn x)) (by omega) mk_proc rfl 5 (by decide) (hts _ kf_C_70) rfl d_C_migrate_29 ?_
      refine lv_iconst (v := 4) hx hb d_C_migrate_32 (by decide) ?_
      refine lv_icmp_eq (tgt := 44) hx hb d_C_migrate_33 (by decide) (fun c_33 => ?_) (fun c_33 => ?_)
      · refine lv_iconst (v := (-1)) hx hb d_C_migrate_44 (by decide) ?_
        have hfin : mMigrate v x y = ((-1), v) := by
          skip; simp only [mMigrate, cMove, if_pos c_8, if_pos c_16, if_pos c_33]
        refine hret _ () _ _ _ _ _ _ ?_ (by show Wd D classes (tysA g) s A (wC g ad np ((mMigrate v x y).2)) _ _; rw [hfin]; exact hW) (by decide) (by decide) d_C_migrate_45
        show (-1) = (mMigrate v x y).1
        rw [hfin]
      · refine lv_aload_n hx hb d_C_migrate_36 rfl (lv_at hl 0 rfl) ?_
        refine wg hx hb hts i_Proc hown hW (68 + 3 * (nn x)) (by omega) mk_proc rfl 4 (by decide) (hts _ kf_C_88) rfl d_C_migrate_37 ?_
        obtain ⟨e7, b7⟩ := hO.place hi6
        refine lv_iload_n hx hb d_C_migrate_40 rfl (lv_at hl 3 rfl) ?_
        refine lv_icmp_ne (tgt := 46) hx hb d_C_migrate_41 (by decide) (fun c_41 => ?_) (fun c_41 => ?_)
        · have nc_41 : ¬ nv v (68 + 3 * (nn x)) 4 = nn y := ni_ne e7 e5 (by omega) (by omega) c_41
          refine lv_aload_n hx hb d_C_migrate_46 rfl (lv_at hl 0 rfl) ?_
          refine wg hx hb hts i_Proc hown hW (68 + 3 * (nn x)) (by omega) mk_proc rfl 4 (by decide) (hts _ kf_C_88) rfl d_C_migrate_47 ?_
          obtain ⟨e8, b8⟩ := hO.place hi6
          refine lv_istore (lv' := [(4, .int (v (68 + 3 * (nn x)) 4)), (3, .ref (ad (68 + 3 * (nn x)))), (0, .ref (ad (0))), (1, .int (x)), (2, .int (y))]) hx hb d_C_migrate_50 hl (by decide) rfl (fun ls hl => ?_)
          refine lv_aload_n hx hb d_C_migrate_52 rfl (lv_at hl 2 rfl) ?_
          refine wg hx hb hts i_C hown hW (0) (by omega) mk_root rfl 2 (by decide) (hts _ kf_C_23) rfl d_C_migrate_53 ?_
          refine lv_iload hx hb d_C_migrate_56 (lv_at hl 0 rfl) ?_
          have hk9 : isLn (22 + 2 * (nv v (68 + 3 * (nn x)) 4)) := ln_node (by omega)
          refine wa hx hb hW 3 (by omega) mk_lines 3 rfl (nv v (68 + 3 * (nn x)) 4) e8 (by omega) (by decide) (if_pos (by omega)) d_C_migrate_58 ?_
          refine lv_iload_n hx hb d_C_migrate_59 rfl (lv_at hl 3 rfl) ?_
          refine wcv hW hA (va_runV (As := [.int (x)]) (rest := []) ⟨hx, hb, hml, hown, hts⟩ (c_Line_remove l (22 + 2 * (nv v (68 + 3 * (nn x)) 4)) hk9 (x) hO (by omega) _) (cv 1 hts kc_Line_remove ki_Line_remove ke_Line_remove kn_Line km_C_80 kh_Line_remove rfl rfl ⟨by decide, by decide⟩) (preW hW rfl rfl (mw_get (by have := ln_lt hk9; omega) (mk_line hk9))) rfl rfl hl.1 rfl (lv_room (Nat.le_of_ble_eq_true rfl)) d_C_migrate_60 ⟨by decide, by decide⟩) (fun uu10 H locs hp10 hW => ?_)
          have hW : Wd D classes (tysA g) s A (wC g ad np (cRem v (22 + 2 * (nv v (68 + 3 * (nn x)) 4)) (x))) H locs := hW
          obtain ⟨v11, ev11⟩ : ∃ z : Vs, z = cRem v (22 + 2 * (nv v (68 + 3 * (nn x)) 4)) (x) := ⟨_, rfl⟩
          rw [← ev11] at hW
          have hO11 : Ok np v11 := by rw [ev11]; exact hO.rem hk9 (by omega)
          refine lv_aload_n hx hb d_C_migrate_63 rfl (lv_at hl 1 rfl) ?_
          refine lv_iload_n hx hb d_C_migrate_64 rfl (lv_at hl 4 rfl) ?_
          refine wp hx hb hts i_Proc t_Proc t_Proc_ok n_Proc hown hW (68 + 3 * (nn x)) (by omega) mk_proc rfl 4 (by decide) (hts _ kf_C_88) rfl (by decide +kernel) (x := y) (Nat.le_of_ble_eq_true rfl) (mk_proc.trans rfl) d_C_migrate_65 (fun H locs hW => ?_)
          obtain ⟨v12, ev12⟩ : ∃ z : Vs, z = u2 v11 (68 + 3 * (nn x)) 4 (y) := ⟨_, rfl⟩
          rw [← ev12] at hW
          have hO12 : Ok np v12 := by rw [ev12]; exact hO11.set (by omega) (okS_place ⟨nn y, by omega, e5⟩)
          refine lv_aload_n hx hb d_C_migrate_68 rfl (lv_at hl 1 rfl) ?_
          refine wg hx hb hts i_Proc hown hW (68 + 3 * (nn x)) (by omega) mk_proc rfl 3 (by decide) (hts _ kf_C_91) rfl d_C_migrate_69 ?_
          refine lv_iload hx hb d_C_migrate_72 (lv_at hl 0 rfl) ?_
          refine lv_iload_n hx hb d_C_migrate_74 rfl (lv_at hl 4 rfl) ?_
          refine wis hx hb hW (68 + 3 * (nn x) + 2) (by omega) mk_hints 0 rfl (nv v (68 + 3 * (nn x)) 4) e8 (by omega) (by decide) (x := y) mk_hints d_C_migrate_75 (fun H locs hW => ?_)
          obtain ⟨v13, ev13⟩ : ∃ z : Vs, z = u2 v12 (68 + 3 * (nn x) + 2) (nv v (68 + 3 * (nn x)) 4) (y) := ⟨_, rfl⟩
          rw [← ev13] at hW
          have hO13 : Ok np v13 := by rw [ev13]; exact hO12.set (by omega) (okS_hint ⟨nn y, by omega, e5⟩)
          refine lv_aload_n hx hb d_C_migrate_76 rfl (lv_at hl 1 rfl) ?_
          refine wg hx hb hts i_Proc hown hW (68 + 3 * (nn x)) (by omega) mk_proc rfl 3 (by decide) (hts _ kf_C_91) rfl d_C_migrate_77 ?_
          refine lv_iload_n hx hb d_C_migrate_80 rfl (lv_at hl 4 rfl) ?_
          refine lv_iload_n hx hb d_C_migrate_81 rfl (lv_at hl 4 rfl) ?_
          refine wis hx hb hW (68 + 3 * (nn x) + 2) (by omega) mk_hints 0 rfl (nn y) e5 (by omega) (by decide) (x := y) mk_hints d_C_migrate_82 (fun H locs hW => ?_)
          obtain ⟨v14, ev14⟩ : ∃ z : Vs, z = u2 v13 (68 + 3 * (nn x) + 2) (nn y) (y) := ⟨_, rfl⟩
          rw [← ev14] at hW
          have hO14 : Ok np v14 := by rw [ev14]; exact hO13.set (by omega) (okS_hint ⟨nn y, by omega, e5⟩)
          refine lv_aload_n hx hb d_C_migrate_83 rfl (lv_at hl 1 rfl) ?_
          refine wg hx hb hts i_Proc hown hW (68 + 3 * (nn x)) (by omega) mk_proc rfl 5 (by decide) (hts _ kf_C_70) rfl d_C_migrate_84 ?_
          refine lv_iconst (v := 1) hx hb d_C_migrate_87 (by decide) ?_
          refine lv_icmp_ne (tgt := 96) hx hb d_C_migrate_88 (by decide) (fun c_88 => ?_) (fun c_88 => ?_)
          · refine lv_iload hx hb d_C_migrate_96 (lv_at hl 0 rfl) ?_
            have hfin : mMigrate v x y = (v (68 + 3 * (nn x)) 4, v14) := by
              subst ev14 ev13 ev12 ev11; simp only [mMigrate, cMove, if_pos c_8, if_pos c_16, if_neg c_33, if_neg c_41, if_neg c_88]
            refine hret _ () _ _ _ _ _ _ ?_ (by show Wd D classes (tysA g) s A (wC g ad np ((mMigrate v x y).2)) _ _; rw [hfin]; exact hW) (by decide) (by decide) d_C_migrate_98
            show v (68 + 3 * (nn x)) 4 = (mMigrate v x y).1
            rw [hfin]
          · refine lv_aload_n hx hb d_C_migrate_91 rfl (lv_at hl 2 rfl) ?_
            refine lv_aload_n hx hb d_C_migrate_92 rfl (lv_at hl 1 rfl) ?_
            refine wcv hW hA (va_runV (As := [.ref (ad (68 + 3 * (nn x)))]) (rest := []) ⟨hx, hb, hml, hown, hts⟩ (c_C_joinLine l (nn x) hi6 hO14 _) (cv 1 hts kc_C_joinLine ki_C_joinLine ke_C_joinLine kn_C km_C_94 kh_C_joinLine rfl rfl ⟨by decide, by decide⟩) (preW hW rfl rfl (mw_get (by omega) mk_root)) rfl rfl hl.1 rfl (lv_room (Nat.le_of_ble_eq_true rfl)) d_C_migrate_93 ⟨by decide, by decide⟩) (fun uu15 H locs hp15 hW => ?_)
            have hW : Wd D classes (tysA g) s A (wC g ad np (cJoin v14 (nn x))) H locs := hW
            obtain ⟨v16, ev16⟩ : ∃ z : Vs, z = cJoin v14 (nn x) := ⟨_, rfl⟩
            rw [← ev16] at hW
            have hO16 : Ok np v16 := by rw [ev16]; exact hO14.join hi6
            refine lv_iload hx hb d_C_migrate_96 (lv_at hl 0 rfl) ?_
            have hfin : mMigrate v x y = (v (68 + 3 * (nn x)) 4, v16) := by
              subst ev16 ev14 ev13 ev12 ev11; simp only [mMigrate, cMove, if_pos c_8, if_pos c_16, if_neg c_33, if_neg c_41, if_pos c_88]
            refine hret _ () _ _ _ _ _ _ ?_ (by show Wd D classes (tysA g) s A (wC g ad np ((mMigrate v x y).2)) _ _; rw [hfin]; exact hW) (by decide) (by decide) d_C_migrate_98
            show v (68 + 3 * (nn x)) 4 = (mMigrate v x y).1
            rw [hfin]
        · have nc_41 : nv v (68 + 3 * (nn x)) 4 = nn y := ni_eq e7 e5 (by omega) (by omega) c_41
          refine lv_iconst (v := (-1)) hx hb d_C_migrate_44 (by decide) ?_
          have hfin : mMigrate v x y = ((-1), v) := by
            skip; simp only [mMigrate, cMove, if_pos c_8, if_pos c_16, if_neg c_33, if_pos c_41]
          refine hret _ () _ _ _ _ _ _ ?_ (by show Wd D classes (tysA g) s A (wC g ad np ((mMigrate v x y).2)) _ _; rw [hfin]; exact hW) (by decide) (by decide) d_C_migrate_45
          show (-1) = (mMigrate v x y).1
          rw [hfin]
    · have c_16 : ¬ (inI (y) (3)) := bo_eq hp4 c_16
      refine lv_iconst (v := (-1)) hx hb d_C_migrate_19 (by decide) ?_
      have hfin : mMigrate v x y = ((-1), v) := by
        skip; simp only [mMigrate, cMove, if_pos c_8, if_neg c_16]
      refine hret _ () _ _ _ _ _ _ ?_ (by show Wd D classes (tysA g) s A (wC g ad np ((mMigrate v x y).2)) _ _; rw [hfin]; exact hW) (by decide) (by decide) d_C_migrate_20
      show (-1) = (mMigrate v x y).1
      rw [hfin]
abbrev rm_C_find : Room := { frames := 1, cells := 0, slots := 0, locals := 21 }
set_option maxHeartbeats 4000000 in
set_option maxRecDepth 100000 in
theorem c_C_find (l : Launch) {D : va_G} {g : Nat → ClassId} {ad : Nat → Nat} {np : Nat} {v : Vs} (x : Int32) (y : Int32) (hO : Ok np v) : MtI l y_C_find ws_C_find rm_C_find D classes (tysA g) [.ref (ad (0)), .int (x), .int (y)] (wC g ad np (v)) (fun (rr : Int32) (_ : Unit) => rr = (mFind v x y).1) (fun _ => wC g ad np ((mFind v x y).2)) 0 0 := by
  refine mt_i (ty := .int) (fun _ _ _ => rfl) (by decide +kernel) rfl (Nat.le_of_ble_eq_true rfl) (fun p e s m args below meth c Q A C hA hW hret ls hl => ?_)
  obtain ⟨hx, hb, hr, hml, hown, hts0, hlocks⟩ := C
  have hts : ∀ w ∈ bigw, w.before args s = true := fun w h => hts0 w (List.mem_cons_of_mem _ h)
  have hown : s.vm.findClass R_C = some m.cls := hown
  have hnp := hO.le
  have hl : lv_has ls 7 [(0, .ref (ad (0))), (1, .int (x)), (2, .int (y))] := hl
  refine lv_iload_n hx hb d_C_find_0 rfl (lv_at hl 1 rfl) ?_
  refine lv_iconst (v := 3) hx hb d_C_find_1 (by decide) ?_
  refine wci hW hA (va_runS (As := [.int (x), .int (3)]) (rest := []) ⟨hx, hb, hml, hown, hts⟩ (c_C_isIn l _ (x) (3) _) (cs 2 hts kc_C_isIn ks_C_isIn kn_C km_C_40 kh_C_isIn rfl rfl ⟨by decide, by decide⟩) (preWS hW) rfl rfl hl.1 rfl (lv_room (Nat.le_of_ble_eq_true rfl)) d_C_find_2 ⟨by decide, by decide⟩) (fun rr1 uu1 H locs hp1 hW => ?_)
  have hW : Wd D classes (tysA g) s A (wC g ad np (v)) H locs := hW
  have hp1 : rr1 = if inI (x) (3) then 1 else 0 := hp1
  refine lv_if_eq (tgt := 19) hx hb d_C_find_5 (by decide) (fun c_5 => ?_) (fun c_5 => ?_)
  · have c_5 : ¬ (inI (x) (3)) := bo_eq hp1 c_5
    refine lv_iconst (v := (-1)) hx hb d_C_find_19 (by decide) ?_
    have hfin : mFind v x y = ((-1), v) := by
      skip; simp only [mFind, if_neg c_5]
    refine hret _ () _ _ _ _ _ _ ?_ (by show Wd D classes (tysA g) s A (wC g ad np ((mFind v x y).2)) _ _; rw [hfin]; exact hW) (by decide) (by decide) d_C_find_20
    show (-1) = (mFind v x y).1
    rw [hfin]
  · have c_5 : inI (x) (3) := bo_ne hp1 c_5
    obtain ⟨e2, b2⟩ := inI_nn (N := 3) rfl (by omega) c_5
    refine lv_iload_n hx hb d_C_find_8 rfl (lv_at hl 2 rfl) ?_
    refine lv_aload_n hx hb d_C_find_9 rfl (lv_at hl 0 rfl) ?_
    refine wg hx hb hts i_C hown hW (0) (by omega) mk_root rfl 5 (by decide) (hts _ kf_C_55) rfl d_C_find_10 ?_
    obtain ⟨e3, b3⟩ := hO.made
    refine wci hW hA (va_runS (As := [.int (y), .int (v 0 5)]) (rest := []) ⟨hx, hb, hml, hown, hts⟩ (c_C_isIn l _ (y) (v 0 5) _) (cs 2 hts kc_C_isIn ks_C_isIn kn_C km_C_40 kh_C_isIn rfl rfl ⟨by decide, by decide⟩) (preWS hW) rfl rfl hl.1 rfl (lv_room (Nat.le_of_ble_eq_true rfl)) d_C_find_13 ⟨by decide, by decide⟩) (fun rr4 uu4 H locs hp4 hW => ?_)
    have hW : Wd D classes (tysA g) s A (wC g ad np (v)) H locs := hW
    have hp4 : rr4 = if inI (y) (v 0 5) then 1 else 0 := hp4
    refine lv_if_ne (tgt := 21) hx hb d_C_find_16 (by decide) (fun c_16 => ?_) (fun c_16 => ?_)
    · have c_16 : inI (y) (v 0 5) := bo_ne hp4 c_16
      obtain ⟨e5, b5⟩ := inI_nn (N := np) e3 (by omega) c_16
      refine lv_aload_n hx hb d_C_find_21 rfl (lv_at hl 0 rfl) ?_
      refine wg hx hb hts i_C hown hW (0) (by omega) mk_root rfl 1 (by decide) (hts _ kf_C_17) rfl d_C_find_22 ?_
      refine lv_iload_n hx hb d_C_find_25 rfl (lv_at hl 2 rfl) ?_
      have hi6 : nn y < np := by omega
      refine wa hx hb hW 2 (by omega) mk_processes 2 rfl (nn y) e5 (by omega) (by decide) (if_pos hi6) d_C_find_26 ?_
      refine lv_astore_n (lv' := [(3, .ref (ad (68 + 3 * (nn y)))), (0, .ref (ad (0))), (1, .int (x)), (2, .int (y))]) hx hb d_C_find_27 rfl hl (by decide) rfl (fun ls hl => ?_)
      refine lv_iload_n hx hb d_C_find_28 rfl (lv_at hl 2 rfl) ?_
      refine lv_istore (lv' := [(4, .int (x)), (3, .ref (ad (68 + 3 * (nn y)))), (0, .ref (ad (0))), (1, .int (x)), (2, .int (y))]) hx hb d_C_find_29 hl (by decide) rfl (fun ls hl => ?_)
      refine lv_iconst (v := 0) hx hb d_C_find_31 (by decide) ?_
      refine lv_istore (lv' := [(5, .int (0)), (4, .int (x)), (3, .ref (ad (68 + 3 * (nn y)))), (0, .ref (ad (0))), (1, .int (x)), (2, .int (y))]) hx hb d_C_find_32 hl (by decide) rfl (fun ls hl => ?_)
      have hqy : nn y < np := by omega
      have hM : mFind v x y = cFindL (nn y) 3 0 (nn x) v := by simp only [mFind, if_pos c_5, if_pos c_16]
      have hxx := e2
      have hl0 : lv_has ls 7 [(0, .ref (ad (0))), (3, .ref (ad (68 + 3 * (nn y)))), (4, .int (x)), (5, .int (0))] := lv_sub hl [3, 2, 1, 0] rfl
      have hl1 : lv_has ls 7 [(0, .ref (ad (0))), (3, .ref (ad (68 + 3 * (nn y)))), (4, .int (nI (nn x))), (5, .int (nI (0)))] := by rw [← hxx]; exact hl0
      have loop : ∀ (r : Nat) (f : Nat) (t : Nat) (vc : Vs) (H : Heap) (locs : List Loc) (ls : Array Slot), Ok np vc → 3 = f + r → t < 3 → cFindL (nn y) r f t vc = cFindL (nn y) 3 0 (nn x) v → Wd D classes (tysA g) s A (wC g ad np (vc)) H locs → lv_has ls 7 [(0, .ref (ad (0))), (3, .ref (ad (68 + 3 * (nn y)))), (4, .int (nI (t))), (5, .int (nI (f)))] → W p l e rm_C_find s m args below meth c H locs 0 0 Q (F0 m 34 ls []) := by
        intro r
        induction r with
        | zero =>
          intro f t vc H locs ls hOc h3 ht3 hT hW hl
          refine lv_iload hx hb d_C_find_34 (lv_at hl 2 rfl) ?_
          refine lv_aload_n hx hb d_C_find_36 rfl (lv_at hl 1 rfl) ?_
          refine wg hx hb hts i_Proc hown hW (68 + 3 * (nn y)) (by omega) mk_proc rfl 4 (by decide) (hts _ kf_C_88) rfl d_C_find_37 ?_
          obtain ⟨e7, b7⟩ := hOc.place hqy
          refine lv_icmp_eq (tgt := 79) hx hb d_C_find_40 (by decide) (fun c_40 => ?_) (fun c_40 => ?_)
          · have nc_40 : t = nv vc (68 + 3 * (nn y)) 4 := ni_eq rfl e7 (by omega) (by omega) c_40
            refine lv_iload hx hb d_C_find_79 (lv_at hl 3 rfl) ?_
            have hfin : mFind v x y = (nI f, vc) := by rw [hM, ← hT]; rfl
            exact hret _ () _ _ _ _ _ _ (show nI f = (mFind v x y).1 by rw [hfin]) (by show Wd D classes (tysA g) s A (wC g ad np ((mFind v x y).2)) _ _; rw [hfin]; exact hW) (by decide) (by decide) d_C_find_81
          · have nc_40 : ¬ t = nv vc (68 + 3 * (nn y)) 4 := ni_ne rfl e7 (by omega) (by omega) c_40
            refine lv_iload hx hb d_C_find_43 (lv_at hl 3 rfl) ?_
            refine lv_iconst (v := 3) hx hb d_C_find_45 (by decide) ?_
            refine lv_icmp_ge (tgt := 79) hx hb d_C_find_46 (by decide) (fun c_46 => ?_) (fun c_46 => ?_)
            · have nc_46 : 3 ≤ f := ni_le rfl rfl (by omega) (by omega) c_46
              refine lv_iload hx hb d_C_find_79 (lv_at hl 3 rfl) ?_
              have hfin : mFind v x y = (nI f, vc) := by rw [hM, ← hT]; rfl
              exact hret _ () _ _ _ _ _ _ (show nI f = (mFind v x y).1 by rw [hfin]) (by show Wd D classes (tysA g) s A (wC g ad np ((mFind v x y).2)) _ _; rw [hfin]; exact hW) (by decide) (by decide) d_C_find_81
            · have nc_46 : f < 3 := ni_nle rfl rfl (by omega) (by omega) c_46
              exfalso; omega
        | succ r ih =>
          intro f t vc H locs ls hOc h3 ht3 hT hW hl
          refine lv_iload hx hb d_C_find_34 (lv_at hl 2 rfl) ?_
          refine lv_aload_n hx hb d_C_find_36 rfl (lv_at hl 1 rfl) ?_
          refine wg hx hb hts i_Proc hown hW (68 + 3 * (nn y)) (by omega) mk_proc rfl 4 (by decide) (hts _ kf_C_88) rfl d_C_find_37 ?_
          obtain ⟨e8, b8⟩ := hOc.place hqy
          refine lv_icmp_eq (tgt := 79) hx hb d_C_find_40 (by decide) (fun c_40 => ?_) (fun c_40 => ?_)
          · have nc_40 : t = nv vc (68 + 3 * (nn y)) 4 := ni_eq rfl e8 (by omega) (by omega) c_40
            refine lv_iload hx hb d_C_find_79 (lv_at hl 3 rfl) ?_
            have hfin : mFind v x y = (nI f, vc) := by rw [hM, ← hT]; rw [cFindL, if_pos c_40]
            exact hret _ () _ _ _ _ _ _ (show nI f = (mFind v x y).1 by rw [hfin]) (by show Wd D classes (tysA g) s A (wC g ad np ((mFind v x y).2)) _ _; rw [hfin]; exact hW) (by decide) (by decide) d_C_find_81
          · have nc_40 : ¬ t = nv vc (68 + 3 * (nn y)) 4 := ni_ne rfl e8 (by omega) (by omega) c_40
            refine lv_iload hx hb d_C_find_43 (lv_at hl 3 rfl) ?_
            refine lv_iconst (v := 3) hx hb d_C_find_45 (by decide) ?_
            refine lv_icmp_ge (tgt := 79) hx hb d_C_find_46 (by decide) (fun c_46 => ?_) (fun c_46 => ?_)
            · have nc_46 : 3 ≤ f := ni_le rfl rfl (by omega) (by omega) c_46
              refine lv_iload hx hb d_C_find_79 (lv_at hl 3 rfl) ?_
              exfalso; omega
            · have nc_46 : f < 3 := ni_nle rfl rfl (by omega) (by omega) c_46
              refine lv_aload_n hx hb d_C_find_49 rfl (lv_at hl 1 rfl) ?_
              refine wg hx hb hts i_Proc hown hW (68 + 3 * (nn y)) (by omega) mk_proc rfl 3 (by decide) (hts _ kf_C_91) rfl d_C_find_50 ?_
              refine lv_iload hx hb d_C_find_53 (lv_at hl 2 rfl) ?_
              refine wi hx hb hW (68 + 3 * (nn y) + 2) (by omega) mk_hints 0 rfl (t) rfl (by omega) (by decide) d_C_find_55 ?_
              obtain ⟨e9, b9⟩ := hOc.hint hqy (t)
              refine lv_istore (lv' := [(6, .int (vc (68 + 3 * (nn y) + 2) (t))), (0, .ref (ad (0))), (3, .ref (ad (68 + 3 * (nn y)))), (4, .int (nI (t))), (5, .int (nI (f)))]) hx hb d_C_find_56 hl (by decide) rfl (fun ls hl => ?_)
              refine lv_aload_n hx hb d_C_find_58 rfl (lv_at hl 2 rfl) ?_
              refine wg hx hb hts i_Proc hown hW (68 + 3 * (nn y)) (by omega) mk_proc rfl 3 (by decide) (hts _ kf_C_91) rfl d_C_find_59 ?_
              refine lv_iload hx hb d_C_find_62 (lv_at hl 3 rfl) ?_
              refine lv_aload_n hx hb d_C_find_64 rfl (lv_at hl 2 rfl) ?_
              refine wg hx hb hts i_Proc hown hW (68 + 3 * (nn y)) (by omega) mk_proc rfl 4 (by decide) (hts _ kf_C_88) rfl d_C_find_65 ?_
              obtain ⟨e10, b10⟩ := hOc.place hqy
              refine wis hx hb hW (68 + 3 * (nn y) + 2) (by omega) mk_hints 0 rfl (t) rfl (by omega) (by decide) (x := vc (68 + 3 * (nn y)) 4) mk_hints d_C_find_68 (fun H locs hW => ?_)
              obtain ⟨v11, ev11⟩ : ∃ z : Vs, z = u2 vc (68 + 3 * (nn y) + 2) (t) (vc (68 + 3 * (nn y)) 4) := ⟨_, rfl⟩
              rw [← ev11] at hW
              have hO11 : Ok np v11 := by rw [ev11]; exact hOc.set (by omega) (okS_hint ⟨nv vc (68 + 3 * (nn y)) 4, by omega, e10⟩)
              refine lv_iload hx hb d_C_find_69 (lv_at hl 0 rfl) ?_
              refine lv_istore (lv' := [(4, .int (vc (68 + 3 * (nn y) + 2) (t))), (6, .int (vc (68 + 3 * (nn y) + 2) (t))), (0, .ref (ad (0))), (3, .ref (ad (68 + 3 * (nn y)))), (5, .int (nI (f)))]) hx hb d_C_find_71 hl (by decide) rfl (fun ls hl => ?_)
              refine lv_iinc (v := nI (f + 1)) (lv' := [(5, .int (nI (f + 1))), (4, .int (vc (68 + 3 * (nn y) + 2) (t))), (6, .int (vc (68 + 3 * (nn y) + 2) (t))), (0, .ref (ad (0))), (3, .ref (ad (68 + 3 * (nn y))))]) hx hb d_C_find_73 hl (k := 4) rfl (nI_1 _) (by decide) rfl (fun ls hl => ?_)
              refine lv_goto (tgt := 34) hx hb d_C_find_76 (by decide) ?_
              have hl : lv_has ls 7 [(0, .ref (ad (0))), (3, .ref (ad (68 + 3 * (nn y)))), (4, .int (vc (68 + 3 * (nn y) + 2) (t))), (5, .int (nI (f + 1)))] := lv_sub hl [3, 4, 1, 0] rfl
              rw [e9] at hl
              refine ih (f + 1) (nv vc (68 + 3 * (nn y) + 2) (t)) v11 _ _ _ hO11 (by omega) (by omega) ?_ hW hl
              rw [← hT, cFindL, if_neg c_40]; subst ev11; rfl
      exact loop 3 0 (nn x) v _ _ _ hO rfl (by omega) rfl hW hl1
    · have c_16 : ¬ (inI (y) (v 0 5)) := bo_eq hp4 c_16
      refine lv_iconst (v := (-1)) hx hb d_C_find_19 (by decide) ?_
      have hfin : mFind v x y = ((-1), v) := by
        skip; simp only [mFind, if_pos c_5, if_neg c_16]
      refine hret _ () _ _ _ _ _ _ ?_ (by show Wd D classes (tysA g) s A (wC g ad np ((mFind v x y).2)) _ _; rw [hfin]; exact hW) (by decide) (by decide) d_C_find_20
      show (-1) = (mFind v x y).1
      rw [hfin]
abbrev rm_C_reg : Room := { frames := 1, cells := 0, slots := 0, locals := 21 }
set_option maxHeartbeats 4000000 in
set_option maxRecDepth 100000 in
theorem c_C_reg (l : Launch) {D : va_G} {g : Nat → ClassId} {ad : Nat → Nat} {np : Nat} {v : Vs} (x : Int32) (y : Int32) (hO : Ok np v) : MtL l y_C_reg ws_C_reg rm_C_reg D classes (tysA g) [.ref (ad (0)), .int (x), .int (y)] (wC g ad np (v)) (fun (rr : Int64) (_ : Unit) => rr = rReg v x y) (fun _ => wC g ad np (v)) 0 0 := by
  refine mt_l (by decide +kernel) rfl (Nat.le_of_ble_eq_true rfl) (fun p e s m args below meth c Q A C hA hW hret ls hl => ?_)
  obtain ⟨hx, hb, hr, hml, hown, hts0, hlocks⟩ := C
  have hts : ∀ w ∈ bigw, w.before args s = true := fun w h => hts0 w (List.mem_cons_of_mem _ h)
  have hown : s.vm.findClass R_C = some m.cls := hown
  have hnp := hO.le
  have hl : lv_has ls 3 [(0, .ref (ad (0))), (1, .int (x)), (2, .int (y))] := hl
  refine lv_iload_n hx hb d_C_reg_0 rfl (lv_at hl 1 rfl) ?_
  refine lv_aload_n hx hb d_C_reg_1 rfl (lv_at hl 0 rfl) ?_
  refine wg hx hb hts i_C hown hW (0) (by omega) mk_root rfl 5 (by decide) (hts _ kf_C_55) rfl d_C_reg_2 ?_
  obtain ⟨e1, b1⟩ := hO.made
  refine wci hW hA (va_runS (As := [.int (x), .int (v 0 5)]) (rest := []) ⟨hx, hb, hml, hown, hts⟩ (c_C_isIn l _ (x) (v 0 5) _) (cs 2 hts kc_C_isIn ks_C_isIn kn_C km_C_40 kh_C_isIn rfl rfl ⟨by decide, by decide⟩) (preWS hW) rfl rfl hl.1 rfl (lv_room (Nat.le_of_ble_eq_true rfl)) d_C_reg_5 ⟨by decide, by decide⟩) (fun rr2 uu2 H locs hp2 hW => ?_)
  have hW : Wd D classes (tysA g) s A (wC g ad np (v)) H locs := hW
  have hp2 : rr2 = if inI (x) (v 0 5) then 1 else 0 := hp2
  refine lv_if_eq (tgt := 19) hx hb d_C_reg_8 (by decide) (fun c_8 => ?_) (fun c_8 => ?_)
  · have c_8 : ¬ (inI (x) (v 0 5)) := bo_eq hp2 c_8
    refine lv_ldc2 (v := (10000000000 : Int64)) hx hb hown (hts _ kg_C_97) d_C_reg_19 ?_
    refine hret _ () _ _ _ _ _ _ ?_ hW (by decide) (by decide) d_C_reg_22
    show (10000000000 : Int64) = rReg v x y
    simp only [rReg, if_neg c_8]
  · have c_8 : inI (x) (v 0 5) := bo_ne hp2 c_8
    obtain ⟨e3, b3⟩ := inI_nn (N := np) e1 (by omega) c_8
    refine lv_iload_n hx hb d_C_reg_11 rfl (lv_at hl 2 rfl) ?_
    refine lv_iconst (v := 4) hx hb d_C_reg_12 (by decide) ?_
    refine wci hW hA (va_runS (As := [.int (y), .int (4)]) (rest := []) ⟨hx, hb, hml, hown, hts⟩ (c_C_isIn l _ (y) (4) _) (cs 2 hts kc_C_isIn ks_C_isIn kn_C km_C_40 kh_C_isIn rfl rfl ⟨by decide, by decide⟩) (preWS hW) rfl rfl hl.1 rfl (lv_room (Nat.le_of_ble_eq_true rfl)) d_C_reg_13 ⟨by decide, by decide⟩) (fun rr4 uu4 H locs hp4 hW => ?_)
    have hW : Wd D classes (tysA g) s A (wC g ad np (v)) H locs := hW
    have hp4 : rr4 = if inI (y) (4) then 1 else 0 := hp4
    refine lv_if_ne (tgt := 23) hx hb d_C_reg_16 (by decide) (fun c_16 => ?_) (fun c_16 => ?_)
    · have c_16 : inI (y) (4) := bo_ne hp4 c_16
      obtain ⟨e5, b5⟩ := inI_nn (N := 4) rfl (by omega) c_16
      refine lv_aload_n hx hb d_C_reg_23 rfl (lv_at hl 0 rfl) ?_
      refine wg hx hb hts i_C hown hW (0) (by omega) mk_root rfl 1 (by decide) (hts _ kf_C_17) rfl d_C_reg_24 ?_
      refine lv_iload_n hx hb d_C_reg_27 rfl (lv_at hl 1 rfl) ?_
      have hi6 : nn x < np := by omega
      refine wa hx hb hW 2 (by omega) mk_processes 2 rfl (nn x) e3 (by omega) (by decide) (if_pos hi6) d_C_reg_28 ?_
      refine wg hx hb hts i_Proc hown hW (68 + 3 * (nn x)) (by omega) mk_proc rfl 2 (by decide) (hts _ kf_C_99) rfl d_C_reg_29 ?_
      refine lv_iload_n hx hb d_C_reg_32 rfl (lv_at hl 2 rfl) ?_
      refine wi hx hb hW (68 + 3 * (nn x) + 1) (by omega) mk_regs 0 rfl (nn y) e5 (by omega) (by decide) d_C_reg_33 ?_
      refine lv_i2l (v := (v (68 + 3 * (nn x) + 1) (nn y)).toInt64) hx hb d_C_reg_34 rfl ?_
      refine hret _ () _ _ _ _ _ _ ?_ hW (by decide) (by decide) d_C_reg_35
      show (v (68 + 3 * (nn x) + 1) (nn y)).toInt64 = rReg v x y
      simp only [rReg, if_pos c_8, if_pos c_16]
    · have c_16 : ¬ (inI (y) (4)) := bo_eq hp4 c_16
      refine lv_ldc2 (v := (10000000000 : Int64)) hx hb hown (hts _ kg_C_97) d_C_reg_19 ?_
      refine hret _ () _ _ _ _ _ _ ?_ hW (by decide) (by decide) d_C_reg_22
      show (10000000000 : Int64) = rReg v x y
      simp only [rReg, if_pos c_8, if_neg c_16]
abbrev rm_C_word : Room := { frames := 1, cells := 0, slots := 0, locals := 21 }
set_option maxHeartbeats 4000000 in
set_option maxRecDepth 100000 in
theorem c_C_word (l : Launch) {D : va_G} {g : Nat → ClassId} {ad : Nat → Nat} {np : Nat} {v : Vs} (x : Int32) (hO : Ok np v) : MtL l y_C_word ws_C_word rm_C_word D classes (tysA g) [.ref (ad (0)), .int (x)] (wC g ad np (v)) (fun (rr : Int64) (_ : Unit) => rr = rWord v x) (fun _ => wC g ad np (v)) 0 0 := by
  refine mt_l (by decide +kernel) rfl (Nat.le_of_ble_eq_true rfl) (fun p e s m args below meth c Q A C hA hW hret ls hl => ?_)
  obtain ⟨hx, hb, hr, hml, hown, hts0, hlocks⟩ := C
  have hts : ∀ w ∈ bigw, w.before args s = true := fun w h => hts0 w (List.mem_cons_of_mem _ h)
  have hown : s.vm.findClass R_C = some m.cls := hown
  have hnp := hO.le
  have hl : lv_has ls 2 [(0, .ref (ad (0))), (1, .int (x))] := hl
  refine lv_iload_n hx hb d_C_word_0 rfl (lv_at hl 1 rfl) ?_
  refine lv_bipush (v := 32) hx hb d_C_word_1 (by decide) ?_
  refine wci hW hA (va_runS (As := [.int (x), .int (32)]) (rest := []) ⟨hx, hb, hml, hown, hts⟩ (c_C_isIn l _ (x) (32) _) (cs 2 hts kc_C_isIn ks_C_isIn kn_C km_C_40 kh_C_isIn rfl rfl ⟨by decide, by decide⟩) (preWS hW) rfl rfl hl.1 rfl (lv_room (Nat.le_of_ble_eq_true rfl)) d_C_word_3 ⟨by decide, by decide⟩) (fun rr1 uu1 H locs hp1 hW => ?_)
  have hW : Wd D classes (tysA g) s A (wC g ad np (v)) H locs := hW
  have hp1 : rr1 = if inI (x) (32) then 1 else 0 := hp1
  refine lv_if_eq (tgt := 19) hx hb d_C_word_6 (by decide) (fun c_6 => ?_) (fun c_6 => ?_)
  · have c_6 : ¬ (inI (x) (32)) := bo_eq hp1 c_6
    refine lv_ldc2 (v := (10000000000 : Int64)) hx hb hown (hts _ kg_C_97) d_C_word_19 ?_
    refine hret _ () _ _ _ _ _ _ ?_ hW (by decide) (by decide) d_C_word_22
    show (10000000000 : Int64) = rWord v x
    simp only [rWord, if_neg c_6]
  · have c_6 : inI (x) (32) := bo_ne hp1 c_6
    obtain ⟨e2, b2⟩ := inI_nn (N := 32) rfl (by omega) c_6
    refine lv_aload_n hx hb d_C_word_9 rfl (lv_at hl 0 rfl) ?_
    refine wg hx hb hts i_C hown hW (0) (by omega) mk_root rfl 4 (by decide) (hts _ kf_C_33) rfl d_C_word_10 ?_
    refine lv_iload_n hx hb d_C_word_13 rfl (lv_at hl 1 rfl) ?_
    refine wi hx hb hW (5) (by omega) mk_memory 0 rfl (nn x) e2 (by omega) (by decide) d_C_word_14 ?_
    refine lv_i2l (v := (v (5) (nn x)).toInt64) hx hb d_C_word_15 rfl ?_
    refine lv_goto (tgt := 22) hx hb d_C_word_16 (by decide) ?_
    refine hret _ () _ _ _ _ _ _ ?_ hW (by decide) (by decide) d_C_word_22
    show (v (5) (nn x)).toInt64 = rWord v x
    simp only [rWord, if_pos c_6]
abbrev rm_C_copy : Room := { frames := 1, cells := 0, slots := 0, locals := 21 }
set_option maxHeartbeats 4000000 in
set_option maxRecDepth 100000 in
theorem c_C_copy (l : Launch) {D : va_G} {g : Nat → ClassId} {ad : Nat → Nat} {np : Nat} {v : Vs} (x : Int32) (y : Int32) (hO : Ok np v) : MtL l y_C_copy ws_C_copy rm_C_copy D classes (tysA g) [.ref (ad (0)), .int (x), .int (y)] (wC g ad np (v)) (fun (rr : Int64) (_ : Unit) => rr = rCopy v x y) (fun _ => wC g ad np (v)) 0 0 := by
  refine mt_l (by decide +kernel) rfl (Nat.le_of_ble_eq_true rfl) (fun p e s m args below meth c Q A C hA hW hret ls hl => ?_)
  obtain ⟨hx, hb, hr, hml, hown, hts0, hlocks⟩ := C
  have hts : ∀ w ∈ bigw, w.before args s = true := fun w h => hts0 w (List.mem_cons_of_mem _ h)
  have hown : s.vm.findClass R_C = some m.cls := hown
  have hnp := hO.le
  have hl : lv_has ls 3 [(0, .ref (ad (0))), (1, .int (x)), (2, .int (y))] := hl
  refine lv_iload_n hx hb d_C_copy_0 rfl (lv_at hl 1 rfl) ?_
  refine lv_iconst (v := 3) hx hb d_C_copy_1 (by decide) ?_
  refine wci hW hA (va_runS (As := [.int (x), .int (3)]) (rest := []) ⟨hx, hb, hml, hown, hts⟩ (c_C_isIn l _ (x) (3) _) (cs 2 hts kc_C_isIn ks_C_isIn kn_C km_C_40 kh_C_isIn rfl rfl ⟨by decide, by decide⟩) (preWS hW) rfl rfl hl.1 rfl (lv_room (Nat.le_of_ble_eq_true rfl)) d_C_copy_2 ⟨by decide, by decide⟩) (fun rr1 uu1 H locs hp1 hW => ?_)
  have hW : Wd D classes (tysA g) s A (wC g ad np (v)) H locs := hW
  have hp1 : rr1 = if inI (x) (3) then 1 else 0 := hp1
  refine lv_if_eq (tgt := 17) hx hb d_C_copy_5 (by decide) (fun c_5 => ?_) (fun c_5 => ?_)
  · have c_5 : ¬ (inI (x) (3)) := bo_eq hp1 c_5
    refine lv_ldc2 (v := (-1 : Int64)) hx hb hown (hts _ kg_C_116) d_C_copy_17 ?_
    refine hret _ () _ _ _ _ _ _ ?_ hW (by decide) (by decide) d_C_copy_20
    show (-1 : Int64) = rCopy v x y
    simp only [rCopy, if_neg c_5]
  · have c_5 : inI (x) (3) := bo_ne hp1 c_5
    obtain ⟨e2, b2⟩ := inI_nn (N := 3) rfl (by omega) c_5
    refine lv_iload_n hx hb d_C_copy_8 rfl (lv_at hl 2 rfl) ?_
    refine lv_bipush (v := 32) hx hb d_C_copy_9 (by decide) ?_
    refine wci hW hA (va_runS (As := [.int (y), .int (32)]) (rest := []) ⟨hx, hb, hml, hown, hts⟩ (c_C_isIn l _ (y) (32) _) (cs 2 hts kc_C_isIn ks_C_isIn kn_C km_C_40 kh_C_isIn rfl rfl ⟨by decide, by decide⟩) (preWS hW) rfl rfl hl.1 rfl (lv_room (Nat.le_of_ble_eq_true rfl)) d_C_copy_11 ⟨by decide, by decide⟩) (fun rr3 uu3 H locs hp3 hW => ?_)
    have hW : Wd D classes (tysA g) s A (wC g ad np (v)) H locs := hW
    have hp3 : rr3 = if inI (y) (32) then 1 else 0 := hp3
    refine lv_if_ne (tgt := 21) hx hb d_C_copy_14 (by decide) (fun c_14 => ?_) (fun c_14 => ?_)
    · have c_14 : inI (y) (32) := bo_ne hp3 c_14
      obtain ⟨e4, b4⟩ := inI_nn (N := 32) rfl (by omega) c_14
      refine lv_aload_n hx hb d_C_copy_21 rfl (lv_at hl 0 rfl) ?_
      refine wg hx hb hts i_C hown hW (0) (by omega) mk_root rfl 3 (by decide) (hts _ kf_C_29) rfl d_C_copy_22 ?_
      refine lv_iload_n hx hb d_C_copy_25 rfl (lv_at hl 2 rfl) ?_
      refine lv_iconst (v := 4) hx hb d_C_copy_26 (by decide) ?_
      refine lv_idiv hx hb d_C_copy_27 (by decide) ?_
      have hi5 : (nn y) / 4 < 8 := by omega
      refine wa hx hb hW 4 (by omega) mk_pages 4 rfl ((nn y) / 4) (ni_div e4 rfl (by omega) (by decide) (by decide)) (by omega) (by decide) (if_pos hi5) d_C_copy_28 ?_
      refine wg hx hb hts i_Page hown hW (28 + 5 * ((nn y) / 4)) (by omega) (mk_page hi5) rfl 0 (by decide) (hts _ kf_C_118) rfl d_C_copy_29 ?_
      refine lv_iload_n hx hb d_C_copy_32 rfl (lv_at hl 1 rfl) ?_
      refine wi hx hb hW (28 + 5 * ((nn y) / 4) + 1) (by omega) (mk_rights hi5) 0 rfl (nn x) e2 (by omega) (by decide) d_C_copy_33 ?_
      refine lv_if_ne (tgt := 43) hx hb d_C_copy_34 (by decide) (fun c_34 => ?_) (fun c_34 => ?_)
      · refine lv_aload_n hx hb d_C_copy_43 rfl (lv_at hl 0 rfl) ?_
        refine wg hx hb hts i_C hown hW (0) (by omega) mk_root rfl 4 (by decide) (hts _ kf_C_33) rfl d_C_copy_44 ?_
        refine lv_iload_n hx hb d_C_copy_47 rfl (lv_at hl 2 rfl) ?_
        refine wi hx hb hW (5) (by omega) mk_memory 0 rfl (nn y) e4 (by omega) (by decide) d_C_copy_48 ?_
        refine lv_i2l (v := (v (5) (nn y)).toInt64) hx hb d_C_copy_49 rfl ?_
        refine hret _ () _ _ _ _ _ _ ?_ hW (by decide) (by decide) d_C_copy_50
        show (v (5) (nn y)).toInt64 = rCopy v x y
        simp only [rCopy, if_pos c_5, if_pos c_14, if_neg c_34]
      · refine lv_ldc2 (v := (10000000000 : Int64)) hx hb hown (hts _ kg_C_97) d_C_copy_37 ?_
        refine lv_goto (tgt := 50) hx hb d_C_copy_40 (by decide) ?_
        refine hret _ () _ _ _ _ _ _ ?_ hW (by decide) (by decide) d_C_copy_50
        show (10000000000 : Int64) = rCopy v x y
        simp only [rCopy, if_pos c_5, if_pos c_14, if_pos c_34]
    · have c_14 : ¬ (inI (y) (32)) := bo_eq hp3 c_14
      refine lv_ldc2 (v := (-1 : Int64)) hx hb hown (hts _ kg_C_116) d_C_copy_17 ?_
      refine hret _ () _ _ _ _ _ _ ?_ hW (by decide) (by decide) d_C_copy_20
      show (-1 : Int64) = rCopy v x y
      simp only [rCopy, if_pos c_5, if_neg c_14]
abbrev rm_C_right : Room := { frames := 1, cells := 0, slots := 0, locals := 21 }
set_option maxHeartbeats 4000000 in
set_option maxRecDepth 100000 in
theorem c_C_right (l : Launch) {D : va_G} {g : Nat → ClassId} {ad : Nat → Nat} {np : Nat} {v : Vs} (x : Int32) (y : Int32) (hO : Ok np v) : MtI l y_C_right ws_C_right rm_C_right D classes (tysA g) [.ref (ad (0)), .int (x), .int (y)] (wC g ad np (v)) (fun (rr : Int32) (_ : Unit) => rr = rRight v x y) (fun _ => wC g ad np (v)) 0 0 := by
  refine mt_i (ty := .int) (fun _ _ _ => rfl) (by decide +kernel) rfl (Nat.le_of_ble_eq_true rfl) (fun p e s m args below meth c Q A C hA hW hret ls hl => ?_)
  obtain ⟨hx, hb, hr, hml, hown, hts0, hlocks⟩ := C
  have hts : ∀ w ∈ bigw, w.before args s = true := fun w h => hts0 w (List.mem_cons_of_mem _ h)
  have hown : s.vm.findClass R_C = some m.cls := hown
  have hnp := hO.le
  have hl : lv_has ls 3 [(0, .ref (ad (0))), (1, .int (x)), (2, .int (y))] := hl
  refine lv_iload_n hx hb d_C_right_0 rfl (lv_at hl 1 rfl) ?_
  refine lv_iconst (v := 3) hx hb d_C_right_1 (by decide) ?_
  refine wci hW hA (va_runS (As := [.int (x), .int (3)]) (rest := []) ⟨hx, hb, hml, hown, hts⟩ (c_C_isIn l _ (x) (3) _) (cs 2 hts kc_C_isIn ks_C_isIn kn_C km_C_40 kh_C_isIn rfl rfl ⟨by decide, by decide⟩) (preWS hW) rfl rfl hl.1 rfl (lv_room (Nat.le_of_ble_eq_true rfl)) d_C_right_2 ⟨by decide, by decide⟩) (fun rr1 uu1 H locs hp1 hW => ?_)
  have hW : Wd D classes (tysA g) s A (wC g ad np (v)) H locs := hW
  have hp1 : rr1 = if inI (x) (3) then 1 else 0 := hp1
  refine lv_if_eq (tgt := 31) hx hb d_C_right_5 (by decide) (fun c_5 => ?_) (fun c_5 => ?_)
  · have c_5 : ¬ (inI (x) (3)) := bo_eq hp1 c_5
    refine lv_iconst (v := (-1)) hx hb d_C_right_31 (by decide) ?_
    refine hret _ () _ _ _ _ _ _ ?_ hW (by decide) (by decide) d_C_right_32
    show (-1) = rRight v x y
    simp only [rRight, if_neg c_5]
  · have c_5 : inI (x) (3) := bo_ne hp1 c_5
    obtain ⟨e2, b2⟩ := inI_nn (N := 3) rfl (by omega) c_5
    refine lv_iload_n hx hb d_C_right_8 rfl (lv_at hl 2 rfl) ?_
    refine lv_bipush (v := 8) hx hb d_C_right_9 (by decide) ?_
    refine wci hW hA (va_runS (As := [.int (y), .int (8)]) (rest := []) ⟨hx, hb, hml, hown, hts⟩ (c_C_isIn l _ (y) (8) _) (cs 2 hts kc_C_isIn ks_C_isIn kn_C km_C_40 kh_C_isIn rfl rfl ⟨by decide, by decide⟩) (preWS hW) rfl rfl hl.1 rfl (lv_room (Nat.le_of_ble_eq_true rfl)) d_C_right_11 ⟨by decide, by decide⟩) (fun rr3 uu3 H locs hp3 hW => ?_)
    have hW : Wd D classes (tysA g) s A (wC g ad np (v)) H locs := hW
    have hp3 : rr3 = if inI (y) (8) then 1 else 0 := hp3
    refine lv_if_eq (tgt := 31) hx hb d_C_right_14 (by decide) (fun c_14 => ?_) (fun c_14 => ?_)
    · have c_14 : ¬ (inI (y) (8)) := bo_eq hp3 c_14
      refine lv_iconst (v := (-1)) hx hb d_C_right_31 (by decide) ?_
      refine hret _ () _ _ _ _ _ _ ?_ hW (by decide) (by decide) d_C_right_32
      show (-1) = rRight v x y
      simp only [rRight, if_pos c_5, if_neg c_14]
    · have c_14 : inI (y) (8) := bo_ne hp3 c_14
      obtain ⟨e4, b4⟩ := inI_nn (N := 8) rfl (by omega) c_14
      refine lv_aload_n hx hb d_C_right_17 rfl (lv_at hl 0 rfl) ?_
      refine wg hx hb hts i_C hown hW (0) (by omega) mk_root rfl 3 (by decide) (hts _ kf_C_29) rfl d_C_right_18 ?_
      refine lv_iload_n hx hb d_C_right_21 rfl (lv_at hl 2 rfl) ?_
      have hi5 : nn y < 8 := by omega
      refine wa hx hb hW 4 (by omega) mk_pages 4 rfl (nn y) e4 (by omega) (by decide) (if_pos hi5) d_C_right_22 ?_
      refine wg hx hb hts i_Page hown hW (28 + 5 * (nn y)) (by omega) (mk_page hi5) rfl 0 (by decide) (hts _ kf_C_118) rfl d_C_right_23 ?_
      refine lv_iload_n hx hb d_C_right_26 rfl (lv_at hl 1 rfl) ?_
      refine wi hx hb hW (28 + 5 * (nn y) + 1) (by omega) (mk_rights hi5) 0 rfl (nn x) e2 (by omega) (by decide) d_C_right_27 ?_
      refine lv_goto (tgt := 32) hx hb d_C_right_28 (by decide) ?_
      refine hret _ () _ _ _ _ _ _ ?_ hW (by decide) (by decide) d_C_right_32
      show v (28 + 5 * (nn y) + 1) (nn x) = rRight v x y
      simp only [rRight, if_pos c_5, if_pos c_14]
abbrev rm_C_owner : Room := { frames := 1, cells := 0, slots := 0, locals := 21 }
set_option maxHeartbeats 4000000 in
set_option maxRecDepth 100000 in
theorem c_C_owner (l : Launch) {D : va_G} {g : Nat → ClassId} {ad : Nat → Nat} {np : Nat} {v : Vs} (x : Int32) (hO : Ok np v) : MtI l y_C_owner ws_C_owner rm_C_owner D classes (tysA g) [.ref (ad (0)), .int (x)] (wC g ad np (v)) (fun (rr : Int32) (_ : Unit) => rr = rOwner v x) (fun _ => wC g ad np (v)) 0 0 := by
  refine mt_i (ty := .int) (fun _ _ _ => rfl) (by decide +kernel) rfl (Nat.le_of_ble_eq_true rfl) (fun p e s m args below meth c Q A C hA hW hret ls hl => ?_)
  obtain ⟨hx, hb, hr, hml, hown, hts0, hlocks⟩ := C
  have hts : ∀ w ∈ bigw, w.before args s = true := fun w h => hts0 w (List.mem_cons_of_mem _ h)
  have hown : s.vm.findClass R_C = some m.cls := hown
  have hnp := hO.le
  have hl : lv_has ls 2 [(0, .ref (ad (0))), (1, .int (x))] := hl
  refine lv_iload_n hx hb d_C_owner_0 rfl (lv_at hl 1 rfl) ?_
  refine lv_bipush (v := 8) hx hb d_C_owner_1 (by decide) ?_
  refine wci hW hA (va_runS (As := [.int (x), .int (8)]) (rest := []) ⟨hx, hb, hml, hown, hts⟩ (c_C_isIn l _ (x) (8) _) (cs 2 hts kc_C_isIn ks_C_isIn kn_C km_C_40 kh_C_isIn rfl rfl ⟨by decide, by decide⟩) (preWS hW) rfl rfl hl.1 rfl (lv_room (Nat.le_of_ble_eq_true rfl)) d_C_owner_3 ⟨by decide, by decide⟩) (fun rr1 uu1 H locs hp1 hW => ?_)
  have hW : Wd D classes (tysA g) s A (wC g ad np (v)) H locs := hW
  have hp1 : rr1 = if inI (x) (8) then 1 else 0 := hp1
  refine lv_if_eq (tgt := 21) hx hb d_C_owner_6 (by decide) (fun c_6 => ?_) (fun c_6 => ?_)
  · have c_6 : ¬ (inI (x) (8)) := bo_eq hp1 c_6
    refine lv_iconst (v := (-1)) hx hb d_C_owner_21 (by decide) ?_
    refine hret _ () _ _ _ _ _ _ ?_ hW (by decide) (by decide) d_C_owner_22
    show (-1) = rOwner v x
    simp only [rOwner, if_neg c_6]
  · have c_6 : inI (x) (8) := bo_ne hp1 c_6
    obtain ⟨e2, b2⟩ := inI_nn (N := 8) rfl (by omega) c_6
    refine lv_aload_n hx hb d_C_owner_9 rfl (lv_at hl 0 rfl) ?_
    refine wg hx hb hts i_C hown hW (0) (by omega) mk_root rfl 3 (by decide) (hts _ kf_C_29) rfl d_C_owner_10 ?_
    refine lv_iload_n hx hb d_C_owner_13 rfl (lv_at hl 1 rfl) ?_
    have hi3 : nn x < 8 := by omega
    refine wa hx hb hW 4 (by omega) mk_pages 4 rfl (nn x) e2 (by omega) (by decide) (if_pos hi3) d_C_owner_14 ?_
    refine wg hx hb hts i_Page hown hW (28 + 5 * (nn x)) (by omega) (mk_page hi3) rfl 3 (by decide) (hts _ kf_C_121) rfl d_C_owner_15 ?_
    refine lv_goto (tgt := 22) hx hb d_C_owner_18 (by decide) ?_
    refine hret _ () _ _ _ _ _ _ ?_ hW (by decide) (by decide) d_C_owner_22
    show v (28 + 5 * (nn x)) 3 = rOwner v x
    simp only [rOwner, if_pos c_6]
abbrev rm_C_line : Room := { frames := 1, cells := 0, slots := 0, locals := 21 }
set_option maxHeartbeats 4000000 in
set_option maxRecDepth 100000 in
theorem c_C_line (l : Launch) {D : va_G} {g : Nat → ClassId} {ad : Nat → Nat} {np : Nat} {v : Vs} (x : Int32) (y : Int32) (hO : Ok np v) : MtI l y_C_line ws_C_line rm_C_line D classes (tysA g) [.ref (ad (0)), .int (x), .int (y)] (wC g ad np (v)) (fun (rr : Int32) (_ : Unit) => rr = rLine v x y) (fun _ => wC g ad np (v)) 0 0 := by
  refine mt_i (ty := .int) (fun _ _ _ => rfl) (by decide +kernel) rfl (Nat.le_of_ble_eq_true rfl) (fun p e s m args below meth c Q A C hA hW hret ls hl => ?_)
  obtain ⟨hx, hb, hr, hml, hown, hts0, hlocks⟩ := C
  have hts : ∀ w ∈ bigw, w.before args s = true := fun w h => hts0 w (List.mem_cons_of_mem _ h)
  have hown : s.vm.findClass R_C = some m.cls := hown
  have hnp := hO.le
  have hl : lv_has ls 3 [(0, .ref (ad (0))), (1, .int (x)), (2, .int (y))] := hl
  refine lv_iload_n hx hb d_C_line_0 rfl (lv_at hl 1 rfl) ?_
  refine lv_iconst (v := 3) hx hb d_C_line_1 (by decide) ?_
  refine wci hW hA (va_runS (As := [.int (x), .int (3)]) (rest := []) ⟨hx, hb, hml, hown, hts⟩ (c_C_isIn l _ (x) (3) _) (cs 2 hts kc_C_isIn ks_C_isIn kn_C km_C_40 kh_C_isIn rfl rfl ⟨by decide, by decide⟩) (preWS hW) rfl rfl hl.1 rfl (lv_room (Nat.le_of_ble_eq_true rfl)) d_C_line_2 ⟨by decide, by decide⟩) (fun rr1 uu1 H locs hp1 hW => ?_)
  have hW : Wd D classes (tysA g) s A (wC g ad np (v)) H locs := hW
  have hp1 : rr1 = if inI (x) (3) then 1 else 0 := hp1
  refine lv_if_eq (tgt := 12) hx hb d_C_line_5 (by decide) (fun c_5 => ?_) (fun c_5 => ?_)
  · have c_5 : ¬ (inI (x) (3)) := bo_eq hp1 c_5
    refine lv_iconst (v := (-1)) hx hb d_C_line_12 (by decide) ?_
    refine hret _ () _ _ _ _ _ _ ?_ hW (by decide) (by decide) d_C_line_13
    show (-1) = rLine v x y
    simp only [rLine, if_neg c_5]
  · have c_5 : inI (x) (3) := bo_ne hp1 c_5
    obtain ⟨e2, b2⟩ := inI_nn (N := 3) rfl (by omega) c_5
    refine lv_iload_n hx hb d_C_line_8 rfl (lv_at hl 2 rfl) ?_
    refine lv_if_ge (tgt := 14) hx hb d_C_line_9 (by decide) (fun c_9 => ?_) (fun c_9 => ?_)
    · obtain ⟨e3, b3⟩ := pos_nn c_9
      refine lv_iload_n hx hb d_C_line_14 rfl (lv_at hl 2 rfl) ?_
      refine lv_aload_n hx hb d_C_line_15 rfl (lv_at hl 0 rfl) ?_
      refine wg hx hb hts i_C hown hW (0) (by omega) mk_root rfl 2 (by decide) (hts _ kf_C_23) rfl d_C_line_16 ?_
      refine lv_iload_n hx hb d_C_line_19 rfl (lv_at hl 1 rfl) ?_
      have hk4 : isLn (22 + 2 * (nn x)) := ln_node (by omega)
      refine wa hx hb hW 3 (by omega) mk_lines 3 rfl (nn x) e2 (by omega) (by decide) (if_pos (by omega)) d_C_line_20 ?_
      refine wg hx hb hts i_Line hown hW (22 + 2 * (nn x)) (by have := ln_lt hk4; omega) (mk_line hk4) rfl 1 (by decide) (hts _ kf_C_62) rfl d_C_line_21 ?_
      obtain ⟨e5, b5⟩ := hO.size hk4
      refine lv_icmp_ge (tgt := 41) hx hb d_C_line_24 (by decide) (fun c_24 => ?_) (fun c_24 => ?_)
      · have nc_24 : nv v (22 + 2 * (nn x)) 1 ≤ nn y := ni_le e5 e3 (by omega) (by omega) c_24
        refine lv_bipush (v := 8) hx hb d_C_line_41 (by decide) ?_
        refine hret _ () _ _ _ _ _ _ ?_ hW (by decide) (by decide) d_C_line_43
        show 8 = rLine v x y
        simp only [rLine, if_pos c_5, if_pos c_9, if_pos c_24]
      · have nc_24 : nn y < nv v (22 + 2 * (nn x)) 1 := ni_nle e5 e3 (by omega) (by omega) c_24
        refine lv_aload_n hx hb d_C_line_27 rfl (lv_at hl 0 rfl) ?_
        refine wg hx hb hts i_C hown hW (0) (by omega) mk_root rfl 2 (by decide) (hts _ kf_C_23) rfl d_C_line_28 ?_
        refine lv_iload_n hx hb d_C_line_31 rfl (lv_at hl 1 rfl) ?_
        have hk6 : isLn (22 + 2 * (nn x)) := ln_node (by omega)
        refine wa hx hb hW 3 (by omega) mk_lines 3 rfl (nn x) e2 (by omega) (by decide) (if_pos (by omega)) d_C_line_32 ?_
        refine wg hx hb hts i_Line hown hW (22 + 2 * (nn x)) (by have := ln_lt hk6; omega) (mk_line hk6) rfl 0 (by decide) (hts _ kf_C_63) rfl d_C_line_33 ?_
        refine lv_iload_n hx hb d_C_line_36 rfl (lv_at hl 2 rfl) ?_
        refine wi hx hb hW (22 + 2 * (nn x) + 1) (by have := ln_lt hk6; omega) (mk_items hk6) 0 rfl (nn y) e3 (by omega) (by decide) d_C_line_37 ?_
        obtain ⟨e7, b7⟩ := hO.item hk6 (nn y) (by omega)
        refine lv_goto (tgt := 43) hx hb d_C_line_38 (by decide) ?_
        refine hret _ () _ _ _ _ _ _ ?_ hW (by decide) (by decide) d_C_line_43
        show v (22 + 2 * (nn x) + 1) (nn y) = rLine v x y
        simp only [rLine, if_pos c_5, if_pos c_9, if_neg c_24]
    · refine lv_iconst (v := (-1)) hx hb d_C_line_12 (by decide) ?_
      refine hret _ () _ _ _ _ _ _ ?_ hW (by decide) (by decide) d_C_line_13
      show (-1) = rLine v x y
      simp only [rLine, if_pos c_5, if_neg c_9]
abbrev rm_C_info : Room := { frames := 1, cells := 0, slots := 0, locals := 21 }
set_option maxHeartbeats 4000000 in
set_option maxRecDepth 100000 in
theorem c_C_info (l : Launch) {D : va_G} {g : Nat → ClassId} {ad : Nat → Nat} {np : Nat} {v : Vs} (x : Int32) (y : Int32) (hO : Ok np v) : MtL l y_C_info ws_C_info rm_C_info D classes (tysA g) [.ref (ad (0)), .int (x), .int (y)] (wC g ad np (v)) (fun (rr : Int64) (_ : Unit) => rr = rInfo v x y) (fun _ => wC g ad np (v)) 0 0 := by
  refine mt_l (by decide +kernel) rfl (Nat.le_of_ble_eq_true rfl) (fun p e s m args below meth c Q A C hA hW hret ls hl => ?_)
  obtain ⟨hx, hb, hr, hml, hown, hts0, hlocks⟩ := C
  have hts : ∀ w ∈ bigw, w.before args s = true := fun w h => hts0 w (List.mem_cons_of_mem _ h)
  have hown : s.vm.findClass R_C = some m.cls := hown
  have hnp := hO.le
  have hl : lv_has ls 4 [(0, .ref (ad (0))), (1, .int (x)), (2, .int (y))] := hl
  refine lv_iload_n hx hb d_C_info_0 rfl (lv_at hl 1 rfl) ?_
  refine lv_aload_n hx hb d_C_info_1 rfl (lv_at hl 0 rfl) ?_
  refine wg hx hb hts i_C hown hW (0) (by omega) mk_root rfl 5 (by decide) (hts _ kf_C_55) rfl d_C_info_2 ?_
  obtain ⟨e1, b1⟩ := hO.made
  refine wci hW hA (va_runS (As := [.int (x), .int (v 0 5)]) (rest := []) ⟨hx, hb, hml, hown, hts⟩ (c_C_isIn l _ (x) (v 0 5) _) (cs 2 hts kc_C_isIn ks_C_isIn kn_C km_C_40 kh_C_isIn rfl rfl ⟨by decide, by decide⟩) (preWS hW) rfl rfl hl.1 rfl (lv_room (Nat.le_of_ble_eq_true rfl)) d_C_info_5 ⟨by decide, by decide⟩) (fun rr2 uu2 H locs hp2 hW => ?_)
  have hW : Wd D classes (tysA g) s A (wC g ad np (v)) H locs := hW
  have hp2 : rr2 = if inI (x) (v 0 5) then 1 else 0 := hp2
  refine lv_if_ne (tgt := 15) hx hb d_C_info_8 (by decide) (fun c_8 => ?_) (fun c_8 => ?_)
  · have c_8 : inI (x) (v 0 5) := bo_ne hp2 c_8
    obtain ⟨e3, b3⟩ := inI_nn (N := np) e1 (by omega) c_8
    refine lv_aload_n hx hb d_C_info_15 rfl (lv_at hl 0 rfl) ?_
    refine wg hx hb hts i_C hown hW (0) (by omega) mk_root rfl 1 (by decide) (hts _ kf_C_17) rfl d_C_info_16 ?_
    refine lv_iload_n hx hb d_C_info_19 rfl (lv_at hl 1 rfl) ?_
    have hi4 : nn x < np := by omega
    refine wa hx hb hW 2 (by omega) mk_processes 2 rfl (nn x) e3 (by omega) (by decide) (if_pos hi4) d_C_info_20 ?_
    refine lv_astore_n (lv' := [(3, .ref (ad (68 + 3 * (nn x)))), (0, .ref (ad (0))), (1, .int (x)), (2, .int (y))]) hx hb d_C_info_21 rfl hl (by decide) rfl (fun ls hl => ?_)
    refine lv_iload_n hx hb d_C_info_22 rfl (lv_at hl 3 rfl) ?_
    rcases sw_6 (y) with c_23 | h_23_0 | h_23_1 | h_23_2 | h_23_3 | h_23_4 | h_23_5
    · refine lv_tableOut (tgt := 110) hx hb d_C_info_23 c_23 (by decide) ?_
      refine lv_ldc2 (v := (10000000000 : Int64)) hx hb hown (hts _ kg_C_97) d_C_info_110 ?_
      refine hret _ () _ _ _ _ _ _ ?_ hW (by decide) (by decide) d_C_info_113
      show (10000000000 : Int64) = rInfo v x y
      simp only [rInfo, if_pos c_8, if_neg (out_ne c_23 0 (by decide)), if_neg (out_ne c_23 1 (by decide)), if_neg (out_ne c_23 2 (by decide)), if_neg (out_ne c_23 3 (by decide)), if_neg (out_ne c_23 4 (by decide)), if_neg (out_ne c_23 5 (by decide))]
    · refine lv_tableIn (tgt := 60) hx hb d_C_info_23 (by rw [h_23_0]; decide) (by rw [h_23_0]; decide) (off := 37) (by rw [h_23_0]; rfl) (by decide) ?_
      refine lv_aload_n hx hb d_C_info_60 rfl (lv_at hl 0 rfl) ?_
      refine wg hx hb hts i_Proc hown hW (68 + 3 * (nn x)) (by omega) mk_proc rfl 5 (by decide) (hts _ kf_C_70) rfl d_C_info_61 ?_
      refine lv_i2l (v := (v (68 + 3 * (nn x)) 5).toInt64) hx hb d_C_info_64 rfl ?_
      refine hret _ () _ _ _ _ _ _ ?_ hW (by decide) (by decide) d_C_info_65
      show (v (68 + 3 * (nn x)) 5).toInt64 = rInfo v x y
      subst h_23_0
      simp only [rInfo, if_pos c_8]
      rfl
    · refine lv_tableIn (tgt := 66) hx hb d_C_info_23 (by rw [h_23_1]; decide) (by rw [h_23_1]; decide) (off := 43) (by rw [h_23_1]; rfl) (by decide) ?_
      refine lv_aload_n hx hb d_C_info_66 rfl (lv_at hl 0 rfl) ?_
      refine wg hx hb hts i_Proc hown hW (68 + 3 * (nn x)) (by omega) mk_proc rfl 4 (by decide) (hts _ kf_C_88) rfl d_C_info_67 ?_
      obtain ⟨e5, b5⟩ := hO.place hi4
      refine lv_i2l (v := (v (68 + 3 * (nn x)) 4).toInt64) hx hb d_C_info_70 rfl ?_
      refine hret _ () _ _ _ _ _ _ ?_ hW (by decide) (by decide) d_C_info_71
      show (v (68 + 3 * (nn x)) 4).toInt64 = rInfo v x y
      subst h_23_1
      simp only [rInfo, if_pos c_8]
      rfl
    · refine lv_tableIn (tgt := 72) hx hb d_C_info_23 (by rw [h_23_2]; decide) (by rw [h_23_2]; decide) (off := 49) (by rw [h_23_2]; rfl) (by decide) ?_
      refine lv_aload_n hx hb d_C_info_72 rfl (lv_at hl 0 rfl) ?_
      refine wg hx hb hts i_Proc hown hW (68 + 3 * (nn x)) (by omega) mk_proc rfl 6 (by decide) (hts _ kf_C_102) rfl d_C_info_73 ?_
      obtain ⟨e6, b6⟩ := hO.counter hi4
      refine lv_i2l (v := (v (68 + 3 * (nn x)) 6).toInt64) hx hb d_C_info_76 rfl ?_
      refine hret _ () _ _ _ _ _ _ ?_ hW (by decide) (by decide) d_C_info_77
      show (v (68 + 3 * (nn x)) 6).toInt64 = rInfo v x y
      subst h_23_2
      simp only [rInfo, if_pos c_8]
      rfl
    · refine lv_tableIn (tgt := 78) hx hb d_C_info_23 (by rw [h_23_3]; decide) (by rw [h_23_3]; decide) (off := 55) (by rw [h_23_3]; rfl) (by decide) ?_
      refine lv_aload_n hx hb d_C_info_78 rfl (lv_at hl 0 rfl) ?_
      refine wg hx hb hts i_Proc hown hW (68 + 3 * (nn x)) (by omega) mk_proc rfl 7 (by decide) (hts _ kf_C_105) rfl d_C_info_79 ?_
      refine lv_i2l (v := (v (68 + 3 * (nn x)) 7).toInt64) hx hb d_C_info_82 rfl ?_
      refine hret _ () _ _ _ _ _ _ ?_ hW (by decide) (by decide) d_C_info_83
      show (v (68 + 3 * (nn x)) 7).toInt64 = rInfo v x y
      subst h_23_3
      simp only [rInfo, if_pos c_8]
      rfl
    · refine lv_tableIn (tgt := 84) hx hb d_C_info_23 (by rw [h_23_4]; decide) (by rw [h_23_4]; decide) (off := 61) (by rw [h_23_4]; rfl) (by decide) ?_
      refine lv_aload_n hx hb d_C_info_84 rfl (lv_at hl 0 rfl) ?_
      refine wg hx hb hts i_Proc hown hW (68 + 3 * (nn x)) (by omega) mk_proc rfl 8 (by decide) (hts _ kf_C_108) rfl d_C_info_85 ?_
      refine lv_i2l (v := (v (68 + 3 * (nn x)) 8).toInt64) hx hb d_C_info_88 rfl ?_
      refine hret _ () _ _ _ _ _ _ ?_ hW (by decide) (by decide) d_C_info_89
      show (v (68 + 3 * (nn x)) 8).toInt64 = rInfo v x y
      subst h_23_4
      simp only [rInfo, if_pos c_8]
      rfl
    · refine lv_tableIn (tgt := 90) hx hb d_C_info_23 (by rw [h_23_5]; decide) (by rw [h_23_5]; decide) (off := 67) (by rw [h_23_5]; rfl) (by decide) ?_
      refine lv_aload_n hx hb d_C_info_90 rfl (lv_at hl 0 rfl) ?_
      refine wg hx hb hts i_Proc hown hW (68 + 3 * (nn x)) (by omega) mk_proc rfl 5 (by decide) (hts _ kf_C_70) rfl d_C_info_91 ?_
      refine lv_iconst (v := 2) hx hb d_C_info_94 (by decide) ?_
      refine lv_icmp_ne (tgt := 106) hx hb d_C_info_95 (by decide) (fun c_95 => ?_) (fun c_95 => ?_)
      · refine lv_ldc2 (v := (8 : Int64)) hx hb hown (hts _ kg_C_114) d_C_info_106 ?_
        refine hret _ () _ _ _ _ _ _ ?_ hW (by decide) (by decide) d_C_info_109
        show (8 : Int64) = rInfo v x y
        subst h_23_5
        simp only [rInfo, if_pos c_8, if_neg c_95]
        rfl
      · refine lv_aload_n hx hb d_C_info_98 rfl (lv_at hl 0 rfl) ?_
        refine wg hx hb hts i_Proc hown hW (68 + 3 * (nn x)) (by omega) mk_proc rfl 9 (by decide) (hts _ kf_C_111) rfl d_C_info_99 ?_
        refine lv_i2l (v := (v (68 + 3 * (nn x)) 9).toInt64) hx hb d_C_info_102 rfl ?_
        refine lv_goto (tgt := 109) hx hb d_C_info_103 (by decide) ?_
        refine hret _ () _ _ _ _ _ _ ?_ hW (by decide) (by decide) d_C_info_109
        show (v (68 + 3 * (nn x)) 9).toInt64 = rInfo v x y
        subst h_23_5
        simp only [rInfo, if_pos c_8, if_pos c_95]
        rfl
  · have c_8 : ¬ (inI (x) (v 0 5)) := bo_eq hp2 c_8
    refine lv_ldc2 (v := (10000000000 : Int64)) hx hb hown (hts _ kg_C_97) d_C_info_11 ?_
    refine hret _ () _ _ _ _ _ _ ?_ hW (by decide) (by decide) d_C_info_14
    show (10000000000 : Int64) = rInfo v x y
    simp only [rInfo, if_neg c_8]
abbrev rm_C_count : Room := { frames := 1, cells := 0, slots := 0, locals := 22 }
set_option maxHeartbeats 4000000 in
set_option maxRecDepth 100000 in
theorem c_C_count (l : Launch) {D : va_G} {g : Nat → ClassId} {ad : Nat → Nat} {np : Nat} {v : Vs} (y : Int32) (hO : Ok np v) : MtI l y_C_count ws_C_count rm_C_count D classes (tysA g) [.ref (ad (0)), .int (y)] (wC g ad np (v)) (fun (rr : Int32) (_ : Unit) => rr = rCount v y) (fun _ => wC g ad np (v)) 0 0 := by
  refine mt_i (ty := .int) (fun _ _ _ => rfl) (by decide +kernel) rfl (Nat.le_of_ble_eq_true rfl) (fun p e s m args below meth c Q A C hA hW hret ls hl => ?_)
  obtain ⟨hx, hb, hr, hml, hown, hts0, hlocks⟩ := C
  have hts : ∀ w ∈ bigw, w.before args s = true := fun w h => hts0 w (List.mem_cons_of_mem _ h)
  have hown : s.vm.findClass R_C = some m.cls := hown
  have hnp := hO.le
  have hl : lv_has ls 2 [(0, .ref (ad (0))), (1, .int (y))] := hl
  refine lv_iload_n hx hb d_C_count_0 rfl (lv_at hl 1 rfl) ?_
  rcases sw_7 (y) with c_1 | h_1_0 | h_1_1 | h_1_2 | h_1_3 | h_1_4 | h_1_5 | h_1_6
  · refine lv_tableOut (tgt := 79) hx hb d_C_count_1 c_1 (by decide) ?_
    refine lv_iconst (v := (-1)) hx hb d_C_count_79 (by decide) ?_
    refine hret _ () _ _ _ _ _ _ ?_ hW (by decide) (by decide) d_C_count_80
    show (-1) = rCount v y
    simp only [rCount, if_neg (out_ne c_1 0 (by decide)), if_neg (out_ne c_1 1 (by decide)), if_neg (out_ne c_1 2 (by decide)), if_neg (out_ne c_1 3 (by decide)), if_neg (out_ne c_1 4 (by decide)), if_neg (out_ne c_1 5 (by decide)), if_neg (out_ne c_1 6 (by decide))]
  · refine lv_tableIn (tgt := 44) hx hb d_C_count_1 (by rw [h_1_0]; decide) (by rw [h_1_0]; decide) (off := 43) (by rw [h_1_0]; rfl) (by decide) ?_
    refine lv_aload_n hx hb d_C_count_44 rfl (lv_at hl 0 rfl) ?_
    refine wg hx hb hts i_C hown hW (0) (by omega) mk_root rfl 5 (by decide) (hts _ kf_C_55) rfl d_C_count_45 ?_
    obtain ⟨e1, b1⟩ := hO.made
    refine hret _ () _ _ _ _ _ _ ?_ hW (by decide) (by decide) d_C_count_48
    show v 0 5 = rCount v y
    subst h_1_0
    simp only [rCount]
    rfl
  · refine lv_tableIn (tgt := 49) hx hb d_C_count_1 (by rw [h_1_1]; decide) (by rw [h_1_1]; decide) (off := 48) (by rw [h_1_1]; rfl) (by decide) ?_
    refine lv_aload_n hx hb d_C_count_49 rfl (lv_at hl 0 rfl) ?_
    refine wg hx hb hts i_C hown hW (0) (by omega) mk_root rfl 7 (by decide) (hts _ kf_C_124) rfl d_C_count_50 ?_
    refine hret _ () _ _ _ _ _ _ ?_ hW (by decide) (by decide) d_C_count_53
    show v 0 7 = rCount v y
    subst h_1_1
    simp only [rCount]
    rfl
  · refine lv_tableIn (tgt := 54) hx hb d_C_count_1 (by rw [h_1_2]; decide) (by rw [h_1_2]; decide) (off := 53) (by rw [h_1_2]; rfl) (by decide) ?_
    refine lv_aload_n hx hb d_C_count_54 rfl (lv_at hl 0 rfl) ?_
    refine wg hx hb hts i_C hown hW (0) (by omega) mk_root rfl 8 (by decide) (hts _ kf_C_127) rfl d_C_count_55 ?_
    refine hret _ () _ _ _ _ _ _ ?_ hW (by decide) (by decide) d_C_count_58
    show v 0 8 = rCount v y
    subst h_1_2
    simp only [rCount]
    rfl
  · refine lv_tableIn (tgt := 59) hx hb d_C_count_1 (by rw [h_1_3]; decide) (by rw [h_1_3]; decide) (off := 58) (by rw [h_1_3]; rfl) (by decide) ?_
    refine lv_aload_n hx hb d_C_count_59 rfl (lv_at hl 0 rfl) ?_
    refine wg hx hb hts i_C hown hW (0) (by omega) mk_root rfl 9 (by decide) (hts _ kf_C_130) rfl d_C_count_60 ?_
    refine hret _ () _ _ _ _ _ _ ?_ hW (by decide) (by decide) d_C_count_63
    show v 0 9 = rCount v y
    subst h_1_3
    simp only [rCount]
    rfl
  · refine lv_tableIn (tgt := 64) hx hb d_C_count_1 (by rw [h_1_4]; decide) (by rw [h_1_4]; decide) (off := 63) (by rw [h_1_4]; rfl) (by decide) ?_
    refine lv_aload_n hx hb d_C_count_64 rfl (lv_at hl 0 rfl) ?_
    refine wci hW hA (va_runV (As := []) (rest := []) ⟨hx, hb, hml, hown, hts⟩ (c_C_requestsStanding l hO _) (cv 0 hts kc_C_requestsStanding ki_C_requestsStanding ke_C_requestsStanding kn_C km_C_133 kh_C_requestsStanding rfl rfl ⟨by decide, by decide⟩) (preW hW rfl rfl (mw_get (by omega) mk_root)) rfl rfl hl.1 rfl (lv_room (Nat.le_of_ble_eq_true rfl)) d_C_count_65 ⟨by decide, by decide⟩) (fun rr2 uu2 H locs hp2 hW => ?_)
    have hW : Wd D classes (tysA g) s A (wC g ad np (v)) H locs := hW
    have hp2 : rr2 = cReqL v 8 0 0 := hp2
    subst hp2
    refine hret _ () _ _ _ _ _ _ ?_ hW (by decide) (by decide) d_C_count_68
    show cReqL v 8 0 0 = rCount v y
    subst h_1_4
    simp only [rCount]
    rfl
  · refine lv_tableIn (tgt := 69) hx hb d_C_count_1 (by rw [h_1_5]; decide) (by rw [h_1_5]; decide) (off := 68) (by rw [h_1_5]; rfl) (by decide) ?_
    refine lv_aload_n hx hb d_C_count_69 rfl (lv_at hl 0 rfl) ?_
    refine wci hW hA (va_runV (As := []) (rest := []) ⟨hx, hb, hml, hown, hts⟩ (c_C_processesReady l hO _) (cv 0 hts kc_C_processesReady ki_C_processesReady ke_C_processesReady kn_C km_C_137 kh_C_processesReady rfl rfl ⟨by decide, by decide⟩) (preW hW rfl rfl (mw_get (by omega) mk_root)) rfl rfl hl.1 rfl (lv_room (Nat.le_of_ble_eq_true rfl)) d_C_count_70 ⟨by decide, by decide⟩) (fun rr3 uu3 H locs hp3 hW => ?_)
    have hW : Wd D classes (tysA g) s A (wC g ad np (v)) H locs := hW
    have hp3 : rr3 = cRdyL v 3 0 0 := hp3
    subst hp3
    refine hret _ () _ _ _ _ _ _ ?_ hW (by decide) (by decide) d_C_count_73
    show cRdyL v 3 0 0 = rCount v y
    subst h_1_5
    simp only [rCount]
    rfl
  · refine lv_tableIn (tgt := 74) hx hb d_C_count_1 (by rw [h_1_6]; decide) (by rw [h_1_6]; decide) (off := 73) (by rw [h_1_6]; rfl) (by decide) ?_
    refine lv_aload_n hx hb d_C_count_74 rfl (lv_at hl 0 rfl) ?_
    refine wg hx hb hts i_C hown hW (0) (by omega) mk_root rfl 10 (by decide) (hts _ kf_C_140) rfl d_C_count_75 ?_
    refine hret _ () _ _ _ _ _ _ ?_ hW (by decide) (by decide) d_C_count_78
    show v 0 10 = rCount v y
    subst h_1_6
    simp only [rCount]
    rfl
end
section
/-! makers: worlds W0 ++ L, with W0 any -/
theorem ap_get (W0 L : va_W) (i : Nat) : (W0 ++ L)[W0.length + i]? = L[i]? := by
  rw [List.getElem?_append_right (by omega), Nat.add_sub_cancel_left]
theorem ap_set (W0 L : va_W) (i : Nat) (x : Nat × va_E) : (W0 ++ L).set (W0.length + i) x = W0 ++ L.set i x := by
  rw [List.set_append_right _ _ (by omega), Nat.add_sub_cancel_left]
theorem kI {D : va_G} {cl : List vw_C} {g : Nat → ClassId} {s : State} {cA : ClassId} (h : va_K D cl (tysA g ++ [(cA, .int)]) s) : cA = g 0 := by
  have h1 : s.vm.findClass ("[" ++ FieldType.int.toString) = some (g 0) := (h.2 0 (g 0, .int) rfl).2
  have h2 : s.vm.findClass ("[" ++ FieldType.int.toString) = some cA := (h.2 6 (cA, .int) rfl).2
  exact Option.some.inj (h2.symm.trans h1)
theorem kO {D : va_G} {cl : List vw_C} {g : Nat → ClassId} {s : State} {cA : ClassId} {C : String} (i : Nat) (hi : (tysA g)[i]? = some (g i, .object C)) (h : va_K D cl (tysA g ++ [(cA, .object C)]) s) : cA = g i := by
  have hl : i < (tysA g).length := (List.getElem?_eq_some_iff.mp hi).1
  obtain ⟨k1, c1, -, -, -, h1⟩ := (h.2 i (g i, .object C) (by rw [List.getElem?_append_left hl]; exact hi)).2
  obtain ⟨k2, c2, -, -, -, h2⟩ := (h.2 6 (cA, .object C) rfl).2
  exact Option.some.inj (h2.symm.trans h1)
theorem ci {R : Room} {s : State} {args : Array Value} {own : String} {y : MethodName} {bytes : ByteArray} {maxL index mc ms : Nat} {rm : Room} (n : Nat) (ht : ∀ w ∈ bigw, w.before args s = true) (kc : Cond.code y bytes maxL none ∈ bigw) (ki : Cond.instanceMethod y ∈ bigw) (kn : Cond.initialized y.cls ∈ bigw) (km : Cond.methodLink own index y ∈ bigw) (hd : y.cls ≠ "java/lang/invoke/MethodHandle" ∧ y.cls ≠ "java/lang/invoke/VarHandle" ∧ (parseMethodDescriptor y.desc).map (fun d => d.parameters.length) = some n) (hn : y.name = "<init>") (hrc : rm.cells = mc) (hrs : rm.slots = ms) (hR : rm.frames + 1 ≤ R.frames ∧ 8 + (maxL + 11) + rm.locals ≤ R.locals) : CallB R s args own index y bytes maxL none (Cond.code y bytes maxL none :: bigw) rm mc ms n ∧ y.name = "<init>" ∧ (Cond.instanceMethod y).before args s = true :=
  ⟨callB_of n ht (gb kc) rfl hrc hrs (ht _ kn) (ht _ km) hd hR, hn, ht _ ki⟩
/-- a new process's rows -/
def cNew (v : Vs) (np : Nat) (x pr nd : Int32) : Vs := u1 (u1 (u1 v (68 + 3 * np) (fun j => if j = 0 then x else if j = 1 then pr else if j = 4 then nd else 0)) (68 + 3 * np + 1) (fun _ => 0)) (68 + 3 * np + 2) (upd (upd (upd (fun _ => 0) 0 nd) 1 nd) 2 nd)
abbrev prF (x pr nd : Int32) (a b : Value) : List Value := [.int x, .int pr, a, b, .int nd, .int 0, .int 0, .int 0, .int 0, .int 0, .int 0, .int 0]
/-- the addresses with three more -/
def ad3 (ad : Nat → Nat) (n q q1 q2 : Nat) : Nat → Nat := va_up (va_up (va_up ad n q) (n + 1) q1) (n + 2) q2
theorem ad3_lt {ad : Nat → Nat} {n q q1 q2 k : Nat} (h : k < n) : ad3 ad n q q1 q2 k = ad k := by
  unfold ad3; rw [va_up_ne _ _ (by omega), va_up_ne _ _ (by omega), va_up_ne _ _ (by omega)]
theorem ad3_0 {ad : Nat → Nat} {n q q1 q2 : Nat} : ad3 ad n q q1 q2 n = q := by
  unfold ad3; rw [va_up_ne _ _ (by omega), va_up_ne _ _ (by omega), va_up_self]
theorem ad3_1 {ad : Nat → Nat} {n q q1 q2 : Nat} : ad3 ad n q q1 q2 (n + 1) = q1 := by
  unfold ad3; rw [va_up_ne _ _ (by omega), va_up_self]
theorem ad3_2 {ad : Nat → Nat} {n q q1 q2 : Nat} : ad3 ad n q q1 q2 (n + 2) = q2 := by
  unfold ad3; rw [va_up_self]
theorem fun_ad {ad ad' : Nat → Nat} {N a b n : Nat} (h : ∀ j, j < n → ad j = ad' j) (hb : ∀ i, i < N → a + b * i < n) : (fun i => if i < N then some (ad (a + b * i)) else none) = (fun i => if i < N then some (ad' (a + b * i)) else none) := by
  funext i
  by_cases hi : i < N
  · rw [if_pos hi, if_pos hi, h _ (hb i hi)]
  · rw [if_neg hi, if_neg hi]
/-- a cell speaks of the addresses below n alone -/
theorem mkC_ad {g : Nat → ClassId} {ad ad' : Nat → Nat} {np k : Nat} {r : Nat → Int32} (hk : k < 68 + 3 * np) (h : ∀ j, j < 68 + 3 * np → ad j = ad' j) : mkC g ad np k r = mkC g ad' np k r := by
  by_cases h1 : k < 6
  · by_cases e0 : k = 0
    · subst e0; rw [mk_root, mk_root, h 1 (by omega), h 2 (by omega), h 3 (by omega), h 4 (by omega), h 5 (by omega)]
    · by_cases e1 : k = 1
      · subst e1; rw [mk_programs, mk_programs, fun_ad h (fun i hi => by omega)]
      · by_cases e2 : k = 2
        · subst e2; rw [mk_processes, mk_processes, fun_ad h (fun i hi => by omega)]
        · by_cases e3 : k = 3
          · subst e3; rw [mk_lines, mk_lines, fun_ad h (fun i hi => by omega)]
          · by_cases e4 : k = 4
            · subst e4; rw [mk_pages, mk_pages, fun_ad h (fun i hi => by omega)]
            · obtain rfl : k = 5 := by omega
              rw [mk_memory, mk_memory]
  · by_cases h2 : k < 22
    · by_cases e : (k - 6) % 4 = 0
      · obtain ⟨i, rfl⟩ : ∃ i, k = 6 + 4 * i := ⟨(k - 6) / 4, by omega⟩
        rw [mk_program (by omega), mk_program (by omega), h _ (by omega), h _ (by omega), h _ (by omega)]
      · obtain ⟨i, j, h3, h4, rfl⟩ : ∃ i j, 1 ≤ j ∧ j < 4 ∧ k = 6 + 4 * i + j := ⟨(k - 6) / 4, (k - 6) % 4, by omega, by omega, by omega⟩
        rw [mk_ops (by omega) h3 h4, mk_ops (by omega) h3 h4]
    · by_cases h3 : k < 68
      · by_cases e : isLn k
        · rw [mk_line e, mk_line e, h _ (by have := ln_lt e; omega)]
        · by_cases e2 : isLn (k - 1)
          · obtain ⟨k0, rfl⟩ : ∃ k0, k = k0 + 1 := ⟨k - 1, by omega⟩
            rw [Nat.add_sub_cancel] at e2
            rw [mk_items e2, mk_items e2]
          · unfold isLn at e e2
            by_cases e5 : (k - 28) % 5 = 0
            · obtain ⟨j, rfl⟩ : ∃ j, k = 28 + 5 * j := ⟨(k - 28) / 5, by omega⟩
              rw [mk_page (by omega), mk_page (by omega), h _ (by omega), h _ (by omega), h _ (by omega)]
            · by_cases e6 : (k - 28) % 5 = 1
              · obtain ⟨j, rfl⟩ : ∃ j, k = 28 + 5 * j + 1 := ⟨(k - 28) / 5, by omega⟩
                rw [mk_rights (by omega), mk_rights (by omega)]
              · obtain ⟨j, rfl⟩ : ∃ j, k = 28 + 5 * j + 2 := ⟨(k - 28) / 5, by omega⟩
                rw [mk_uses (by omega), mk_uses (by omega)]
      · by_cases e : (k - 68) % 3 = 0
        · obtain ⟨i, rfl⟩ : ∃ i, k = 68 + 3 * i := ⟨(k - 68) / 3, by omega⟩
          rw [mk_proc, mk_proc, h _ (by omega), h _ (by omega)]
        · by_cases e2 : (k - 68) % 3 = 1
          · obtain ⟨i, rfl⟩ : ∃ i, k = 68 + 3 * i + 1 := ⟨(k - 68) / 3, by omega⟩
            rw [mk_regs, mk_regs]
          · obtain ⟨i, rfl⟩ : ∃ i, k = 68 + 3 * i + 2 := ⟨(k - 68) / 3, by omega⟩
            rw [mk_hints, mk_hints]
/-- the class's world with three cells more: a process's, not yet in the array -/
theorem wC_push {g : Nat → ClassId} {ad : Nat → Nat} {np : Nat} {v : Vs} {q q1 q2 : Nat} {x pr nd : Int32} : wC g ad np v ++ [(q, .inr (ciProc, prF x pr nd (.ref q1) (.ref q2))), (q1, .inl (g 0, 4, .inl (fun _ => 0))), (q2, .inl (g 0, 3, .inl (upd (upd (upd (fun _ => 0) 0 nd) 1 nd) 2 nd)))] = mw (68 + 3 * (np + 1)) (ad3 ad (68 + 3 * np) q q1 q2) (mkC g (ad3 ad (68 + 3 * np) q q1 q2) np) (cNew v np x pr nd) := by
  apply List.ext_getElem?
  intro j
  by_cases hj : j < 68 + 3 * np
  · rw [List.getElem?_append_left (by rw [wC, mw, wl_len]; exact hj), wC, mw_get hj rfl, mw_get (by omega) rfl, ad3_lt hj]
    have e : cNew v np x pr nd j = v j := by unfold cNew; rw [u1_oth (by omega), u1_oth (by omega), u1_oth (by omega)]
    rw [e, mkC_ad hj (fun k hk => (ad3_lt hk).symm)]
  · obtain ⟨t, rfl⟩ : ∃ t, j = 68 + 3 * np + t := ⟨j - (68 + 3 * np), by omega⟩
    have hlen : (wC g ad np v).length = 68 + 3 * np := by rw [wC, mw, wl_len]
    have := ap_get (wC g ad np v) [(q, .inr (ciProc, prF x pr nd (.ref q1) (.ref q2))), (q1, .inl (g 0, 4, .inl (fun _ => 0))), (q2, .inl (g 0, 3, .inl (upd (upd (upd (fun _ => 0) 0 nd) 1 nd) 2 nd)))] t
    rw [hlen] at this
    rw [this]
    match t with
    | 0 =>
      have e : cNew v np x pr nd (68 + 3 * np) = (fun j => if j = 0 then x else if j = 1 then pr else if j = 4 then nd else 0) := by unfold cNew; rw [u1_oth (by omega), u1_oth (by omega), u1_row]
      rw [mw_get (by omega) (by rw [Nat.add_zero, mk_proc, e])]
      rw [Nat.add_zero, ad3_0, ad3_1, ad3_2]
      rfl
    | 1 =>
      have e : cNew v np x pr nd (68 + 3 * np + 1) = fun _ => 0 := by unfold cNew; rw [u1_oth (by omega), u1_row]
      rw [mw_get (by omega) (by rw [mk_regs, e]), ad3_1]
      rfl
    | 2 =>
      have e : cNew v np x pr nd (68 + 3 * np + 2) = upd (upd (upd (fun _ => 0) 0 nd) 1 nd) 2 nd := by unfold cNew; rw [u1_row]
      rw [mw_get (by omega) (by rw [mk_hints, e]), ad3_2]
      rfl
    | t + 3 =>
      rw [mw, wl_out (by omega)]
      rfl
/-- the array of processes takes the next one -/
theorem wC_more {g : Nat → ClassId} {ad : Nat → Nat} {np : Nat} {v : Vs} (h8 : np < 8) : (mw (68 + 3 * (np + 1)) ad (mkC g ad np) v).set 2 (ad 2, .inl (g 2, 8, .inr (.inr (.inr (.inr (va_up (fun i => if i < np then some (ad (68 + 3 * i)) else none) np (some (ad (68 + 3 * np))))))))) = wC g ad (np + 1) v := by
  rw [mw, wl_set (by omega), wC, mw]
  apply wl_congr (fun _ _ => rfl)
  intro k hk
  by_cases h2 : k = 2
  · subst h2
    have e : va_up (fun i => if i < np then some (ad (68 + 3 * i)) else none) np (some (ad (68 + 3 * np))) = fun i => if i < np + 1 then some (ad (68 + 3 * i)) else none := by
      funext i
      by_cases hi : i = np
      · subst hi; rw [va_up_self, if_pos (by omega)]
      · rw [va_up_ne _ _ hi]
        by_cases hl : i < np
        · rw [if_pos hl, if_pos (by omega)]
        · rw [if_neg hl, if_neg (by omega)]
    rw [va_up_self, mk_processes, e]
  · rw [va_up_ne _ _ h2]
    unfold mkC
    by_cases h1 : k < 6
    · rw [if_pos h1, if_pos h1]
      by_cases e0 : k = 0
      · rw [if_pos e0, if_pos e0]
      · rw [if_neg e0, if_neg e0]
        by_cases e1 : k = 1
        · rw [if_pos e1, if_pos e1]
        · rw [if_neg e1, if_neg e1, if_neg h2, if_neg h2]
    · rw [if_neg h1, if_neg h1]
theorem ap_left {W0 L : va_W} {k : Nat} {x : Nat × va_E} (h : W0[k]? = some x) : (W0 ++ L)[k]? = some x := by
  rw [List.getElem?_append_left (List.getElem?_eq_some_iff.mp h).1]; exact h
def cMk1 (v : Vs) (np : Nat) (x y : Int32) : Vs := u2 (cNew v np (v 0 5) x y) 0 5 (cNew v np (v 0 5) x y 0 5 + 1)
def cMake (v : Vs) (np : Nat) (x y : Int32) : Vs := cJoin (cMk1 v np x y) np
theorem cNew_old {v : Vs} {np k : Nat} {x pr nd : Int32} (h : k < 68 + 3 * np) : cNew v np x pr nd k = v k := by
  unfold cNew; rw [u1_oth (by omega), u1_oth (by omega), u1_oth (by omega)]
theorem cNew_0 {v : Vs} {np : Nat} {x pr nd : Int32} : cNew v np x pr nd (68 + 3 * np) = (fun j => if j = 0 then x else if j = 1 then pr else if j = 4 then nd else 0) := by
  unfold cNew; rw [u1_oth (by omega), u1_oth (by omega), u1_row]
theorem cNew_1 {v : Vs} {np : Nat} {x pr nd : Int32} : cNew v np x pr nd (68 + 3 * np + 1) = fun _ => 0 := by
  unfold cNew; rw [u1_oth (by omega), u1_row]
theorem cNew_2 {v : Vs} {np : Nat} {x pr nd : Int32} : cNew v np x pr nd (68 + 3 * np + 2) = upd (upd (upd (fun _ => 0) 0 nd) 1 nd) 2 nd := by
  unfold cNew; rw [u1_row]
theorem okS_more {np k j : Nat} {x : Int32} (h : okS np k j x) (h0 : ¬ (k = 0 ∧ j = 5)) : okS (np + 1) k j x := by
  obtain ⟨-, h2, h3, h4, h5⟩ := h
  refine ⟨fun a b => absurd ⟨a, b⟩ h0, fun a b => ?_, fun a b => ?_, h4, h5⟩
  · obtain ⟨n, q1, q2, q3⟩ := h2 a b
    exact ⟨n, q1, q2, fun _ => Nat.succ_pos _⟩
  · obtain ⟨n, q1, q2⟩ := h3 a b
    exact ⟨n, q1, by omega⟩
theorem Ok.mk1 {np : Nat} {v : Vs} (h : Ok np v) {x y : Int32} (h8 : np < 8) (hx : okLt 4 x) (hy : okLt 3 y) : Ok (np + 1) (cMk1 v np x y) := by
  have hmade : cNew v np (v 0 5) x y 0 5 + 1 = nI (np + 1) := by
    rw [cNew_old (by omega), h.made.1]; exact nI_1 np
  have ho : ∀ k, k < 68 + 3 * np → k ≠ 0 → cMk1 v np x y k = v k := fun k hk h0 => by unfold cMk1; rw [u2_oth h0, cNew_old hk]
  refine ⟨by omega, fun k j hk => ?_, fun i hi => ?_⟩
  · by_cases hkn : k < 68 + 3 * np
    · by_cases h0 : k = 0
      · subst h0
        by_cases h5 : j = 5
        · subst h5
          unfold cMk1; rw [u2_s, hmade]
          exact ⟨fun _ _ => rfl, fun a => by unfold isLn at a; omega, fun _ a => absurd a (by omega), fun a => absurd a (by omega), fun a => absurd a (by omega)⟩
        · exact okS_free (by omega)
      · rw [ho k hkn h0]; exact okS_more (h.2.1 k j hkn) (by omega)
    · have e0 : cMk1 v np x y k = cNew v np (v 0 5) x y k := by unfold cMk1; rw [u2_oth (by omega)]
      rw [e0]
      rcases (show k = 68 + 3 * np ∨ k = 68 + 3 * np + 1 ∨ k = 68 + 3 * np + 2 by omega) with rfl | rfl | rfl
      · rw [cNew_0]
        refine ⟨fun a => absurd a (by omega), fun a => by unfold isLn at a; omega, fun a => by unfold isLn at a; omega, fun _ _ => ⟨fun a => ?_, fun a => ?_, fun a => ?_, fun a => ?_⟩, fun _ a => absurd a (by omega)⟩
        · subst a; show v 0 5 = _; rw [h.made.1, show (68 + 3 * np - 68) / 3 = np by omega]
        · subst a; exact hx
        · subst a; exact hy
        · subst a; exact ⟨0, by omega, rfl⟩
      · exact okS_free (by omega)
      · rw [cNew_2]
        refine okS_hint ?_
        unfold upd
        split
        · exact hy
        · split
          · exact hy
          · split
            · exact hy
            · exact ⟨0, by omega, rfl⟩
  · have := h.2.2 i hi
    unfold okP nv at this ⊢
    rw [ho (6 + 4 * i) (by omega) (by omega), ho (6 + 4 * i + 1) (by omega) (by omega), ho (6 + 4 * i + 2) (by omega) (by omega), ho (6 + 4 * i + 3) (by omega) (by omega)]
    exact this
theorem Ok.make {np : Nat} {v : Vs} (h : Ok np v) {x y : Int32} (h8 : np < 8) (hx : okLt 4 x) (hy : okLt 3 y) : Ok (np + 1) (cMake v np x y) := (h.mk1 h8 hx hy).join (by omega)
end
section
abbrev rm_Proc_init : Room := { frames := 1, cells := 2, slots := 7, locals := 12 }
set_option maxHeartbeats 4000000 in
set_option maxRecDepth 100000 in
theorem c_Proc_init (l : Launch) {D : va_G} {g : Nat → ClassId} (W0 : va_W) (q : Nat) (x pr nd : Int32) : MtV l y_Proc_init ws_Proc_init rm_Proc_init D classes (tysA g) [.ref q, .int x, .int pr, .int nd] (W0 ++ [(q, .inr (ciProc, prF 0 0 0 .null .null))]) (fun _ : Nat × Nat => True) (fun u => W0 ++ [(q, .inr (ciProc, prF x pr nd (.ref u.1) (.ref u.2))), (u.1, .inl (g 0, 4, .inl (fun _ => 0))), (u.2, .inl (g 0, 3, .inl (upd (upd (upd (fun _ => 0) 0 nd) 1 nd) 2 nd)))]) 2 7 := by
  refine mt_v (by decide +kernel) rfl (Nat.le_of_ble_eq_true rfl) (fun p e s m args below meth c Q A C hnm hA hW hret ls hl => ?_)
  obtain ⟨hx, hb, hr, hml, hown, hts0, hlocks⟩ := C
  have hts : ∀ w ∈ bigw, w.before args s = true := fun w h => hts0 w (List.mem_cons_of_mem _ h)
  have hown : s.vm.findClass R_Proc = some m.cls := hown
  have hl : lv_has ls 5 [(0, .ref q), (1, .int x), (2, .int pr), (3, .int nd)] := hl
  obtain ⟨hK, hP, hD, hS⟩ := hW
  refine lv_aload_n hx hb d_Proc_init_0 rfl (lv_at hl 0 rfl) ?_
  refine W.objInit hx hb hown (hts _ km_Proc_3) (hts _ ko_i) (hts _ ko_c) rfl (by rw [hml]; exact hl.1) rfl d_Proc_init_1 (Nat.le_of_ble_eq_true rfl) (Nat.le_of_ble_eq_true rfl) ?_
  refine W.eq (g2 := F0 m 4 ls []) rfl ?_
  refine lv_aload_n hx hb d_Proc_init_4 rfl (lv_at hl 0 rfl) ?_
  refine lv_iconst (v := 4) hx hb d_Proc_init_5 (by decide) ?_
  refine va_newa (atype := .int) (ty := .int) (N' := 4) (a0 := (4, .inl (fun _ => 0))) hx hb (hts _ ka_int) rfl hK hP hD hS hA (fun _ => rfl) (by decide) rfl (by decide) (by decide) (by decide) d_Proc_init_6 (fun q1 cA H hK hP hD hS => ?_)
  obtain rfl : cA = g 0 := kI hK
  have hK : va_K D classes (tysA g) s := hK.sub [0, 1, 2, 3, 4, 5] rfl
  rw [List.append_assoc] at hP hD
  have hP : va_P D classes (W0 ++ [(q, .inr (ciProc, prF 0 0 0 .null .null)), (q1, .inl (g 0, 4, .inl (fun _ => 0)))]) H := hP
  have hD : va_D A (W0 ++ [(q, .inr (ciProc, prF 0 0 0 .null .null)), (q1, .inl (g 0, 4, .inl (fun _ => 0)))]) := hD
  refine va_putF (D := D) (ci := ciProc) (v := .ref q1) (ty := .array .int) (C := R_Proc) (T := F_Proc) (N := 12) hx hb hts i_Proc t_Proc t_Proc_ok n_Proc hown hK hP hD hS (W0.length + 0) ((ap_get W0 _ 0).trans rfl) rfl 2 (by decide) (hts _ kf_Proc_9) (fun _ h9 => h9) rfl hnm rfl (by decide +kernel) rfl rfl (Nat.le_of_ble_eq_true rfl) d_Proc_init_8 (fun H locs hP hD hS => ?_)
  rw [ap_set] at hP hD
  have hP : va_P D classes (W0 ++ [(q, .inr (ciProc, prF 0 0 0 (.ref q1) .null)), (q1, .inl (g 0, 4, .inl (fun _ => 0)))]) H := hP
  have hD : va_D A (W0 ++ [(q, .inr (ciProc, prF 0 0 0 (.ref q1) .null)), (q1, .inl (g 0, 4, .inl (fun _ => 0)))]) := hD
  refine lv_aload_n hx hb d_Proc_init_11 rfl (lv_at hl 0 rfl) ?_
  refine lv_iconst (v := 3) hx hb d_Proc_init_12 (by decide) ?_
  refine va_newa (atype := .int) (ty := .int) (N' := 3) (a0 := (3, .inl (fun _ => 0))) hx hb (hts _ ka_int) rfl hK hP hD hS hA (fun _ => rfl) (by decide) rfl (by decide) (by decide) (by decide) d_Proc_init_13 (fun q2 cA H hK hP hD hS => ?_)
  obtain rfl : cA = g 0 := kI hK
  have hK : va_K D classes (tysA g) s := hK.sub [0, 1, 2, 3, 4, 5] rfl
  rw [List.append_assoc] at hP hD
  have hP : va_P D classes (W0 ++ [(q, .inr (ciProc, prF 0 0 0 (.ref q1) .null)), (q1, .inl (g 0, 4, .inl (fun _ => 0))), (q2, .inl (g 0, 3, .inl (fun _ => 0)))]) H := hP
  have hD : va_D A (W0 ++ [(q, .inr (ciProc, prF 0 0 0 (.ref q1) .null)), (q1, .inl (g 0, 4, .inl (fun _ => 0))), (q2, .inl (g 0, 3, .inl (fun _ => 0)))]) := hD
  refine va_putF (D := D) (ci := ciProc) (v := .ref q2) (ty := .array .int) (C := R_Proc) (T := F_Proc) (N := 12) hx hb hts i_Proc t_Proc t_Proc_ok n_Proc hown hK hP hD hS (W0.length + 0) ((ap_get W0 _ 0).trans rfl) rfl 3 (by decide) (hts _ kf_Proc_15) (fun _ h9 => h9) rfl hnm rfl (by decide +kernel) rfl rfl (Nat.le_of_ble_eq_true rfl) d_Proc_init_15 (fun H locs hP hD hS => ?_)
  rw [ap_set] at hP hD
  have hP : va_P D classes (W0 ++ [(q, .inr (ciProc, prF 0 0 0 (.ref q1) (.ref q2))), (q1, .inl (g 0, 4, .inl (fun _ => 0))), (q2, .inl (g 0, 3, .inl (fun _ => 0)))]) H := hP
  have hD : va_D A (W0 ++ [(q, .inr (ciProc, prF 0 0 0 (.ref q1) (.ref q2))), (q1, .inl (g 0, 4, .inl (fun _ => 0))), (q2, .inl (g 0, 3, .inl (fun _ => 0)))]) := hD
  refine lv_aload_n hx hb d_Proc_init_18 rfl (lv_at hl 0 rfl) ?_
  refine lv_iload_n hx hb d_Proc_init_19 rfl (lv_at hl 1 rfl) ?_
  refine va_putF (D := D) (ci := ciProc) (v := .int x) (ty := .int) (C := R_Proc) (T := F_Proc) (N := 12) hx hb hts i_Proc t_Proc t_Proc_ok n_Proc hown hK hP hD hS (W0.length + 0) ((ap_get W0 _ 0).trans rfl) rfl 0 (by decide) (hts _ kf_Proc_18) (fun _ h9 => h9) rfl hnm rfl (by decide +kernel) rfl rfl (Nat.le_of_ble_eq_true rfl) d_Proc_init_20 (fun H locs hP hD hS => ?_)
  rw [ap_set] at hP hD
  have hP : va_P D classes (W0 ++ [(q, .inr (ciProc, prF x 0 0 (.ref q1) (.ref q2))), (q1, .inl (g 0, 4, .inl (fun _ => 0))), (q2, .inl (g 0, 3, .inl (fun _ => 0)))]) H := hP
  have hD : va_D A (W0 ++ [(q, .inr (ciProc, prF x 0 0 (.ref q1) (.ref q2))), (q1, .inl (g 0, 4, .inl (fun _ => 0))), (q2, .inl (g 0, 3, .inl (fun _ => 0)))]) := hD
  refine lv_aload_n hx hb d_Proc_init_23 rfl (lv_at hl 0 rfl) ?_
  refine lv_iload_n hx hb d_Proc_init_24 rfl (lv_at hl 2 rfl) ?_
  refine va_putF (D := D) (ci := ciProc) (v := .int pr) (ty := .int) (C := R_Proc) (T := F_Proc) (N := 12) hx hb hts i_Proc t_Proc t_Proc_ok n_Proc hown hK hP hD hS (W0.length + 0) ((ap_get W0 _ 0).trans rfl) rfl 1 (by decide) (hts _ kf_Proc_22) (fun _ h9 => h9) rfl hnm rfl (by decide +kernel) rfl rfl (Nat.le_of_ble_eq_true rfl) d_Proc_init_25 (fun H locs hP hD hS => ?_)
  rw [ap_set] at hP hD
  have hP : va_P D classes (W0 ++ [(q, .inr (ciProc, prF x pr 0 (.ref q1) (.ref q2))), (q1, .inl (g 0, 4, .inl (fun _ => 0))), (q2, .inl (g 0, 3, .inl (fun _ => 0)))]) H := hP
  have hD : va_D A (W0 ++ [(q, .inr (ciProc, prF x pr 0 (.ref q1) (.ref q2))), (q1, .inl (g 0, 4, .inl (fun _ => 0))), (q2, .inl (g 0, 3, .inl (fun _ => 0)))]) := hD
  refine lv_aload_n hx hb d_Proc_init_28 rfl (lv_at hl 0 rfl) ?_
  refine lv_iload_n hx hb d_Proc_init_29 rfl (lv_at hl 3 rfl) ?_
  refine va_put (D := D) (ci := ciProc) (v := .int nd) (ty := .int) (C := R_Proc) (T := F_Proc) (N := 12) hx hb hts i_Proc t_Proc t_Proc_ok n_Proc hown hK hP hD hS (W0.length + 0) ((ap_get W0 _ 0).trans rfl) rfl 4 (by decide) (hts _ kf_Proc_25) (fun _ h9 => h9) rfl (by decide +kernel) rfl rfl (Nat.le_of_ble_eq_true rfl) d_Proc_init_30 (fun H locs hP hD hS => ?_)
  rw [ap_set] at hP hD
  have hP : va_P D classes (W0 ++ [(q, .inr (ciProc, prF x pr nd (.ref q1) (.ref q2))), (q1, .inl (g 0, 4, .inl (fun _ => 0))), (q2, .inl (g 0, 3, .inl (fun _ => 0)))]) H := hP
  have hD : va_D A (W0 ++ [(q, .inr (ciProc, prF x pr nd (.ref q1) (.ref q2))), (q1, .inl (g 0, 4, .inl (fun _ => 0))), (q2, .inl (g 0, 3, .inl (fun _ => 0)))]) := hD
  refine lv_iconst (v := 0) hx hb d_Proc_init_33 (by decide) ?_
  refine lv_istore (lv' := [(4, .int 0), (0, .ref q), (1, .int x), (2, .int pr), (3, .int nd)]) hx hb d_Proc_init_34 hl (by decide) rfl (fun ls hl => ?_)
  refine lv_iload hx hb d_Proc_init_36 (lv_at hl 0 rfl) ?_
  refine lv_iconst (v := 3) hx hb d_Proc_init_38 (by decide) ?_
  refine lv_icmp_ge (tgt := 56) hx hb d_Proc_init_39 (by decide) (fun c => absurd c (by decide)) (fun c0 => ?_)
  refine lv_aload_n hx hb d_Proc_init_42 rfl (lv_at hl 1 rfl) ?_
  refine va_get (D := D) (ci := ciProc) (v := .ref q2) (C := R_Proc) (T := F_Proc) (N := 12) hx hb hts i_Proc hown hK hP (W0.length + 0) ((ap_get W0 _ 0).trans rfl) rfl 3 (by decide) (hts _ kf_Proc_15) (fun _ h9 => h9) rfl d_Proc_init_43 ?_
  refine lv_iload hx hb d_Proc_init_46 (lv_at hl 0 rfl) ?_
  refine lv_iload_n hx hb d_Proc_init_48 rfl (lv_at hl 4 rfl) ?_
  refine va_iast hx hb hK hP hD hS (W0.length + 2) 0 ((ap_get W0 _ 2).trans rfl) rfl (vp_in_nI (n := 0) (by decide) (by decide)) d_Proc_init_49 (fun H locs hP hD hS => ?_)
  rw [ap_set] at hP hD
  have hP : va_P D classes (W0 ++ [(q, .inr (ciProc, prF x pr nd (.ref q1) (.ref q2))), (q1, .inl (g 0, 4, .inl (fun _ => 0))), (q2, .inl (g 0, 3, .inl (upd (fun _ => 0) 0 nd)))]) H := hP
  have hD : va_D A (W0 ++ [(q, .inr (ciProc, prF x pr nd (.ref q1) (.ref q2))), (q1, .inl (g 0, 4, .inl (fun _ => 0))), (q2, .inl (g 0, 3, .inl (upd (fun _ => 0) 0 nd)))]) := hD
  refine lv_iinc (v := 1) (lv' := [(4, .int 1), (0, .ref q), (1, .int x), (2, .int pr), (3, .int nd)]) hx hb d_Proc_init_50 hl (k := 0) rfl (by decide) (by decide) rfl (fun ls hl => ?_)
  refine lv_goto (tgt := 36) hx hb d_Proc_init_53 (by decide) ?_
  refine lv_iload hx hb d_Proc_init_36 (lv_at hl 0 rfl) ?_
  refine lv_iconst (v := 3) hx hb d_Proc_init_38 (by decide) ?_
  refine lv_icmp_ge (tgt := 56) hx hb d_Proc_init_39 (by decide) (fun c => absurd c (by decide)) (fun c1 => ?_)
  refine lv_aload_n hx hb d_Proc_init_42 rfl (lv_at hl 1 rfl) ?_
  refine va_get (D := D) (ci := ciProc) (v := .ref q2) (C := R_Proc) (T := F_Proc) (N := 12) hx hb hts i_Proc hown hK hP (W0.length + 0) ((ap_get W0 _ 0).trans rfl) rfl 3 (by decide) (hts _ kf_Proc_15) (fun _ h9 => h9) rfl d_Proc_init_43 ?_
  refine lv_iload hx hb d_Proc_init_46 (lv_at hl 0 rfl) ?_
  refine lv_iload_n hx hb d_Proc_init_48 rfl (lv_at hl 4 rfl) ?_
  refine va_iast hx hb hK hP hD hS (W0.length + 2) 0 ((ap_get W0 _ 2).trans rfl) rfl (vp_in_nI (n := 1) (by decide) (by decide)) d_Proc_init_49 (fun H locs hP hD hS => ?_)
  rw [ap_set] at hP hD
  have hP : va_P D classes (W0 ++ [(q, .inr (ciProc, prF x pr nd (.ref q1) (.ref q2))), (q1, .inl (g 0, 4, .inl (fun _ => 0))), (q2, .inl (g 0, 3, .inl (upd (upd (fun _ => 0) 0 nd) 1 nd)))]) H := hP
  have hD : va_D A (W0 ++ [(q, .inr (ciProc, prF x pr nd (.ref q1) (.ref q2))), (q1, .inl (g 0, 4, .inl (fun _ => 0))), (q2, .inl (g 0, 3, .inl (upd (upd (fun _ => 0) 0 nd) 1 nd)))]) := hD
  refine lv_iinc (v := 2) (lv' := [(4, .int 2), (0, .ref q), (1, .int x), (2, .int pr), (3, .int nd)]) hx hb d_Proc_init_50 hl (k := 0) rfl (by decide) (by decide) rfl (fun ls hl => ?_)
  refine lv_goto (tgt := 36) hx hb d_Proc_init_53 (by decide) ?_
  refine lv_iload hx hb d_Proc_init_36 (lv_at hl 0 rfl) ?_
  refine lv_iconst (v := 3) hx hb d_Proc_init_38 (by decide) ?_
  refine lv_icmp_ge (tgt := 56) hx hb d_Proc_init_39 (by decide) (fun c => absurd c (by decide)) (fun c2 => ?_)
  refine lv_aload_n hx hb d_Proc_init_42 rfl (lv_at hl 1 rfl) ?_
  refine va_get (D := D) (ci := ciProc) (v := .ref q2) (C := R_Proc) (T := F_Proc) (N := 12) hx hb hts i_Proc hown hK hP (W0.length + 0) ((ap_get W0 _ 0).trans rfl) rfl 3 (by decide) (hts _ kf_Proc_15) (fun _ h9 => h9) rfl d_Proc_init_43 ?_
  refine lv_iload hx hb d_Proc_init_46 (lv_at hl 0 rfl) ?_
  refine lv_iload_n hx hb d_Proc_init_48 rfl (lv_at hl 4 rfl) ?_
  refine va_iast hx hb hK hP hD hS (W0.length + 2) 0 ((ap_get W0 _ 2).trans rfl) rfl (vp_in_nI (n := 2) (by decide) (by decide)) d_Proc_init_49 (fun H locs hP hD hS => ?_)
  rw [ap_set] at hP hD
  have hP : va_P D classes (W0 ++ [(q, .inr (ciProc, prF x pr nd (.ref q1) (.ref q2))), (q1, .inl (g 0, 4, .inl (fun _ => 0))), (q2, .inl (g 0, 3, .inl (upd (upd (upd (fun _ => 0) 0 nd) 1 nd) 2 nd)))]) H := hP
  have hD : va_D A (W0 ++ [(q, .inr (ciProc, prF x pr nd (.ref q1) (.ref q2))), (q1, .inl (g 0, 4, .inl (fun _ => 0))), (q2, .inl (g 0, 3, .inl (upd (upd (upd (fun _ => 0) 0 nd) 1 nd) 2 nd)))]) := hD
  refine lv_iinc (v := 3) (lv' := [(4, .int 3), (0, .ref q), (1, .int x), (2, .int pr), (3, .int nd)]) hx hb d_Proc_init_50 hl (k := 0) rfl (by decide) (by decide) rfl (fun ls hl => ?_)
  refine lv_goto (tgt := 36) hx hb d_Proc_init_53 (by decide) ?_
  refine lv_iload hx hb d_Proc_init_36 (lv_at hl 0 rfl) ?_
  refine lv_iconst (v := 3) hx hb d_Proc_init_38 (by decide) ?_
  refine lv_icmp_ge (tgt := 56) hx hb d_Proc_init_39 (by decide) (fun c3 => ?_) (fun c => absurd (show (3 : Int32) ≤ 3 by decide) c)
  exact hret (q1, q2) _ _ _ _ _ _ trivial ⟨hK, hP, hD, hS⟩ (by decide) (by decide) d_Proc_init_56
abbrev rm_C_makeProcess : Room := { frames := 2, cells := 3, slots := 19, locals := 42 }
set_option maxHeartbeats 4000000 in
set_option maxRecDepth 100000 in
theorem c_C_makeProcess (l : Launch) {D : va_G} {g : Nat → ClassId} {ad : Nat → Nat} {np : Nat} {v : Vs} (x y : Int32) (hO : Ok np v) (h8 : np < 8) (hpr : okLt 4 x) (hnd : okLt 3 y) : MtI l y_C_makeProcess ws_C_makeProcess rm_C_makeProcess D classes (tysA g) [.ref (ad 0), .int x, .int y] (wC g ad np v) (fun (r : Int32) (u : Nat → Nat) => r = nI np ∧ ∀ k, k < 68 + 3 * np → u k = ad k) (fun u => wC g u (np + 1) (cMake v np x y)) 3 19 := by
  refine mt_i (ty := .int) (fun _ _ _ => rfl) (by decide +kernel) rfl (Nat.le_of_ble_eq_true rfl) (fun p e s m args below meth c Q A C hA hW hret ls hl => ?_)
  obtain ⟨hx, hb, hr, hml, hown, hts0, hlocks⟩ := C
  have hts : ∀ w ∈ bigw, w.before args s = true := fun w h => hts0 w (List.mem_cons_of_mem _ h)
  have hown : s.vm.findClass R_C = some m.cls := hown
  have hl : lv_has ls 4 [(0, .ref (ad 0)), (1, .int x), (2, .int y)] := hl
  obtain ⟨hK, hP, hD, hS⟩ := hW
  refine va_new (ci := ciProc) (fs := prF 0 0 0 .null .null) (C := R_Proc) (T := F_Proc) (N := 12) hx hb hts i_Proc t_Proc t_Proc_ok hown (hts _ kd_C_15) (hts _ kx_Proc) (hts _ kn_Proc) hK hP hD hS hA rfl (fun j hj => by rcases (show j = 0 ∨ j = 1 ∨ j = 2 ∨ j = 3 ∨ j = 4 ∨ j = 5 ∨ j = 6 ∨ j = 7 ∨ j = 8 ∨ j = 9 ∨ j = 10 ∨ j = 11 by omega) with rfl | rfl | rfl | rfl | rfl | rfl | rfl | rfl | rfl | rfl | rfl | rfl <;> rfl) (by decide) (by decide) d_C_makeProcess_0 (fun q H hP hD hS => ?_)
  refine lv_dup hx hb d_C_makeProcess_3 rfl ?_
  refine lv_aload_n hx hb d_C_makeProcess_4 rfl (lv_at hl 0 rfl) ?_
  refine va_get (D := D) (ci := ciC) (v := .int (v 0 5)) (C := R_C) (T := F_C) (N := 11) hx hb hts i_C hown hK hP 0 (ap_left (mw_get (by omega) mk_root)) rfl 5 (by decide) (hts _ kf_C_55) (fun _ h9 => h9) rfl d_C_makeProcess_5 ?_
  refine lv_iload_n hx hb d_C_makeProcess_8 rfl (lv_at hl 1 rfl) ?_
  refine lv_iload_n hx hb d_C_makeProcess_9 rfl (lv_at hl 2 rfl) ?_
  have hW : Wd D classes (tysA g) s A (wC g ad np v ++ [(q, .inr (ciProc, prF 0 0 0 .null .null))]) H [] := ⟨hK, hP, hD, hS⟩
  refine wcv hW hA (va_runI (As := [.int (v 0 5), .int x, .int y]) (rest := [.ref q]) ⟨hx, hb, hml, hown, hts⟩ (c_Proc_init l (wC g ad np v) q (v 0 5) x y _) (ci 3 hts kc_Proc_init ki_Proc_init kn_Proc km_C_148 kh_Proc_init rfl rfl rfl ⟨by decide, by decide⟩) (preWS hW) rfl rfl hl.1 rfl (lv_room (Nat.le_of_ble_eq_true rfl)) d_C_makeProcess_10 ⟨by decide, by decide⟩) (fun u H locs hp hW => ?_)
  have hW : Wd D classes (tysA g) s A (wC g ad np v ++ [(q, .inr (ciProc, prF (v 0 5) x y (.ref u.1) (.ref u.2))), (u.1, .inl (g 0, 4, .inl (fun _ => 0))), (u.2, .inl (g 0, 3, .inl (upd (upd (upd (fun _ => 0) 0 y) 1 y) 2 y)))]) H locs := hW
  rw [wC_push] at hW
  obtain ⟨ad', ead⟩ : ∃ z, z = ad3 ad (68 + 3 * np) q u.1 u.2 := ⟨_, rfl⟩
  rw [← ead] at hW
  have hq : ad' (68 + 3 * np) = q := by rw [ead, ad3_0]
  have hlo : ∀ k, k < 68 + 3 * np → ad' k = ad k := fun k hk => by rw [ead, ad3_lt hk]
  obtain ⟨v1, ev1⟩ : ∃ z, z = cNew v np (v 0 5) x y := ⟨_, rfl⟩
  rw [← ev1] at hW
  have e5 : v1 0 5 = nI np := by rw [ev1, cNew_old (by omega)]; exact hO.made.1
  refine lv_astore_n (lv' := [(3, .ref q), (0, .ref (ad 0)), (1, .int x), (2, .int y)]) hx hb d_C_makeProcess_13 rfl hl (by decide) rfl (fun ls hl => ?_)
  have hl : lv_has ls 4 [(3, .ref (ad' (68 + 3 * np))), (0, .ref (ad' 0)), (1, .int x), (2, .int y)] := by rw [hq, hlo 0 (by omega)]; exact hl
  refine lv_aload_n hx hb d_C_makeProcess_14 rfl (lv_at hl 1 rfl) ?_
  refine wg hx hb hts i_C hown hW 0 (by omega) mk_root rfl 1 (by decide) (hts _ kf_C_17) rfl d_C_makeProcess_15 ?_
  refine lv_aload_n hx hb d_C_makeProcess_18 rfl (lv_at hl 1 rfl) ?_
  refine wg hx hb hts i_C hown hW 0 (by omega) mk_root rfl 5 (by decide) (hts _ kf_C_55) rfl d_C_makeProcess_19 ?_
  refine lv_aload_n hx hb d_C_makeProcess_22 rfl (lv_at hl 0 rfl) ?_
  obtain ⟨hK, hP, hD, hS⟩ := hW
  refine va_astq hx hb hK hP hD hS 2 2 (68 + 3 * np) ciProc (mw_get (by omega) mk_processes) rfl (mw_get (by omega) mk_proc) rfl (by rw [e5]; exact vp_in_nI h8 (by decide)) d_C_makeProcess_23 (fun H locs hP hD hS => ?_)
  rw [e5, nI_clamp (by omega), wC_more h8] at hP hD
  have hW : Wd D classes (tysA g) s A (wC g ad' (np + 1) v1) H locs := ⟨hK, hP, hD, hS⟩
  obtain ⟨n1, en1⟩ : ∃ z, z = np + 1 := ⟨_, rfl⟩
  rw [← en1] at hW
  obtain ⟨i0, ei0⟩ : ∃ z, z = np := ⟨_, rfl⟩
  have hi0 : i0 < n1 := by omega
  rw [← ei0] at hl
  refine lv_aload_n hx hb d_C_makeProcess_24 rfl (lv_at hl 1 rfl) ?_
  refine lv_dup hx hb d_C_makeProcess_25 rfl ?_
  refine wg hx hb hts i_C hown hW (0) (by omega) mk_root rfl 5 (by decide) (hts _ kf_C_55) rfl d_C_makeProcess_26 ?_
  refine lv_iconst (v := 1) hx hb d_C_makeProcess_29 (by decide) ?_
  refine lv_iadd hx hb d_C_makeProcess_30 ?_
  refine wp hx hb hts i_C t_C t_C_ok n_C hown hW (0) (by omega) mk_root rfl 5 (by decide) (hts _ kf_C_55) rfl (by decide +kernel) (x := (v1 0 5) + (1)) (Nat.le_of_ble_eq_true rfl) (mk_root.trans rfl) d_C_makeProcess_31 (fun H locs hW => ?_)
  obtain ⟨v1, ev1⟩ : ∃ z : Vs, z = u2 v1 (0) 5 ((v1 0 5) + (1)) := ⟨_, rfl⟩
  rw [← ev1] at hW
  have hO2 : Ok n1 v1 := by subst ev1 ev1 en1; exact hO.mk1 h8 hpr hnd
  refine lv_aload_n hx hb d_C_makeProcess_34 rfl (lv_at hl 1 rfl) ?_
  refine lv_aload_n hx hb d_C_makeProcess_35 rfl (lv_at hl 0 rfl) ?_
  refine wcv hW hA (va_runV (As := [.ref (ad' (68 + 3 * i0))]) (rest := []) ⟨hx, hb, hml, hown, hts⟩ (c_C_joinLine l i0 hi0 hO2 _) (cv 1 hts kc_C_joinLine ki_C_joinLine ke_C_joinLine kn_C km_C_94 kh_C_joinLine rfl rfl ⟨by decide, by decide⟩) (preW hW rfl rfl (mw_get (by omega) mk_root)) rfl rfl hl.1 rfl (lv_room (Nat.le_of_ble_eq_true rfl)) d_C_makeProcess_36 ⟨by decide, by decide⟩) (fun uu2 H locs hp2 hW => ?_)
  have hW : Wd D classes (tysA g) s A (wC g ad' n1 (cJoin v1 i0)) H locs := hW
  obtain ⟨v3, ev3⟩ : ∃ z : Vs, z = cJoin v1 i0 := ⟨_, rfl⟩
  rw [← ev3] at hW
  have hO3 : Ok n1 v3 := by rw [ev3]; exact hO2.join hi0
  refine lv_aload_n hx hb d_C_makeProcess_39 rfl (lv_at hl 0 rfl) ?_
  refine wg hx hb hts i_Proc hown hW (68 + 3 * i0) (by omega) mk_proc rfl 0 (by decide) (hts _ kf_C_73) rfl d_C_makeProcess_40 ?_
  have hO3 : Ok n1 v3 := by rw [ev3]; exact hO2.join hi0
  refine hret _ ad' _ _ _ _ _ _ ⟨?_, hlo⟩ ?_ (by decide) (by decide) d_C_makeProcess_43
  · rw [← ei0]; exact (hO3.number hi0).1
  · show Wd D classes (tysA g) s A (wC g ad' (np + 1) (cMake v np x y)) _ _
    have hfin : cMake v np x y = v3 := by subst ev1 ev3 ev1 ei0; rfl
    rw [hfin, ← en1]; exact hW
end
section
/-! spawn, perform, runFirst, step -/
theorem okLt_nn {b : Nat} {y : Int32} (h : okLt b y) (hb : b ≤ 100) : y = nI (nn y) ∧ nn y < b := by
  obtain ⟨n, hn, e⟩ := h
  have h1 : nn y = n := by rw [nn, e, nI_clamp (by omega)]
  rw [h1]
  exact ⟨e, hn⟩
theorem okLt_of {b n : Nat} {y : Int32} (e : y = nI n) (h : n < b) : okLt b y := ⟨n, h, e⟩
def mSpawn (np : Nat) (v : Vs) (x y : Int32) : Int32 × Nat × Vs :=
  if inI x 4 then (if inI y 3 then (if v 0 5 = 8 then (-2, np, v) else (nI np, np + 1, cMake v np x y)) else (-1, np, v)) else (-1, np, v)
def cPerf (np : Nat) (v : Vs) (i : Nat) (op : Int32) (a : Nat) (y : Int32) : Nat × Vs :=
  if op = 0 then (np, u2 (u2 v (68 + 3 * i + 1) a y) (68 + 3 * i) 6 (v (68 + 3 * i) 6 + 1))
  else if op = 1 then (np, u2 (u2 v (68 + 3 * i + 1) a (v (68 + 3 * i + 1) a + v (68 + 3 * i + 1) (nn y))) (68 + 3 * i) 6 (v (68 + 3 * i) 6 + 1))
  else if op = 2 then (np, u2 (cAcc v i op a (nn y)) (68 + 3 * i) 6 (v (68 + 3 * i) 6 + 1))
  else if op = 3 then (np, u2 (cAcc v i op a (nn y)) (68 + 3 * i) 6 (v (68 + 3 * i) 6 + 1))
  else if op = 4 then (np, u2 (cAcc v i op a (nn y)) (68 + 3 * i) 6 (v (68 + 3 * i) 6 + 1))
  else if op = 5 then (if v (68 + 3 * i + 1) a = 0 then (np, u2 v (68 + 3 * i) 6 (v (68 + 3 * i) 6 + 1)) else (np, u2 v (68 + 3 * i) 6 y))
  else if op = 6 then (if v 0 5 = 8 then (np, u2 (u2 v (68 + 3 * i + 1) a (-1)) (68 + 3 * i) 6 (v (68 + 3 * i) 6 + 1))
    else (np + 1, u2 (u2 (cMake v np y (v (68 + 3 * i) 4)) (68 + 3 * i + 1) a (nI np)) (68 + 3 * i) 6 (v (68 + 3 * i) 6 + 1)))
  else if op = 7 then (if cWait v i a (68 + 3 * i) 5 = 3 then (np, u2 (cWait v i a) (68 + 3 * i) 6 (cWait v i a (68 + 3 * i) 6)) else (np, u2 (cWait v i a) (68 + 3 * i) 6 (v (68 + 3 * i) 6 + 1)))
  else if op = 8 then (np, u2 (cKill np v i a) (68 + 3 * i) 6 (v (68 + 3 * i) 6 + 1))
  else if op = 9 then (np, u2 (cEnd np v i (v (68 + 3 * i + 1) a)) (68 + 3 * i) 6 (v (68 + 3 * i) 6 + 1))
  else if op = 10 then (np, u2 (u2 v (68 + 3 * i + 1) a (v (68 + 3 * i) 0)) (68 + 3 * i) 6 (v (68 + 3 * i) 6 + 1))
  else if op = 11 then (np, u2 (u2 v (68 + 3 * i + 1) a (v (68 + 3 * i) 4)) (68 + 3 * i) 6 (v (68 + 3 * i) 6 + 1))
  else (np, u2 v (68 + 3 * i) 6 (v (68 + 3 * i) 6 + 1))
def cRest (np : Nat) (v : Vs) (i : Nat) (op a b : Int32) : Nat × Vs :=
  if (cPerf np v i op (nn a) b).2 (68 + 3 * i) 5 = 1 then (if op = 12 then ((cPerf np v i op (nn a) b).1, cSpend (cPerf np v i op (nn a) b).2 i 1) else ((cPerf np v i op (nn a) b).1, cSpend (cPerf np v i op (nn a) b).2 i 0))
  else cPerf np v i op (nn a) b
def cRun (np : Nat) (v : Vs) (i : Nat) : Nat × Vs :=
  let pg := nv v (68 + 3 * i) 1
  let ct := nv v (68 + 3 * i) 6
  if v (68 + 3 * i) 6 < v (6 + 4 * pg) 3 then
    (if v (6 + 4 * pg + 1) ct = 2 ∨ v (6 + 4 * pg + 1) ct = 3 ∨ v (6 + 4 * pg + 1) ct = 4 then
      (let z := v (68 + 3 * i + 1) (nn (v (6 + 4 * pg + 3) ct))
      if v (6 + 4 * pg + 1) ct = 2 then
        (if 1 ≤ v (28 + 5 * (bl z 31 / 4) + 1) (nv v (68 + 3 * i) 4) then cRest np v i (v (6 + 4 * pg + 1) ct) (v (6 + 4 * pg + 2) ct) (v (6 + 4 * pg + 3) ct) else (np, cBlock v i (fmod z 32 / 4) (bl z 31 / 4) 1))
      else
        (if 2 ≤ v (28 + 5 * (bl z 31 / 4) + 1) (nv v (68 + 3 * i) 4) then cRest np v i (v (6 + 4 * pg + 1) ct) (v (6 + 4 * pg + 2) ct) (v (6 + 4 * pg + 3) ct) else (np, cBlock v i (fmod z 32 / 4) (bl z 31 / 4) 2)))
    else cRest np v i (v (6 + 4 * pg + 1) ct) (v (6 + 4 * pg + 2) ct) (v (6 + 4 * pg + 3) ct))
  else (np, cEnd np v i 0)
def mStep (np : Nat) (v : Vs) (x : Int32) : Int32 × Nat × Vs :=
  if inI x 3 then (if v (22 + 2 * nn x) 1 = 0 then (-3, np, v) else
    (10 * ((cRun np v (nv v (22 + 2 * nn x + 1) 0)).2 (68 + 3 * nv v (22 + 2 * nn x + 1) 0) 5 - 1) + (cRun np v (nv v (22 + 2 * nn x + 1) 0)).2 (68 + 3 * nv v (22 + 2 * nn x + 1) 0) 0, cRun np v (nv v (22 + 2 * nn x + 1) 0)))
  else (-1, np, v)
theorem sw_12 (x : Int32) : (x.toInt < 0 ∨ 11 < x.toInt) ∨ x = 0 ∨ x = 1 ∨ x = 2 ∨ x = 3 ∨ x = 4 ∨ x = 5 ∨ x = 6 ∨ x = 7 ∨ x = 8 ∨ x = 9 ∨ x = 10 ∨ x = 11 := by
  have key : ∀ (k : Int32), x.toInt = k.toInt → x = k := fun k h => Int32.toInt_inj.mp h
  by_cases h : x.toInt < 0 ∨ 11 < x.toInt
  · exact Or.inl h
  · refine Or.inr ?_
    rcases (show x.toInt = 0 ∨ x.toInt = 1 ∨ x.toInt = 2 ∨ x.toInt = 3 ∨ x.toInt = 4 ∨ x.toInt = 5 ∨ x.toInt = 6 ∨ x.toInt = 7 ∨ x.toInt = 8 ∨ x.toInt = 9 ∨ x.toInt = 10 ∨ x.toInt = 11 by omega) with h | h | h | h | h | h | h | h | h | h | h | h
    · rw [key 0 h]; decide
    · rw [key 1 h]; decide
    · rw [key 2 h]; decide
    · rw [key 3 h]; decide
    · rw [key 4 h]; decide
    · rw [key 5 h]; decide
    · rw [key 6 h]; decide
    · rw [key 7 h]; decide
    · rw [key 8 h]; decide
    · rw [key 9 h]; decide
    · rw [key 10 h]; decide
    · rw [key 11 h]; decide
section OKI
variable {np : Nat} {v : Vs}
theorem Ok.ct (h : Ok np v) {i : Nat} {x : Int32} (hx : okLt 13 x) : Ok np (u2 v (68 + 3 * i) 6 x) := h.set (by omega) (okS_counter hx)
/-- an instruction as a program may have it -/
def okI (op a y : Int32) : Prop := okLt 4 a ∧ (op ≠ 0 → op ≠ 5 → okLt 4 y) ∧ (op = 5 → okLt 12 y)
/-- Ok, with at most one process more -/
def okT (np : Nat) (z : Nat × Vs) : Prop := Ok z.1 z.2 ∧ np ≤ z.1 ∧ z.1 ≤ np + 1
theorem okT_same {w : Vs} (h : Ok np w) : okT np (np, w) := ⟨h, Nat.le_refl _, Nat.le_succ _⟩
theorem okT_more {w : Vs} (h : Ok (np + 1) w) : okT np (np + 1, w) := ⟨h, Nat.le_succ _, Nat.le_refl _⟩
theorem Ok.lt8 (h : Ok np v) (c8 : ¬ v 0 5 = 8) : np < 8 := by
  have hle := h.1
  have : ¬ np = 8 := fun e => c8 (by rw [h.made.1, e]; rfl)
  omega
theorem Ok.perf (h : Ok np v) {i a : Nat} {op y : Int32} (hi : i < np) (hct : nv v (68 + 3 * i) 6 < 12) (h4 : op ≠ 0 → op ≠ 5 → okLt 4 y) (h5 : op = 5 → okLt 12 y) : okT np (cPerf np v i op a y) := by
  have hn : okLt 13 (v (68 + 3 * i) 6 + 1) := okLt_of (n := nv v (68 + 3 * i) 6 + 1) (ni_add (h.counter hi).1 rfl) (by omega)
  have hw := h.wait (a := a) hi
  unfold cPerf
  by_cases e0 : op = 0
  · rw [if_pos e0]; exact okT_same (h.rg.ct hn)
  rw [if_neg e0]
  by_cases e1 : op = 1
  · rw [if_pos e1]; exact okT_same (h.rg.ct hn)
  rw [if_neg e1]
  by_cases e2 : op = 2
  · rw [if_pos e2]; exact okT_same (h.acc.ct hn)
  rw [if_neg e2]
  by_cases e3 : op = 3
  · rw [if_pos e3]; exact okT_same (h.acc.ct hn)
  rw [if_neg e3]
  by_cases e4 : op = 4
  · rw [if_pos e4]; exact okT_same (h.acc.ct hn)
  rw [if_neg e4]
  by_cases e5 : op = 5
  · rw [if_pos e5]
    by_cases c : v (68 + 3 * i + 1) a = 0
    · rw [if_pos c]; exact okT_same (h.ct hn)
    · rw [if_neg c]
      obtain ⟨n, q1, q2⟩ := h5 e5
      exact okT_same (h.ct ⟨n, by omega, q2⟩)
  rw [if_neg e5]
  by_cases e6 : op = 6
  · rw [if_pos e6]
    by_cases c : v 0 5 = 8
    · rw [if_pos c]; exact okT_same (h.rg.ct hn)
    · rw [if_neg c]; exact okT_more ((h.make (h.lt8 c) (h4 e0 e5) ⟨_, (h.place hi).2, (h.place hi).1⟩).rg.ct hn)
  rw [if_neg e6]
  by_cases e7 : op = 7
  · rw [if_pos e7]
    by_cases c : cWait v i a (68 + 3 * i) 5 = 3
    · rw [if_pos c]; exact okT_same (hw.ct ⟨_, (hw.counter hi).2, (hw.counter hi).1⟩)
    · rw [if_neg c]; exact okT_same (hw.ct hn)
  rw [if_neg e7]
  by_cases e8 : op = 8
  · rw [if_pos e8]; exact okT_same (h.kill.ct hn)
  rw [if_neg e8]
  by_cases e9 : op = 9
  · rw [if_pos e9]; exact okT_same ((h.end hi).ct hn)
  rw [if_neg e9]
  by_cases e10 : op = 10
  · rw [if_pos e10]; exact okT_same (h.rg.ct hn)
  rw [if_neg e10]
  by_cases e11 : op = 11
  · rw [if_pos e11]; exact okT_same (h.rg.ct hn)
  rw [if_neg e11]
  exact okT_same (h.ct hn)
theorem Ok.rest (h : Ok np v) {i : Nat} {op a y : Int32} (hi : i < np) (hct : nv v (68 + 3 * i) 6 < 12) (h4 : op ≠ 0 → op ≠ 5 → okLt 4 y) (h5 : op = 5 → okLt 12 y) : okT np (cRest np v i op a y) := by
  have hp := h.perf (a := nn a) hi hct h4 h5
  unfold cRest
  generalize cPerf np v i op (nn a) y = z at hp ⊢
  have hz : i < z.1 := by have := hp.2; omega
  split
  · split
    · exact ⟨hp.1.spend (y := 1) hz, hp.2⟩
    · exact ⟨hp.1.spend (y := 0) hz, hp.2⟩
  · exact hp
theorem Ok.ins (h : Ok np v) {i : Nat} (hi : i < np) (hlt : v (68 + 3 * i) 6 < v (6 + 4 * nv v (68 + 3 * i) 1) 3) : nv v (68 + 3 * i) 6 < 12 ∧ okLt 13 (v (6 + 4 * nv v (68 + 3 * i) 1 + 1) (nv v (68 + 3 * i) 6)) ∧ okI (v (6 + 4 * nv v (68 + 3 * i) 1 + 1) (nv v (68 + 3 * i) 6)) (v (6 + 4 * nv v (68 + 3 * i) 1 + 2) (nv v (68 + 3 * i) 6)) (v (6 + 4 * nv v (68 + 3 * i) 1 + 3) (nv v (68 + 3 * i) 6)) := by
  have hpg := (h.program hi).2
  have hc := h.counter hi
  have hs := h.psize hpg
  have hn := ni_lt hc.1 hs.1 (by omega) (by omega) hlt
  obtain ⟨a1, a2, a3, a4⟩ := (h.2.2 _ hpg).2 _ hn
  exact ⟨by omega, a1, a2, a3, a4⟩
theorem Ok.run (h : Ok np v) {i : Nat} (hi : i < np) : okT np (cRun np v i) := by
  unfold cRun
  dsimp only
  split
  · next c =>
    obtain ⟨b1, b2, b3, b4, b5⟩ := h.ins hi c
    have hb : ∀ x y j, Ok np (cBlock v i x (bl j 31 / 4) y) := fun x y j => h.block hi (by have := bl_lt j 31; omega)
    split
    · split
      · split
        · exact h.rest hi b1 b4 b5
        · exact okT_same (hb _ _ _)
      · split
        · exact h.rest hi b1 b4 b5
        · exact okT_same (hb _ _ _)
    · exact h.rest hi b1 b4 b5
  · exact okT_same (h.end hi)
theorem Ok.first (h : Ok np v) {k : Nat} (hk : isLn k) (c : ¬ v k 1 = 0) : 0 < np ∧ nv v (k + 1) 0 < np := by
  obtain ⟨e, b, c2⟩ := h.size hk
  have h0 : 0 < nv v k 1 := by
    rcases Nat.eq_zero_or_pos (nv v k 1) with q | q
    · exact absurd (by rw [e, q]; rfl) c
    · exact q
  exact ⟨c2 h0, (h.item hk 0 (c2 h0)).2⟩
theorem Ok.step (h : Ok np v) {x : Int32} : okT np (mStep np v x).2 := by
  unfold mStep
  split
  · next c =>
    split
    · exact okT_same h
    · next c2 => exact h.run (h.first (ln_node (inI_nn (N := 3) rfl (by omega) c).2) c2).2
  · exact okT_same h
theorem Ok.spawn (h : Ok np v) {x y : Int32} : okT np (mSpawn np v x y).2 := by
  unfold mSpawn
  split
  · next c =>
    split
    · next c2 =>
      split
      · exact okT_same h
      · next c8 =>
        have q1 := inI_nn (N := 4) rfl (by omega) c
        have q2 := inI_nn (N := 3) rfl (by omega) c2
        exact okT_more (h.make (h.lt8 c8) ⟨_, q1.2, q1.1⟩ ⟨_, q2.2, q2.1⟩)
    · exact okT_same h
  · exact okT_same h
end OKI
end
section
abbrev rm_C_spawn : Room := { frames := 3, cells := 3, slots := 19, locals := 65 }
set_option maxHeartbeats 4000000 in
set_option maxRecDepth 100000 in
theorem c_C_spawn (l : Launch) {D : va_G} {g : Nat → ClassId} {ad : Nat → Nat} {np : Nat} {v : Vs} (x y : Int32) (hO : Ok np v) : MtI l y_C_spawn ws_C_spawn rm_C_spawn D classes (tysA g) [.ref (ad 0), .int x, .int y] (wC g ad np v) (fun (r : Int32) (u : Nat → Nat) => r = (mSpawn np v x y).1 ∧ ∀ k, k < 68 + 3 * np → u k = ad k) (fun u => wC g u (mSpawn np v x y).2.1 (mSpawn np v x y).2.2) 3 19 := by
  refine mt_i (ty := .int) (fun _ _ _ => rfl) (by decide +kernel) rfl (Nat.le_of_ble_eq_true rfl) (fun p e s m args below meth c Q A C hA hW hret ls hl => ?_)
  obtain ⟨hx, hb, hr, hml, hown, hts0, hlocks⟩ := C
  have hts : ∀ w ∈ bigw, w.before args s = true := fun w h => hts0 w (List.mem_cons_of_mem _ h)
  have hown : s.vm.findClass R_C = some m.cls := hown
  have hnp := hO.le
  have hl : lv_has ls 3 [(0, .ref (ad (0))), (1, .int (x)), (2, .int (y))] := hl
  refine lv_iload_n hx hb d_C_spawn_0 rfl (lv_at hl 1 rfl) ?_
  refine lv_iconst (v := 4) hx hb d_C_spawn_1 (by decide) ?_
  refine wci hW hA (va_runS (As := [.int (x), .int (4)]) (rest := []) ⟨hx, hb, hml, hown, hts⟩ (c_C_isIn l _ (x) (4) _) (cs 2 hts kc_C_isIn ks_C_isIn kn_C km_C_40 kh_C_isIn rfl rfl ⟨by decide, by decide⟩) (preWS hW) rfl rfl hl.1 rfl (lv_room (Nat.le_of_ble_eq_true rfl)) d_C_spawn_2 ⟨by decide, by decide⟩) (fun rr1 uu1 H locs hp1 hW => ?_)
  have hW : Wd D classes (tysA g) s A (wC g ad np (v)) H locs := hW
  have hp1 : rr1 = if inI (x) (4) then 1 else 0 := hp1
  refine lv_if_eq (tgt := 16) hx hb d_C_spawn_5 (by decide) (fun c_5 => ?_) (fun c_5 => ?_)
  · have c_5 : ¬ (inI (x) (4)) := bo_eq hp1 c_5
    refine lv_iconst (v := (-1)) hx hb d_C_spawn_16 (by decide) ?_
    have hfin : mSpawn np v x y = ((-1), np, v) := by simp only [mSpawn, if_neg c_5]
    exact hret _ ad _ _ _ _ _ _ ⟨show (-1) = (mSpawn np v x y).1 by rw [hfin], fun _ _ => rfl⟩ (by show Wd D classes (tysA g) s A (wC g ad (mSpawn np v x y).2.1 (mSpawn np v x y).2.2) _ _; rw [hfin]; exact hW) (by decide) (by decide) d_C_spawn_17
  · have c_5 : inI (x) (4) := bo_ne hp1 c_5
    obtain ⟨e2, b2⟩ := inI_nn (N := 4) rfl (by omega) c_5
    refine lv_iload_n hx hb d_C_spawn_8 rfl (lv_at hl 2 rfl) ?_
    refine lv_iconst (v := 3) hx hb d_C_spawn_9 (by decide) ?_
    refine wci hW hA (va_runS (As := [.int (y), .int (3)]) (rest := []) ⟨hx, hb, hml, hown, hts⟩ (c_C_isIn l _ (y) (3) _) (cs 2 hts kc_C_isIn ks_C_isIn kn_C km_C_40 kh_C_isIn rfl rfl ⟨by decide, by decide⟩) (preWS hW) rfl rfl hl.1 rfl (lv_room (Nat.le_of_ble_eq_true rfl)) d_C_spawn_10 ⟨by decide, by decide⟩) (fun rr3 uu3 H locs hp3 hW => ?_)
    have hW : Wd D classes (tysA g) s A (wC g ad np (v)) H locs := hW
    have hp3 : rr3 = if inI (y) (3) then 1 else 0 := hp3
    refine lv_if_ne (tgt := 18) hx hb d_C_spawn_13 (by decide) (fun c_13 => ?_) (fun c_13 => ?_)
    · have c_13 : inI (y) (3) := bo_ne hp3 c_13
      obtain ⟨e4, b4⟩ := inI_nn (N := 3) rfl (by omega) c_13
      refine lv_aload_n hx hb d_C_spawn_18 rfl (lv_at hl 0 rfl) ?_
      refine wg hx hb hts i_C hown hW (0) (by omega) mk_root rfl 5 (by decide) (hts _ kf_C_55) rfl d_C_spawn_19 ?_
      obtain ⟨e5, b5⟩ := hO.made
      refine lv_bipush (v := 8) hx hb d_C_spawn_22 (by decide) ?_
      refine lv_icmp_ne (tgt := 32) hx hb d_C_spawn_24 (by decide) (fun c_24 => ?_) (fun c_24 => ?_)
      · have nc_24 : ¬ np = 8 := ni_ne e5 rfl (by omega) (by omega) c_24
        have h8 : np < 8 := hO.lt8 c_24
        refine lv_aload_n hx hb d_C_spawn_32 rfl (lv_at hl 0 rfl) ?_
        refine lv_iload_n hx hb d_C_spawn_33 rfl (lv_at hl 1 rfl) ?_
        refine lv_iload_n hx hb d_C_spawn_34 rfl (lv_at hl 2 rfl) ?_
        refine wci hW hA (va_runV (As := [.int (x), .int (y)]) (rest := []) ⟨hx, hb, hml, hown, hts⟩ (c_C_makeProcess l (x) (y) hO h8 ⟨nn x, by omega, e2⟩ ⟨nn y, by omega, e4⟩ _) (cv 2 hts kc_C_makeProcess ki_C_makeProcess ke_C_makeProcess kn_C km_C_58 kh_C_makeProcess rfl rfl ⟨by decide, by decide⟩) (preW hW rfl rfl (mw_get (by omega) mk_root)) rfl rfl hl.1 rfl (lv_room (Nat.le_of_ble_eq_true rfl)) d_C_spawn_35 ⟨by decide, by decide⟩) (fun r0 ad1 H locs hp hW => ?_)
        obtain ⟨hr0, hlo⟩ := hp
        subst hr0
        have hfin : mSpawn np v x y = (nI np, np + 1, cMake v np x y) := by simp only [mSpawn, if_pos c_5, if_pos c_13, if_neg c_24]
        exact hret _ ad1 _ _ _ _ _ _ ⟨show nI np = (mSpawn np v x y).1 by rw [hfin], hlo⟩ (by show Wd D classes (tysA g) s A (wC g ad1 (mSpawn np v x y).2.1 (mSpawn np v x y).2.2) _ _; rw [hfin]; exact hW) (by decide) (by decide) d_C_spawn_38
      · have nc_24 : np = 8 := ni_eq e5 rfl (by omega) (by omega) c_24
        refine lv_bipush (v := (-2)) hx hb d_C_spawn_27 (by decide) ?_
        refine lv_goto (tgt := 38) hx hb d_C_spawn_29 (by decide) ?_
        have hfin : mSpawn np v x y = ((-2), np, v) := by simp only [mSpawn, if_pos c_5, if_pos c_13, if_pos c_24]
        exact hret _ ad _ _ _ _ _ _ ⟨show (-2) = (mSpawn np v x y).1 by rw [hfin], fun _ _ => rfl⟩ (by show Wd D classes (tysA g) s A (wC g ad (mSpawn np v x y).2.1 (mSpawn np v x y).2.2) _ _; rw [hfin]; exact hW) (by decide) (by decide) d_C_spawn_38
    · have c_13 : ¬ (inI (y) (3)) := bo_eq hp3 c_13
      refine lv_iconst (v := (-1)) hx hb d_C_spawn_16 (by decide) ?_
      have hfin : mSpawn np v x y = ((-1), np, v) := by simp only [mSpawn, if_pos c_5, if_neg c_13]
      exact hret _ ad _ _ _ _ _ _ ⟨show (-1) = (mSpawn np v x y).1 by rw [hfin], fun _ _ => rfl⟩ (by show Wd D classes (tysA g) s A (wC g ad (mSpawn np v x y).2.1 (mSpawn np v x y).2.2) _ _; rw [hfin]; exact hW) (by decide) (by decide) d_C_spawn_17
abbrev rm_C_perform : Room := { frames := 4, cells := 3, slots := 19, locals := 92 }
set_option maxHeartbeats 8000000 in
set_option maxRecDepth 100000 in
theorem c_C_perform (l : Launch) {D : va_G} {g : Nat → ClassId} {ad : Nat → Nat} {np : Nat} {v : Vs} (i : Nat) (hi : i < np) (op : Int32) (x : Int32) (a : Nat) (zx : x = nI a) (la : a < 4) (y : Int32) (hO : Ok np v) (hct : nv v (68 + 3 * i) 6 < 12) (h4 : op ≠ 0 → op ≠ 5 → okLt 4 y) (h5 : op = 5 → okLt 12 y) : MtV l y_C_perform ws_C_perform rm_C_perform D classes (tysA g) [.ref (ad 0), .ref (ad (68 + 3 * i)), .int op, .int x, .int y] (wC g ad np v) (fun (u : Nat → Nat) => ∀ k, k < 68 + 3 * np → u k = ad k) (fun u => wC g u (cPerf np v i op a y).1 (cPerf np v i op a y).2) 3 19 := by
  refine mt_v (by decide +kernel) rfl (Nat.le_of_ble_eq_true rfl) (fun p e s m args below meth c Q A C hnm hA hW hret ls hl => ?_)
  obtain ⟨hx, hb, hr, hml, hown, hts0, hlocks⟩ := C
  have hts : ∀ w ∈ bigw, w.before args s = true := fun w h => hts0 w (List.mem_cons_of_mem _ h)
  have hown : s.vm.findClass R_C = some m.cls := hown
  have hnp := hO.le
  have hl : lv_has ls 7 [(0, .ref (ad (0))), (1, .ref (ad (68 + 3 * i))), (2, .int (op)), (3, .int (x)), (4, .int (y))] := hl
  refine lv_aload_n hx hb d_C_perform_0 rfl (lv_at hl 1 rfl) ?_
  refine wg hx hb hts i_Proc hown hW (68 + 3 * i) (by omega) mk_proc rfl 2 (by decide) (hts _ kf_C_99) rfl d_C_perform_1 ?_
  refine lv_astore (lv' := [(5, .ref (ad (68 + 3 * i + 1))), (0, .ref (ad (0))), (1, .ref (ad (68 + 3 * i))), (2, .int (op)), (3, .int (x)), (4, .int (y))]) hx hb d_C_perform_4 hl (by decide) rfl (fun ls hl => ?_)
  refine lv_aload_n hx hb d_C_perform_6 rfl (lv_at hl 2 rfl) ?_
  refine wg hx hb hts i_Proc hown hW (68 + 3 * i) (by omega) mk_proc rfl 6 (by decide) (hts _ kf_C_102) rfl d_C_perform_7 ?_
  obtain ⟨e1, b1⟩ := hO.counter hi
  refine lv_iconst (v := 1) hx hb d_C_perform_10 (by decide) ?_
  refine lv_iadd hx hb d_C_perform_11 ?_
  refine lv_istore (lv' := [(6, .int ((v (68 + 3 * i) 6) + (1))), (5, .ref (ad (68 + 3 * i + 1))), (0, .ref (ad (0))), (1, .ref (ad (68 + 3 * i))), (2, .int (op)), (3, .int (x)), (4, .int (y))]) hx hb d_C_perform_12 hl (by decide) rfl (fun ls hl => ?_)
  refine lv_iload_n hx hb d_C_perform_14 rfl (lv_at hl 4 rfl) ?_
  rcases sw_12 (op) with c_15 | h_15_0 | h_15_1 | h_15_2 | h_15_3 | h_15_4 | h_15_5 | h_15_6 | h_15_7 | h_15_8 | h_15_9 | h_15_10 | h_15_11
  · refine lv_tableOut (tgt := 232) hx hb d_C_perform_15 c_15 (by decide) ?_
    refine lv_aload_n hx hb d_C_perform_232 rfl (lv_at hl 3 rfl) ?_
    refine lv_iload hx hb d_C_perform_233 (lv_at hl 0 rfl) ?_
    refine wp hx hb hts i_Proc t_Proc t_Proc_ok n_Proc hown hW (68 + 3 * i) (by omega) mk_proc rfl 6 (by decide) (hts _ kf_C_102) rfl (by decide +kernel) (x := (v (68 + 3 * i) 6) + (1)) (Nat.le_of_ble_eq_true rfl) (mk_proc.trans rfl) d_C_perform_235 (fun H locs hW => ?_)
    obtain ⟨v2, ev2⟩ : ∃ z : Vs, z = u2 v (68 + 3 * i) 6 ((v (68 + 3 * i) 6) + (1)) := ⟨_, rfl⟩
    rw [← ev2] at hW
    have hO2 : Ok np v2 := by rw [ev2]; exact hO.set (by omega) (okS_counter ⟨nv v (68 + 3 * i) 6 + 1, by omega, (ni_add e1 rfl)⟩)
    have hfin : cPerf np v i op a y = (np, v2) := by
      subst ev2; simp only [cPerf, if_neg (out_ne c_15 0 (by decide)), if_neg (out_ne c_15 1 (by decide)), if_neg (out_ne c_15 2 (by decide)), if_neg (out_ne c_15 3 (by decide)), if_neg (out_ne c_15 4 (by decide)), if_neg (out_ne c_15 5 (by decide)), if_neg (out_ne c_15 6 (by decide)), if_neg (out_ne c_15 7 (by decide)), if_neg (out_ne c_15 8 (by decide)), if_neg (out_ne c_15 9 (by decide)), if_neg (out_ne c_15 10 (by decide)), if_neg (out_ne c_15 11 (by decide))]
    exact hret ad _ _ _ _ _ _ (fun _ _ => rfl) (by show Wd D classes (tysA g) s A (wC g ad (cPerf np v i op a y).1 (cPerf np v i op a y).2) _ _; rw [hfin]; exact hW) (by decide) (by decide) d_C_perform_238
  · refine lv_tableIn (tgt := 76) hx hb d_C_perform_15 (by rw [h_15_0]; decide) (by rw [h_15_0]; decide) (off := 61) (by rw [h_15_0]; rfl) (by decide) ?_
    refine lv_aload hx hb d_C_perform_76 (lv_at hl 1 rfl) ?_
    refine lv_iload_n hx hb d_C_perform_78 rfl (lv_at hl 5 rfl) ?_
    refine lv_iload hx hb d_C_perform_79 (lv_at hl 6 rfl) ?_
    refine wis hx hb hW (68 + 3 * i + 1) (by omega) mk_regs 0 rfl (a) zx (by omega) (by decide) (x := y) mk_regs d_C_perform_81 (fun H locs hW => ?_)
    obtain ⟨v3, ev3⟩ : ∃ z : Vs, z = u2 v (68 + 3 * i + 1) (a) (y) := ⟨_, rfl⟩
    rw [← ev3] at hW
    have hO3 : Ok np v3 := by rw [ev3]; exact hO.set (by omega) (okS_free (by omega))
    refine lv_goto (tgt := 232) hx hb d_C_perform_82 (by decide) ?_
    refine lv_aload_n hx hb d_C_perform_232 rfl (lv_at hl 3 rfl) ?_
    refine lv_iload hx hb d_C_perform_233 (lv_at hl 0 rfl) ?_
    refine wp hx hb hts i_Proc t_Proc t_Proc_ok n_Proc hown hW (68 + 3 * i) (by omega) mk_proc rfl 6 (by decide) (hts _ kf_C_102) rfl (by decide +kernel) (x := (v (68 + 3 * i) 6) + (1)) (Nat.le_of_ble_eq_true rfl) (mk_proc.trans rfl) d_C_perform_235 (fun H locs hW => ?_)
    obtain ⟨v4, ev4⟩ : ∃ z : Vs, z = u2 v3 (68 + 3 * i) 6 ((v (68 + 3 * i) 6) + (1)) := ⟨_, rfl⟩
    rw [← ev4] at hW
    have hO4 : Ok np v4 := by rw [ev4]; exact hO3.set (by omega) (okS_counter ⟨nv v (68 + 3 * i) 6 + 1, by omega, (ni_add e1 rfl)⟩)
    have hfin : cPerf np v i op a y = (np, v4) := by
      subst ev4 ev3; subst h_15_0; rfl
    exact hret ad _ _ _ _ _ _ (fun _ _ => rfl) (by show Wd D classes (tysA g) s A (wC g ad (cPerf np v i op a y).1 (cPerf np v i op a y).2) _ _; rw [hfin]; exact hW) (by decide) (by decide) d_C_perform_238
  · refine lv_tableIn (tgt := 85) hx hb d_C_perform_15 (by rw [h_15_1]; decide) (by rw [h_15_1]; decide) (off := 70) (by rw [h_15_1]; rfl) (by decide) ?_
    obtain ⟨e5, b5⟩ := okLt_nn (h4 (by rw [h_15_1]; decide) (by rw [h_15_1]; decide)) (by decide)
    refine lv_aload hx hb d_C_perform_85 (lv_at hl 1 rfl) ?_
    refine lv_iload_n hx hb d_C_perform_87 rfl (lv_at hl 5 rfl) ?_
    refine lv_dup2_11 hx hb d_C_perform_88 rfl rfl ?_
    refine wi hx hb hW (68 + 3 * i + 1) (by omega) mk_regs 0 rfl (a) zx (by omega) (by decide) d_C_perform_89 ?_
    refine lv_aload hx hb d_C_perform_90 (lv_at hl 1 rfl) ?_
    refine lv_iload hx hb d_C_perform_92 (lv_at hl 6 rfl) ?_
    refine wi hx hb hW (68 + 3 * i + 1) (by omega) mk_regs 0 rfl (nn y) e5 (by omega) (by decide) d_C_perform_94 ?_
    refine lv_iadd hx hb d_C_perform_95 ?_
    refine wis hx hb hW (68 + 3 * i + 1) (by omega) mk_regs 0 rfl (a) zx (by omega) (by decide) (x := (v (68 + 3 * i + 1) (a)) + (v (68 + 3 * i + 1) (nn y))) mk_regs d_C_perform_96 (fun H locs hW => ?_)
    obtain ⟨v6, ev6⟩ : ∃ z : Vs, z = u2 v (68 + 3 * i + 1) (a) ((v (68 + 3 * i + 1) (a)) + (v (68 + 3 * i + 1) (nn y))) := ⟨_, rfl⟩
    rw [← ev6] at hW
    have hO6 : Ok np v6 := by rw [ev6]; exact hO.set (by omega) (okS_free (by omega))
    refine lv_goto (tgt := 232) hx hb d_C_perform_97 (by decide) ?_
    refine lv_aload_n hx hb d_C_perform_232 rfl (lv_at hl 3 rfl) ?_
    refine lv_iload hx hb d_C_perform_233 (lv_at hl 0 rfl) ?_
    refine wp hx hb hts i_Proc t_Proc t_Proc_ok n_Proc hown hW (68 + 3 * i) (by omega) mk_proc rfl 6 (by decide) (hts _ kf_C_102) rfl (by decide +kernel) (x := (v (68 + 3 * i) 6) + (1)) (Nat.le_of_ble_eq_true rfl) (mk_proc.trans rfl) d_C_perform_235 (fun H locs hW => ?_)
    obtain ⟨v7, ev7⟩ : ∃ z : Vs, z = u2 v6 (68 + 3 * i) 6 ((v (68 + 3 * i) 6) + (1)) := ⟨_, rfl⟩
    rw [← ev7] at hW
    have hO7 : Ok np v7 := by rw [ev7]; exact hO6.set (by omega) (okS_counter ⟨nv v (68 + 3 * i) 6 + 1, by omega, (ni_add e1 rfl)⟩)
    have hfin : cPerf np v i op a y = (np, v7) := by
      subst ev7 ev6; subst h_15_1; rfl
    exact hret ad _ _ _ _ _ _ (fun _ _ => rfl) (by show Wd D classes (tysA g) s A (wC g ad (cPerf np v i op a y).1 (cPerf np v i op a y).2) _ _; rw [hfin]; exact hW) (by decide) (by decide) d_C_perform_238
  · refine lv_tableIn (tgt := 100) hx hb d_C_perform_15 (by rw [h_15_2]; decide) (by rw [h_15_2]; decide) (off := 85) (by rw [h_15_2]; rfl) (by decide) ?_
    obtain ⟨e8, b8⟩ := okLt_nn (h4 (by rw [h_15_2]; decide) (by rw [h_15_2]; decide)) (by decide)
    refine lv_aload_n hx hb d_C_perform_100 rfl (lv_at hl 2 rfl) ?_
    refine lv_aload_n hx hb d_C_perform_101 rfl (lv_at hl 3 rfl) ?_
    refine lv_iload_n hx hb d_C_perform_102 rfl (lv_at hl 4 rfl) ?_
    refine lv_iload_n hx hb d_C_perform_103 rfl (lv_at hl 5 rfl) ?_
    refine lv_iload hx hb d_C_perform_104 (lv_at hl 6 rfl) ?_
    refine wcv hW hA (va_runV (As := [.ref (ad (68 + 3 * i)), .int (op), .int (x), .int (y)]) (rest := []) ⟨hx, hb, hml, hown, hts⟩ (c_C_accessMemory l i hi (op) (x) a zx (by omega) (y) (nn y) e8 (by omega) hO _) (cv 4 hts kc_C_accessMemory ki_C_accessMemory ke_C_accessMemory kn_C km_C_198 kh_C_accessMemory rfl rfl ⟨by decide, by decide⟩) (preW hW rfl rfl (mw_get (by omega) mk_root)) rfl rfl hl.1 rfl (lv_room (Nat.le_of_ble_eq_true rfl)) d_C_perform_106 ⟨by decide, by decide⟩) (fun uu9 H locs hp9 hW => ?_)
    have hW : Wd D classes (tysA g) s A (wC g ad np (cAcc v i (op) a (nn y))) H locs := hW
    obtain ⟨v10, ev10⟩ : ∃ z : Vs, z = cAcc v i (op) a (nn y) := ⟨_, rfl⟩
    rw [← ev10] at hW
    have hO10 : Ok np v10 := by rw [ev10]; exact hO.acc
    refine lv_goto (tgt := 232) hx hb d_C_perform_109 (by decide) ?_
    refine lv_aload_n hx hb d_C_perform_232 rfl (lv_at hl 3 rfl) ?_
    refine lv_iload hx hb d_C_perform_233 (lv_at hl 0 rfl) ?_
    refine wp hx hb hts i_Proc t_Proc t_Proc_ok n_Proc hown hW (68 + 3 * i) (by omega) mk_proc rfl 6 (by decide) (hts _ kf_C_102) rfl (by decide +kernel) (x := (v (68 + 3 * i) 6) + (1)) (Nat.le_of_ble_eq_true rfl) (mk_proc.trans rfl) d_C_perform_235 (fun H locs hW => ?_)
    obtain ⟨v11, ev11⟩ : ∃ z : Vs, z = u2 v10 (68 + 3 * i) 6 ((v (68 + 3 * i) 6) + (1)) := ⟨_, rfl⟩
    rw [← ev11] at hW
    have hO11 : Ok np v11 := by rw [ev11]; exact hO10.set (by omega) (okS_counter ⟨nv v (68 + 3 * i) 6 + 1, by omega, (ni_add e1 rfl)⟩)
    have hfin : cPerf np v i op a y = (np, v11) := by
      subst ev11 ev10; subst h_15_2; rfl
    exact hret ad _ _ _ _ _ _ (fun _ _ => rfl) (by show Wd D classes (tysA g) s A (wC g ad (cPerf np v i op a y).1 (cPerf np v i op a y).2) _ _; rw [hfin]; exact hW) (by decide) (by decide) d_C_perform_238
  · refine lv_tableIn (tgt := 100) hx hb d_C_perform_15 (by rw [h_15_3]; decide) (by rw [h_15_3]; decide) (off := 85) (by rw [h_15_3]; rfl) (by decide) ?_
    obtain ⟨e12, b12⟩ := okLt_nn (h4 (by rw [h_15_3]; decide) (by rw [h_15_3]; decide)) (by decide)
    refine lv_aload_n hx hb d_C_perform_100 rfl (lv_at hl 2 rfl) ?_
    refine lv_aload_n hx hb d_C_perform_101 rfl (lv_at hl 3 rfl) ?_
    refine lv_iload_n hx hb d_C_perform_102 rfl (lv_at hl 4 rfl) ?_
    refine lv_iload_n hx hb d_C_perform_103 rfl (lv_at hl 5 rfl) ?_
    refine lv_iload hx hb d_C_perform_104 (lv_at hl 6 rfl) ?_
    refine wcv hW hA (va_runV (As := [.ref (ad (68 + 3 * i)), .int (op), .int (x), .int (y)]) (rest := []) ⟨hx, hb, hml, hown, hts⟩ (c_C_accessMemory l i hi (op) (x) a zx (by omega) (y) (nn y) e12 (by omega) hO _) (cv 4 hts kc_C_accessMemory ki_C_accessMemory ke_C_accessMemory kn_C km_C_198 kh_C_accessMemory rfl rfl ⟨by decide, by decide⟩) (preW hW rfl rfl (mw_get (by omega) mk_root)) rfl rfl hl.1 rfl (lv_room (Nat.le_of_ble_eq_true rfl)) d_C_perform_106 ⟨by decide, by decide⟩) (fun uu13 H locs hp13 hW => ?_)
    have hW : Wd D classes (tysA g) s A (wC g ad np (cAcc v i (op) a (nn y))) H locs := hW
    obtain ⟨v14, ev14⟩ : ∃ z : Vs, z = cAcc v i (op) a (nn y) := ⟨_, rfl⟩
    rw [← ev14] at hW
    have hO14 : Ok np v14 := by rw [ev14]; exact hO.acc
    refine lv_goto (tgt := 232) hx hb d_C_perform_109 (by decide) ?_
    refine lv_aload_n hx hb d_C_perform_232 rfl (lv_at hl 3 rfl) ?_
    refine lv_iload hx hb d_C_perform_233 (lv_at hl 0 rfl) ?_
    refine wp hx hb hts i_Proc t_Proc t_Proc_ok n_Proc hown hW (68 + 3 * i) (by omega) mk_proc rfl 6 (by decide) (hts _ kf_C_102) rfl (by decide +kernel) (x := (v (68 + 3 * i) 6) + (1)) (Nat.le_of_ble_eq_true rfl) (mk_proc.trans rfl) d_C_perform_235 (fun H locs hW => ?_)
    obtain ⟨v15, ev15⟩ : ∃ z : Vs, z = u2 v14 (68 + 3 * i) 6 ((v (68 + 3 * i) 6) + (1)) := ⟨_, rfl⟩
    rw [← ev15] at hW
    have hO15 : Ok np v15 := by rw [ev15]; exact hO14.set (by omega) (okS_counter ⟨nv v (68 + 3 * i) 6 + 1, by omega, (ni_add e1 rfl)⟩)
    have hfin : cPerf np v i op a y = (np, v15) := by
      subst ev15 ev14; subst h_15_3; rfl
    exact hret ad _ _ _ _ _ _ (fun _ _ => rfl) (by show Wd D classes (tysA g) s A (wC g ad (cPerf np v i op a y).1 (cPerf np v i op a y).2) _ _; rw [hfin]; exact hW) (by decide) (by decide) d_C_perform_238
  · refine lv_tableIn (tgt := 100) hx hb d_C_perform_15 (by rw [h_15_4]; decide) (by rw [h_15_4]; decide) (off := 85) (by rw [h_15_4]; rfl) (by decide) ?_
    obtain ⟨e16, b16⟩ := okLt_nn (h4 (by rw [h_15_4]; decide) (by rw [h_15_4]; decide)) (by decide)
    refine lv_aload_n hx hb d_C_perform_100 rfl (lv_at hl 2 rfl) ?_
    refine lv_aload_n hx hb d_C_perform_101 rfl (lv_at hl 3 rfl) ?_
    refine lv_iload_n hx hb d_C_perform_102 rfl (lv_at hl 4 rfl) ?_
    refine lv_iload_n hx hb d_C_perform_103 rfl (lv_at hl 5 rfl) ?_
    refine lv_iload hx hb d_C_perform_104 (lv_at hl 6 rfl) ?_
    refine wcv hW hA (va_runV (As := [.ref (ad (68 + 3 * i)), .int (op), .int (x), .int (y)]) (rest := []) ⟨hx, hb, hml, hown, hts⟩ (c_C_accessMemory l i hi (op) (x) a zx (by omega) (y) (nn y) e16 (by omega) hO _) (cv 4 hts kc_C_accessMemory ki_C_accessMemory ke_C_accessMemory kn_C km_C_198 kh_C_accessMemory rfl rfl ⟨by decide, by decide⟩) (preW hW rfl rfl (mw_get (by omega) mk_root)) rfl rfl hl.1 rfl (lv_room (Nat.le_of_ble_eq_true rfl)) d_C_perform_106 ⟨by decide, by decide⟩) (fun uu17 H locs hp17 hW => ?_)
    have hW : Wd D classes (tysA g) s A (wC g ad np (cAcc v i (op) a (nn y))) H locs := hW
    obtain ⟨v18, ev18⟩ : ∃ z : Vs, z = cAcc v i (op) a (nn y) := ⟨_, rfl⟩
    rw [← ev18] at hW
    have hO18 : Ok np v18 := by rw [ev18]; exact hO.acc
    refine lv_goto (tgt := 232) hx hb d_C_perform_109 (by decide) ?_
    refine lv_aload_n hx hb d_C_perform_232 rfl (lv_at hl 3 rfl) ?_
    refine lv_iload hx hb d_C_perform_233 (lv_at hl 0 rfl) ?_
    refine wp hx hb hts i_Proc t_Proc t_Proc_ok n_Proc hown hW (68 + 3 * i) (by omega) mk_proc rfl 6 (by decide) (hts _ kf_C_102) rfl (by decide +kernel) (x := (v (68 + 3 * i) 6) + (1)) (Nat.le_of_ble_eq_true rfl) (mk_proc.trans rfl) d_C_perform_235 (fun H locs hW => ?_)
    obtain ⟨v19, ev19⟩ : ∃ z : Vs, z = u2 v18 (68 + 3 * i) 6 ((v (68 + 3 * i) 6) + (1)) := ⟨_, rfl⟩
    rw [← ev19] at hW
    have hO19 : Ok np v19 := by rw [ev19]; exact hO18.set (by omega) (okS_counter ⟨nv v (68 + 3 * i) 6 + 1, by omega, (ni_add e1 rfl)⟩)
    have hfin : cPerf np v i op a y = (np, v19) := by
      subst ev19 ev18; subst h_15_4; rfl
    exact hret ad _ _ _ _ _ _ (fun _ _ => rfl) (by show Wd D classes (tysA g) s A (wC g ad (cPerf np v i op a y).1 (cPerf np v i op a y).2) _ _; rw [hfin]; exact hW) (by decide) (by decide) d_C_perform_238
  · refine lv_tableIn (tgt := 112) hx hb d_C_perform_15 (by rw [h_15_5]; decide) (by rw [h_15_5]; decide) (off := 97) (by rw [h_15_5]; rfl) (by decide) ?_
    obtain ⟨e20, b20⟩ := okLt_nn (h5 h_15_5) (by decide)
    refine lv_aload hx hb d_C_perform_112 (lv_at hl 1 rfl) ?_
    refine lv_iload_n hx hb d_C_perform_114 rfl (lv_at hl 5 rfl) ?_
    refine wi hx hb hW (68 + 3 * i + 1) (by omega) mk_regs 0 rfl (a) zx (by omega) (by decide) d_C_perform_115 ?_
    refine lv_if_eq (tgt := 124) hx hb d_C_perform_116 (by decide) (fun c_116 => ?_) (fun c_116 => ?_)
    · refine lv_iload hx hb d_C_perform_124 (lv_at hl 0 rfl) ?_
      refine lv_istore (lv' := [(6, .int ((v (68 + 3 * i) 6) + (1))), (5, .ref (ad (68 + 3 * i + 1))), (0, .ref (ad (0))), (1, .ref (ad (68 + 3 * i))), (2, .int (op)), (3, .int (x)), (4, .int (y))]) hx hb d_C_perform_126 hl (by decide) rfl (fun ls hl => ?_)
      refine lv_goto (tgt := 232) hx hb d_C_perform_128 (by decide) ?_
      refine lv_aload_n hx hb d_C_perform_232 rfl (lv_at hl 3 rfl) ?_
      refine lv_iload hx hb d_C_perform_233 (lv_at hl 0 rfl) ?_
      refine wp hx hb hts i_Proc t_Proc t_Proc_ok n_Proc hown hW (68 + 3 * i) (by omega) mk_proc rfl 6 (by decide) (hts _ kf_C_102) rfl (by decide +kernel) (x := (v (68 + 3 * i) 6) + (1)) (Nat.le_of_ble_eq_true rfl) (mk_proc.trans rfl) d_C_perform_235 (fun H locs hW => ?_)
      obtain ⟨v21, ev21⟩ : ∃ z : Vs, z = u2 v (68 + 3 * i) 6 ((v (68 + 3 * i) 6) + (1)) := ⟨_, rfl⟩
      rw [← ev21] at hW
      have hO21 : Ok np v21 := by rw [ev21]; exact hO.set (by omega) (okS_counter ⟨nv v (68 + 3 * i) 6 + 1, by omega, (ni_add e1 rfl)⟩)
      have hfin : cPerf np v i op a y = (np, v21) := by
        subst ev21; subst h_15_5; unfold cPerf; simp only [if_pos c_116]; rfl
      exact hret ad _ _ _ _ _ _ (fun _ _ => rfl) (by show Wd D classes (tysA g) s A (wC g ad (cPerf np v i op a y).1 (cPerf np v i op a y).2) _ _; rw [hfin]; exact hW) (by decide) (by decide) d_C_perform_238
    · refine lv_iload hx hb d_C_perform_119 (lv_at hl 6 rfl) ?_
      refine lv_goto (tgt := 126) hx hb d_C_perform_121 (by decide) ?_
      refine lv_istore (lv' := [(6, .int (y)), (5, .ref (ad (68 + 3 * i + 1))), (0, .ref (ad (0))), (1, .ref (ad (68 + 3 * i))), (2, .int (op)), (3, .int (x)), (4, .int (y))]) hx hb d_C_perform_126 hl (by decide) rfl (fun ls hl => ?_)
      refine lv_goto (tgt := 232) hx hb d_C_perform_128 (by decide) ?_
      refine lv_aload_n hx hb d_C_perform_232 rfl (lv_at hl 3 rfl) ?_
      refine lv_iload hx hb d_C_perform_233 (lv_at hl 0 rfl) ?_
      refine wp hx hb hts i_Proc t_Proc t_Proc_ok n_Proc hown hW (68 + 3 * i) (by omega) mk_proc rfl 6 (by decide) (hts _ kf_C_102) rfl (by decide +kernel) (x := y) (Nat.le_of_ble_eq_true rfl) (mk_proc.trans rfl) d_C_perform_235 (fun H locs hW => ?_)
      obtain ⟨v22, ev22⟩ : ∃ z : Vs, z = u2 v (68 + 3 * i) 6 (y) := ⟨_, rfl⟩
      rw [← ev22] at hW
      have hO22 : Ok np v22 := by rw [ev22]; exact hO.set (by omega) (okS_counter ⟨nn y, by omega, e20⟩)
      have hfin : cPerf np v i op a y = (np, v22) := by
        subst ev22; subst h_15_5; unfold cPerf; simp only [if_neg c_116]; rfl
      exact hret ad _ _ _ _ _ _ (fun _ _ => rfl) (by show Wd D classes (tysA g) s A (wC g ad (cPerf np v i op a y).1 (cPerf np v i op a y).2) _ _; rw [hfin]; exact hW) (by decide) (by decide) d_C_perform_238
  · refine lv_tableIn (tgt := 131) hx hb d_C_perform_15 (by rw [h_15_6]; decide) (by rw [h_15_6]; decide) (off := 116) (by rw [h_15_6]; rfl) (by decide) ?_
    refine lv_aload hx hb d_C_perform_131 (lv_at hl 1 rfl) ?_
    refine lv_iload_n hx hb d_C_perform_133 rfl (lv_at hl 5 rfl) ?_
    refine lv_aload_n hx hb d_C_perform_134 rfl (lv_at hl 2 rfl) ?_
    refine wg hx hb hts i_C hown hW (0) (by omega) mk_root rfl 5 (by decide) (hts _ kf_C_55) rfl d_C_perform_135 ?_
    obtain ⟨e23, b23⟩ := hO.made
    refine lv_bipush (v := 8) hx hb d_C_perform_138 (by decide) ?_
    refine lv_icmp_ne (tgt := 147) hx hb d_C_perform_140 (by decide) (fun c_140 => ?_) (fun c_140 => ?_)
    · have nc_140 : ¬ np = 8 := ni_ne e23 rfl (by omega) (by omega) c_140
      have h8 : np < 8 := hO.lt8 c_140
      have hy4 := h4 (by rw [h_15_6]; decide) (by rw [h_15_6]; decide)
      refine lv_aload_n hx hb d_C_perform_147 rfl (lv_at hl 2 rfl) ?_
      refine lv_iload hx hb d_C_perform_148 (lv_at hl 6 rfl) ?_
      refine lv_aload_n hx hb d_C_perform_150 rfl (lv_at hl 3 rfl) ?_
      refine wg hx hb hts i_Proc hown hW (68 + 3 * i) (by omega) mk_proc rfl 4 (by decide) (hts _ kf_C_88) rfl d_C_perform_151 ?_
      obtain ⟨e25, b25⟩ := hO.place hi
      refine wci hW hA (va_runV (As := [.int (y), .int (v (68 + 3 * i) 4)]) (rest := [.int (x), .ref (ad (68 + 3 * i + 1))]) ⟨hx, hb, hml, hown, hts⟩ (c_C_makeProcess l (y) (v (68 + 3 * i) 4) hO h8 hy4 ⟨_, b25, e25⟩ _) (cv 2 hts kc_C_makeProcess ki_C_makeProcess ke_C_makeProcess kn_C km_C_58 kh_C_makeProcess rfl rfl ⟨by decide, by decide⟩) (preW hW rfl rfl (mw_get (by omega) mk_root)) rfl rfl hl.1 rfl (lv_room (Nat.le_of_ble_eq_true rfl)) d_C_perform_154 ⟨by decide, by decide⟩) (fun r0 ad1 H locs hp hW => ?_)
      obtain ⟨hr0, hlo⟩ := hp
      subst hr0
      have hfi : cMake v np y (v (68 + 3 * i) 4) = cMake v np y (v (68 + 3 * i) 4) := rfl
      have hW : Wd D classes (tysA g) s A (wC g ad1 (np + 1) (cMake v np y (v (68 + 3 * i) 4))) H locs := hW
      have hO1 := hO.make h8 hy4 ⟨_, b25, e25⟩
      obtain ⟨v1, ev1⟩ : ∃ z : Vs, z = cMake v np y (v (68 + 3 * i) 4) := ⟨_, rfl⟩
      rw [← ev1] at hW hO1
      obtain ⟨n1, en1⟩ : ∃ z, z = np + 1 := ⟨_, rfl⟩
      rw [← en1] at hW hO1
      have hi1 : i < n1 := by omega
      have hnp1 := hO1.le
      have hl : lv_has ls 7 [(6, .int ((v (68 + 3 * i) 6) + (1))), (5, .ref (ad1 (68 + 3 * i + 1))), (0, .ref (ad1 (0))), (1, .ref (ad1 (68 + 3 * i))), (2, .int (op)), (3, .int (x)), (4, .int (y))] := by rw [hlo 0 (by omega), hlo (68 + 3 * i) (by omega), hlo (68 + 3 * i + 1) (by omega)]; exact hl
      rw [← hlo (68 + 3 * i + 1) (by omega)]
      refine wis hx hb hW (68 + 3 * i + 1) (by omega) mk_regs 0 rfl (a) zx (by omega) (by decide) (x := nI np) mk_regs d_C_perform_157 (fun H locs hW => ?_)
      obtain ⟨v26, ev26⟩ : ∃ z : Vs, z = u2 v1 (68 + 3 * i + 1) (a) (nI np) := ⟨_, rfl⟩
      rw [← ev26] at hW
      have hO26 : Ok n1 v26 := by rw [ev26]; exact hO1.set (by omega) (okS_free (by omega))
      refine lv_goto (tgt := 232) hx hb d_C_perform_158 (by decide) ?_
      refine lv_aload_n hx hb d_C_perform_232 rfl (lv_at hl 3 rfl) ?_
      refine lv_iload hx hb d_C_perform_233 (lv_at hl 0 rfl) ?_
      refine wp hx hb hts i_Proc t_Proc t_Proc_ok n_Proc hown hW (68 + 3 * i) (by omega) mk_proc rfl 6 (by decide) (hts _ kf_C_102) rfl (by decide +kernel) (x := (v (68 + 3 * i) 6) + (1)) (Nat.le_of_ble_eq_true rfl) (mk_proc.trans rfl) d_C_perform_235 (fun H locs hW => ?_)
      obtain ⟨v27, ev27⟩ : ∃ z : Vs, z = u2 v26 (68 + 3 * i) 6 ((v (68 + 3 * i) 6) + (1)) := ⟨_, rfl⟩
      rw [← ev27] at hW
      have hO27 : Ok n1 v27 := by rw [ev27]; exact hO26.set (by omega) (okS_counter ⟨nv v (68 + 3 * i) 6 + 1, by omega, (ni_add e1 rfl)⟩)
      have hfin : cPerf np v i op a y = (n1, v27) := by
        subst ev27 ev26 ev1 en1 h_15_6; unfold cPerf; simp only [if_neg c_140]; rfl
      exact hret ad1 _ _ _ _ _ _ hlo (by show Wd D classes (tysA g) s A (wC g ad1 (cPerf np v i op a y).1 (cPerf np v i op a y).2) _ _; rw [hfin]; exact hW) (by decide) (by decide) d_C_perform_238
    · have nc_140 : np = 8 := ni_eq e23 rfl (by omega) (by omega) c_140
      refine lv_iconst (v := (-1)) hx hb d_C_perform_143 (by decide) ?_
      refine lv_goto (tgt := 157) hx hb d_C_perform_144 (by decide) ?_
      refine wis hx hb hW (68 + 3 * i + 1) (by omega) mk_regs 0 rfl (a) zx (by omega) (by decide) (x := (-1)) mk_regs d_C_perform_157 (fun H locs hW => ?_)
      obtain ⟨v28, ev28⟩ : ∃ z : Vs, z = u2 v (68 + 3 * i + 1) (a) ((-1)) := ⟨_, rfl⟩
      rw [← ev28] at hW
      have hO28 : Ok np v28 := by rw [ev28]; exact hO.set (by omega) (okS_free (by omega))
      refine lv_goto (tgt := 232) hx hb d_C_perform_158 (by decide) ?_
      refine lv_aload_n hx hb d_C_perform_232 rfl (lv_at hl 3 rfl) ?_
      refine lv_iload hx hb d_C_perform_233 (lv_at hl 0 rfl) ?_
      refine wp hx hb hts i_Proc t_Proc t_Proc_ok n_Proc hown hW (68 + 3 * i) (by omega) mk_proc rfl 6 (by decide) (hts _ kf_C_102) rfl (by decide +kernel) (x := (v (68 + 3 * i) 6) + (1)) (Nat.le_of_ble_eq_true rfl) (mk_proc.trans rfl) d_C_perform_235 (fun H locs hW => ?_)
      obtain ⟨v29, ev29⟩ : ∃ z : Vs, z = u2 v28 (68 + 3 * i) 6 ((v (68 + 3 * i) 6) + (1)) := ⟨_, rfl⟩
      rw [← ev29] at hW
      have hO29 : Ok np v29 := by rw [ev29]; exact hO28.set (by omega) (okS_counter ⟨nv v (68 + 3 * i) 6 + 1, by omega, (ni_add e1 rfl)⟩)
      have hfin : cPerf np v i op a y = (np, v29) := by
        subst ev29 ev28; subst h_15_6; unfold cPerf; simp only [if_pos c_140]; rfl
      exact hret ad _ _ _ _ _ _ (fun _ _ => rfl) (by show Wd D classes (tysA g) s A (wC g ad (cPerf np v i op a y).1 (cPerf np v i op a y).2) _ _; rw [hfin]; exact hW) (by decide) (by decide) d_C_perform_238
  · refine lv_tableIn (tgt := 161) hx hb d_C_perform_15 (by rw [h_15_7]; decide) (by rw [h_15_7]; decide) (off := 146) (by rw [h_15_7]; rfl) (by decide) ?_
    refine lv_aload_n hx hb d_C_perform_161 rfl (lv_at hl 2 rfl) ?_
    refine lv_aload_n hx hb d_C_perform_162 rfl (lv_at hl 3 rfl) ?_
    refine lv_iload_n hx hb d_C_perform_163 rfl (lv_at hl 5 rfl) ?_
    refine wcv hW hA (va_runV (As := [.ref (ad (68 + 3 * i)), .int (x)]) (rest := []) ⟨hx, hb, hml, hown, hts⟩ (c_C_waitFor l i hi (x) a zx (by omega) hO _) (cv 2 hts kc_C_waitFor ki_C_waitFor ke_C_waitFor kn_C km_C_201 kh_C_waitFor rfl rfl ⟨by decide, by decide⟩) (preW hW rfl rfl (mw_get (by omega) mk_root)) rfl rfl hl.1 rfl (lv_room (Nat.le_of_ble_eq_true rfl)) d_C_perform_164 ⟨by decide, by decide⟩) (fun uu30 H locs hp30 hW => ?_)
    have hW : Wd D classes (tysA g) s A (wC g ad np (cWait v i a)) H locs := hW
    obtain ⟨v31, ev31⟩ : ∃ z : Vs, z = cWait v i a := ⟨_, rfl⟩
    rw [← ev31] at hW
    have hO31 : Ok np v31 := by rw [ev31]; exact hO.wait hi
    refine lv_aload_n hx hb d_C_perform_167 rfl (lv_at hl 3 rfl) ?_
    refine wg hx hb hts i_Proc hown hW (68 + 3 * i) (by omega) mk_proc rfl 5 (by decide) (hts _ kf_C_70) rfl d_C_perform_168 ?_
    refine lv_iconst (v := 3) hx hb d_C_perform_171 (by decide) ?_
    refine lv_icmp_ne (tgt := 182) hx hb d_C_perform_172 (by decide) (fun c_172 => ?_) (fun c_172 => ?_)
    · refine lv_iload hx hb d_C_perform_182 (lv_at hl 0 rfl) ?_
      refine lv_istore (lv' := [(6, .int ((v (68 + 3 * i) 6) + (1))), (5, .ref (ad (68 + 3 * i + 1))), (0, .ref (ad (0))), (1, .ref (ad (68 + 3 * i))), (2, .int (op)), (3, .int (x)), (4, .int (y))]) hx hb d_C_perform_184 hl (by decide) rfl (fun ls hl => ?_)
      refine lv_goto (tgt := 232) hx hb d_C_perform_186 (by decide) ?_
      refine lv_aload_n hx hb d_C_perform_232 rfl (lv_at hl 3 rfl) ?_
      refine lv_iload hx hb d_C_perform_233 (lv_at hl 0 rfl) ?_
      refine wp hx hb hts i_Proc t_Proc t_Proc_ok n_Proc hown hW (68 + 3 * i) (by omega) mk_proc rfl 6 (by decide) (hts _ kf_C_102) rfl (by decide +kernel) (x := (v (68 + 3 * i) 6) + (1)) (Nat.le_of_ble_eq_true rfl) (mk_proc.trans rfl) d_C_perform_235 (fun H locs hW => ?_)
      obtain ⟨v32, ev32⟩ : ∃ z : Vs, z = u2 v31 (68 + 3 * i) 6 ((v (68 + 3 * i) 6) + (1)) := ⟨_, rfl⟩
      rw [← ev32] at hW
      have hO32 : Ok np v32 := by rw [ev32]; exact hO31.set (by omega) (okS_counter ⟨nv v (68 + 3 * i) 6 + 1, by omega, (ni_add e1 rfl)⟩)
      have hfin : cPerf np v i op a y = (np, v32) := by
        subst ev32 ev31; subst h_15_7; unfold cPerf; simp only [if_neg c_172]; rfl
      exact hret ad _ _ _ _ _ _ (fun _ _ => rfl) (by show Wd D classes (tysA g) s A (wC g ad (cPerf np v i op a y).1 (cPerf np v i op a y).2) _ _; rw [hfin]; exact hW) (by decide) (by decide) d_C_perform_238
    · refine lv_aload_n hx hb d_C_perform_175 rfl (lv_at hl 3 rfl) ?_
      refine wg hx hb hts i_Proc hown hW (68 + 3 * i) (by omega) mk_proc rfl 6 (by decide) (hts _ kf_C_102) rfl d_C_perform_176 ?_
      obtain ⟨e33, b33⟩ := hO31.counter hi
      refine lv_goto (tgt := 184) hx hb d_C_perform_179 (by decide) ?_
      refine lv_istore (lv' := [(6, .int (v31 (68 + 3 * i) 6)), (5, .ref (ad (68 + 3 * i + 1))), (0, .ref (ad (0))), (1, .ref (ad (68 + 3 * i))), (2, .int (op)), (3, .int (x)), (4, .int (y))]) hx hb d_C_perform_184 hl (by decide) rfl (fun ls hl => ?_)
      refine lv_goto (tgt := 232) hx hb d_C_perform_186 (by decide) ?_
      refine lv_aload_n hx hb d_C_perform_232 rfl (lv_at hl 3 rfl) ?_
      refine lv_iload hx hb d_C_perform_233 (lv_at hl 0 rfl) ?_
      refine wp hx hb hts i_Proc t_Proc t_Proc_ok n_Proc hown hW (68 + 3 * i) (by omega) mk_proc rfl 6 (by decide) (hts _ kf_C_102) rfl (by decide +kernel) (x := v31 (68 + 3 * i) 6) (Nat.le_of_ble_eq_true rfl) (mk_proc.trans rfl) d_C_perform_235 (fun H locs hW => ?_)
      obtain ⟨v34, ev34⟩ : ∃ z : Vs, z = u2 v31 (68 + 3 * i) 6 (v31 (68 + 3 * i) 6) := ⟨_, rfl⟩
      rw [← ev34] at hW
      have hO34 : Ok np v34 := by rw [ev34]; exact hO31.set (by omega) (okS_counter ⟨nv v31 (68 + 3 * i) 6, by omega, e33⟩)
      have hfin : cPerf np v i op a y = (np, v34) := by
        subst ev34 ev31; subst h_15_7; unfold cPerf; simp only [if_pos c_172]; rfl
      exact hret ad _ _ _ _ _ _ (fun _ _ => rfl) (by show Wd D classes (tysA g) s A (wC g ad (cPerf np v i op a y).1 (cPerf np v i op a y).2) _ _; rw [hfin]; exact hW) (by decide) (by decide) d_C_perform_238
  · refine lv_tableIn (tgt := 189) hx hb d_C_perform_15 (by rw [h_15_8]; decide) (by rw [h_15_8]; decide) (off := 174) (by rw [h_15_8]; rfl) (by decide) ?_
    refine lv_aload_n hx hb d_C_perform_189 rfl (lv_at hl 2 rfl) ?_
    refine lv_aload_n hx hb d_C_perform_190 rfl (lv_at hl 3 rfl) ?_
    refine lv_iload_n hx hb d_C_perform_191 rfl (lv_at hl 5 rfl) ?_
    refine wcv hW hA (va_runV (As := [.ref (ad (68 + 3 * i)), .int (x)]) (rest := []) ⟨hx, hb, hml, hown, hts⟩ (c_C_killOther l i hi (x) a zx (by omega) hO _) (cv 2 hts kc_C_killOther ki_C_killOther ke_C_killOther kn_C km_C_204 kh_C_killOther rfl rfl ⟨by decide, by decide⟩) (preW hW rfl rfl (mw_get (by omega) mk_root)) rfl rfl hl.1 rfl (lv_room (Nat.le_of_ble_eq_true rfl)) d_C_perform_192 ⟨by decide, by decide⟩) (fun uu35 H locs hp35 hW => ?_)
    have hW : Wd D classes (tysA g) s A (wC g ad np (cKill np v i a)) H locs := hW
    obtain ⟨v36, ev36⟩ : ∃ z : Vs, z = cKill np v i a := ⟨_, rfl⟩
    rw [← ev36] at hW
    have hO36 : Ok np v36 := by rw [ev36]; exact hO.kill
    refine lv_goto (tgt := 232) hx hb d_C_perform_195 (by decide) ?_
    refine lv_aload_n hx hb d_C_perform_232 rfl (lv_at hl 3 rfl) ?_
    refine lv_iload hx hb d_C_perform_233 (lv_at hl 0 rfl) ?_
    refine wp hx hb hts i_Proc t_Proc t_Proc_ok n_Proc hown hW (68 + 3 * i) (by omega) mk_proc rfl 6 (by decide) (hts _ kf_C_102) rfl (by decide +kernel) (x := (v (68 + 3 * i) 6) + (1)) (Nat.le_of_ble_eq_true rfl) (mk_proc.trans rfl) d_C_perform_235 (fun H locs hW => ?_)
    obtain ⟨v37, ev37⟩ : ∃ z : Vs, z = u2 v36 (68 + 3 * i) 6 ((v (68 + 3 * i) 6) + (1)) := ⟨_, rfl⟩
    rw [← ev37] at hW
    have hO37 : Ok np v37 := by rw [ev37]; exact hO36.set (by omega) (okS_counter ⟨nv v (68 + 3 * i) 6 + 1, by omega, (ni_add e1 rfl)⟩)
    have hfin : cPerf np v i op a y = (np, v37) := by
      subst ev37 ev36; subst h_15_8; rfl
    exact hret ad _ _ _ _ _ _ (fun _ _ => rfl) (by show Wd D classes (tysA g) s A (wC g ad (cPerf np v i op a y).1 (cPerf np v i op a y).2) _ _; rw [hfin]; exact hW) (by decide) (by decide) d_C_perform_238
  · refine lv_tableIn (tgt := 198) hx hb d_C_perform_15 (by rw [h_15_9]; decide) (by rw [h_15_9]; decide) (off := 183) (by rw [h_15_9]; rfl) (by decide) ?_
    refine lv_aload_n hx hb d_C_perform_198 rfl (lv_at hl 2 rfl) ?_
    refine lv_aload_n hx hb d_C_perform_199 rfl (lv_at hl 3 rfl) ?_
    refine lv_aload hx hb d_C_perform_200 (lv_at hl 1 rfl) ?_
    refine lv_iload_n hx hb d_C_perform_202 rfl (lv_at hl 5 rfl) ?_
    refine wi hx hb hW (68 + 3 * i + 1) (by omega) mk_regs 0 rfl (a) zx (by omega) (by decide) d_C_perform_203 ?_
    refine wcv hW hA (va_runV (As := [.ref (ad (68 + 3 * i)), .int (v (68 + 3 * i + 1) (a))]) (rest := []) ⟨hx, hb, hml, hown, hts⟩ (c_C_endProcess l i hi (v (68 + 3 * i + 1) (a)) hO _) (cv 2 hts kc_C_endProcess ki_C_endProcess ke_C_endProcess kn_C km_C_163 kh_C_endProcess rfl rfl ⟨by decide, by decide⟩) (preW hW rfl rfl (mw_get (by omega) mk_root)) rfl rfl hl.1 rfl (lv_room (Nat.le_of_ble_eq_true rfl)) d_C_perform_204 ⟨by decide, by decide⟩) (fun uu38 H locs hp38 hW => ?_)
    have hW : Wd D classes (tysA g) s A (wC g ad np (cEnd np v i (v (68 + 3 * i + 1) (a)))) H locs := hW
    obtain ⟨v39, ev39⟩ : ∃ z : Vs, z = cEnd np v i (v (68 + 3 * i + 1) (a)) := ⟨_, rfl⟩
    rw [← ev39] at hW
    have hO39 : Ok np v39 := by rw [ev39]; exact hO.end hi
    refine lv_goto (tgt := 232) hx hb d_C_perform_207 (by decide) ?_
    refine lv_aload_n hx hb d_C_perform_232 rfl (lv_at hl 3 rfl) ?_
    refine lv_iload hx hb d_C_perform_233 (lv_at hl 0 rfl) ?_
    refine wp hx hb hts i_Proc t_Proc t_Proc_ok n_Proc hown hW (68 + 3 * i) (by omega) mk_proc rfl 6 (by decide) (hts _ kf_C_102) rfl (by decide +kernel) (x := (v (68 + 3 * i) 6) + (1)) (Nat.le_of_ble_eq_true rfl) (mk_proc.trans rfl) d_C_perform_235 (fun H locs hW => ?_)
    obtain ⟨v40, ev40⟩ : ∃ z : Vs, z = u2 v39 (68 + 3 * i) 6 ((v (68 + 3 * i) 6) + (1)) := ⟨_, rfl⟩
    rw [← ev40] at hW
    have hO40 : Ok np v40 := by rw [ev40]; exact hO39.set (by omega) (okS_counter ⟨nv v (68 + 3 * i) 6 + 1, by omega, (ni_add e1 rfl)⟩)
    have hfin : cPerf np v i op a y = (np, v40) := by
      subst ev40 ev39; subst h_15_9; rfl
    exact hret ad _ _ _ _ _ _ (fun _ _ => rfl) (by show Wd D classes (tysA g) s A (wC g ad (cPerf np v i op a y).1 (cPerf np v i op a y).2) _ _; rw [hfin]; exact hW) (by decide) (by decide) d_C_perform_238
  · refine lv_tableIn (tgt := 210) hx hb d_C_perform_15 (by rw [h_15_10]; decide) (by rw [h_15_10]; decide) (off := 195) (by rw [h_15_10]; rfl) (by decide) ?_
    refine lv_aload hx hb d_C_perform_210 (lv_at hl 1 rfl) ?_
    refine lv_iload_n hx hb d_C_perform_212 rfl (lv_at hl 5 rfl) ?_
    refine lv_aload_n hx hb d_C_perform_213 rfl (lv_at hl 3 rfl) ?_
    refine wg hx hb hts i_Proc hown hW (68 + 3 * i) (by omega) mk_proc rfl 0 (by decide) (hts _ kf_C_73) rfl d_C_perform_214 ?_
    obtain ⟨e41, b41⟩ := hO.number hi
    refine wis hx hb hW (68 + 3 * i + 1) (by omega) mk_regs 0 rfl (a) zx (by omega) (by decide) (x := v (68 + 3 * i) 0) mk_regs d_C_perform_217 (fun H locs hW => ?_)
    obtain ⟨v42, ev42⟩ : ∃ z : Vs, z = u2 v (68 + 3 * i + 1) (a) (v (68 + 3 * i) 0) := ⟨_, rfl⟩
    rw [← ev42] at hW
    have hO42 : Ok np v42 := by rw [ev42]; exact hO.set (by omega) (okS_free (by omega))
    refine lv_goto (tgt := 232) hx hb d_C_perform_218 (by decide) ?_
    refine lv_aload_n hx hb d_C_perform_232 rfl (lv_at hl 3 rfl) ?_
    refine lv_iload hx hb d_C_perform_233 (lv_at hl 0 rfl) ?_
    refine wp hx hb hts i_Proc t_Proc t_Proc_ok n_Proc hown hW (68 + 3 * i) (by omega) mk_proc rfl 6 (by decide) (hts _ kf_C_102) rfl (by decide +kernel) (x := (v (68 + 3 * i) 6) + (1)) (Nat.le_of_ble_eq_true rfl) (mk_proc.trans rfl) d_C_perform_235 (fun H locs hW => ?_)
    obtain ⟨v43, ev43⟩ : ∃ z : Vs, z = u2 v42 (68 + 3 * i) 6 ((v (68 + 3 * i) 6) + (1)) := ⟨_, rfl⟩
    rw [← ev43] at hW
    have hO43 : Ok np v43 := by rw [ev43]; exact hO42.set (by omega) (okS_counter ⟨nv v (68 + 3 * i) 6 + 1, by omega, (ni_add e1 rfl)⟩)
    have hfin : cPerf np v i op a y = (np, v43) := by
      subst ev43 ev42; subst h_15_10; rfl
    exact hret ad _ _ _ _ _ _ (fun _ _ => rfl) (by show Wd D classes (tysA g) s A (wC g ad (cPerf np v i op a y).1 (cPerf np v i op a y).2) _ _; rw [hfin]; exact hW) (by decide) (by decide) d_C_perform_238
  · refine lv_tableIn (tgt := 221) hx hb d_C_perform_15 (by rw [h_15_11]; decide) (by rw [h_15_11]; decide) (off := 206) (by rw [h_15_11]; rfl) (by decide) ?_
    refine lv_aload hx hb d_C_perform_221 (lv_at hl 1 rfl) ?_
    refine lv_iload_n hx hb d_C_perform_223 rfl (lv_at hl 5 rfl) ?_
    refine lv_aload_n hx hb d_C_perform_224 rfl (lv_at hl 3 rfl) ?_
    refine wg hx hb hts i_Proc hown hW (68 + 3 * i) (by omega) mk_proc rfl 4 (by decide) (hts _ kf_C_88) rfl d_C_perform_225 ?_
    obtain ⟨e44, b44⟩ := hO.place hi
    refine wis hx hb hW (68 + 3 * i + 1) (by omega) mk_regs 0 rfl (a) zx (by omega) (by decide) (x := v (68 + 3 * i) 4) mk_regs d_C_perform_228 (fun H locs hW => ?_)
    obtain ⟨v45, ev45⟩ : ∃ z : Vs, z = u2 v (68 + 3 * i + 1) (a) (v (68 + 3 * i) 4) := ⟨_, rfl⟩
    rw [← ev45] at hW
    have hO45 : Ok np v45 := by rw [ev45]; exact hO.set (by omega) (okS_free (by omega))
    refine lv_goto (tgt := 232) hx hb d_C_perform_229 (by decide) ?_
    refine lv_aload_n hx hb d_C_perform_232 rfl (lv_at hl 3 rfl) ?_
    refine lv_iload hx hb d_C_perform_233 (lv_at hl 0 rfl) ?_
    refine wp hx hb hts i_Proc t_Proc t_Proc_ok n_Proc hown hW (68 + 3 * i) (by omega) mk_proc rfl 6 (by decide) (hts _ kf_C_102) rfl (by decide +kernel) (x := (v (68 + 3 * i) 6) + (1)) (Nat.le_of_ble_eq_true rfl) (mk_proc.trans rfl) d_C_perform_235 (fun H locs hW => ?_)
    obtain ⟨v46, ev46⟩ : ∃ z : Vs, z = u2 v45 (68 + 3 * i) 6 ((v (68 + 3 * i) 6) + (1)) := ⟨_, rfl⟩
    rw [← ev46] at hW
    have hO46 : Ok np v46 := by rw [ev46]; exact hO45.set (by omega) (okS_counter ⟨nv v (68 + 3 * i) 6 + 1, by omega, (ni_add e1 rfl)⟩)
    have hfin : cPerf np v i op a y = (np, v46) := by
      subst ev46 ev45; subst h_15_11; rfl
    exact hret ad _ _ _ _ _ _ (fun _ _ => rfl) (by show Wd D classes (tysA g) s A (wC g ad (cPerf np v i op a y).1 (cPerf np v i op a y).2) _ _; rw [hfin]; exact hW) (by decide) (by decide) d_C_perform_238
end
section
abbrev rm_C_runFirst : Room := { frames := 5, cells := 3, slots := 19, locals := 118 }
set_option maxHeartbeats 8000000 in
set_option maxRecDepth 100000 in
theorem c_C_runFirst (l : Launch) {D : va_G} {g : Nat → ClassId} {ad : Nat → Nat} {np : Nat} {v : Vs} (i : Nat) (hi : i < np) (hO : Ok np v) : MtV l y_C_runFirst ws_C_runFirst rm_C_runFirst D classes (tysA g) [.ref (ad 0), .ref (ad (68 + 3 * i))] (wC g ad np v) (fun (u : Nat → Nat) => ∀ k, k < 68 + 3 * np → u k = ad k) (fun u => wC g u (cRun np v i).1 (cRun np v i).2) 3 19 := by
  refine mt_v (by decide +kernel) rfl (Nat.le_of_ble_eq_true rfl) (fun p e s m args below meth c Q A C hnm hA hW hret ls hl => ?_)
  obtain ⟨hx, hb, hr, hml, hown, hts0, hlocks⟩ := C
  have hts : ∀ w ∈ bigw, w.before args s = true := fun w h => hts0 w (List.mem_cons_of_mem _ h)
  have hown : s.vm.findClass R_C = some m.cls := hown
  have hnp := hO.le
  have hl : lv_has ls 8 [(0, .ref (ad (0))), (1, .ref (ad (68 + 3 * i)))] := hl
  refine lv_aload_n hx hb d_C_runFirst_0 rfl (lv_at hl 0 rfl) ?_
  refine wg hx hb hts i_C hown hW (0) (by omega) mk_root rfl 0 (by decide) (hts _ kf_C_11) rfl d_C_runFirst_1 ?_
  refine lv_aload_n hx hb d_C_runFirst_4 rfl (lv_at hl 1 rfl) ?_
  refine wg hx hb hts i_Proc hown hW (68 + 3 * i) (by omega) mk_proc rfl 1 (by decide) (hts _ kf_C_160) rfl d_C_runFirst_5 ?_
  obtain ⟨e1, b1⟩ := hO.program hi
  have hi2 : nv v (68 + 3 * i) 1 < 4 := by omega
  refine wa hx hb hW 1 (by omega) mk_programs 1 rfl (nv v (68 + 3 * i) 1) e1 (by omega) (by decide) (if_pos hi2) d_C_runFirst_8 ?_
  refine lv_astore_n (lv' := [(2, .ref (ad (6 + 4 * (nv v (68 + 3 * i) 1)))), (0, .ref (ad (0))), (1, .ref (ad (68 + 3 * i)))]) hx hb d_C_runFirst_9 rfl hl (by decide) rfl (fun ls hl => ?_)
  refine lv_aload_n hx hb d_C_runFirst_10 rfl (lv_at hl 2 rfl) ?_
  refine wg hx hb hts i_Proc hown hW (68 + 3 * i) (by omega) mk_proc rfl 6 (by decide) (hts _ kf_C_102) rfl d_C_runFirst_11 ?_
  obtain ⟨e3, b3⟩ := hO.counter hi
  refine lv_aload_n hx hb d_C_runFirst_14 rfl (lv_at hl 0 rfl) ?_
  refine wg hx hb hts i_Program hown hW (6 + 4 * (nv v (68 + 3 * i) 1)) (by omega) (mk_program hi2) rfl 3 (by decide) (hts _ kf_C_47) rfl d_C_runFirst_15 ?_
  obtain ⟨e4, b4⟩ := hO.psize hi2
  refine lv_icmp_lt (tgt := 28) hx hb d_C_runFirst_18 (by decide) (fun c_18 => ?_) (fun c_18 => ?_)
  · have nc_18 : nv v (68 + 3 * i) 6 < nv v (6 + 4 * (nv v (68 + 3 * i) 1)) 3 := ni_lt e3 e4 (by omega) (by omega) c_18
    refine lv_aload_n hx hb d_C_runFirst_28 rfl (lv_at hl 0 rfl) ?_
    refine wg hx hb hts i_Program hown hW (6 + 4 * (nv v (68 + 3 * i) 1)) (by omega) (mk_program hi2) rfl 0 (by decide) (hts _ kf_C_166) rfl d_C_runFirst_29 ?_
    refine lv_aload_n hx hb d_C_runFirst_32 rfl (lv_at hl 2 rfl) ?_
    refine wg hx hb hts i_Proc hown hW (68 + 3 * i) (by omega) mk_proc rfl 6 (by decide) (hts _ kf_C_102) rfl d_C_runFirst_33 ?_
    obtain ⟨e5, b5⟩ := hO.counter hi
    refine wi hx hb hW (6 + 4 * (nv v (68 + 3 * i) 1) + 1) (by omega) (mk_ops hi2 (by decide) (by decide)) 0 rfl (nv v (68 + 3 * i) 6) e5 (by omega) (by decide) d_C_runFirst_36 ?_
    refine lv_istore_n (lv' := [(3, .int (v (6 + 4 * (nv v (68 + 3 * i) 1) + 1) (nv v (68 + 3 * i) 6))), (2, .ref (ad (6 + 4 * (nv v (68 + 3 * i) 1)))), (0, .ref (ad (0))), (1, .ref (ad (68 + 3 * i)))]) hx hb d_C_runFirst_37 rfl hl (by decide) rfl (fun ls hl => ?_)
    refine lv_aload_n hx hb d_C_runFirst_38 rfl (lv_at hl 1 rfl) ?_
    refine wg hx hb hts i_Program hown hW (6 + 4 * (nv v (68 + 3 * i) 1)) (by omega) (mk_program hi2) rfl 1 (by decide) (hts _ kf_C_169) rfl d_C_runFirst_39 ?_
    refine lv_aload_n hx hb d_C_runFirst_42 rfl (lv_at hl 3 rfl) ?_
    refine wg hx hb hts i_Proc hown hW (68 + 3 * i) (by omega) mk_proc rfl 6 (by decide) (hts _ kf_C_102) rfl d_C_runFirst_43 ?_
    obtain ⟨e6, b6⟩ := hO.counter hi
    refine wi hx hb hW (6 + 4 * (nv v (68 + 3 * i) 1) + 2) (by omega) (mk_ops hi2 (by decide) (by decide)) 0 rfl (nv v (68 + 3 * i) 6) e6 (by omega) (by decide) d_C_runFirst_46 ?_
    refine lv_istore (lv' := [(4, .int (v (6 + 4 * (nv v (68 + 3 * i) 1) + 2) (nv v (68 + 3 * i) 6))), (3, .int (v (6 + 4 * (nv v (68 + 3 * i) 1) + 1) (nv v (68 + 3 * i) 6))), (2, .ref (ad (6 + 4 * (nv v (68 + 3 * i) 1)))), (0, .ref (ad (0))), (1, .ref (ad (68 + 3 * i)))]) hx hb d_C_runFirst_47 hl (by decide) rfl (fun ls hl => ?_)
    refine lv_aload_n hx hb d_C_runFirst_49 rfl (lv_at hl 2 rfl) ?_
    refine wg hx hb hts i_Program hown hW (6 + 4 * (nv v (68 + 3 * i) 1)) (by omega) (mk_program hi2) rfl 2 (by decide) (hts _ kf_C_172) rfl d_C_runFirst_50 ?_
    refine lv_aload_n hx hb d_C_runFirst_53 rfl (lv_at hl 4 rfl) ?_
    refine wg hx hb hts i_Proc hown hW (68 + 3 * i) (by omega) mk_proc rfl 6 (by decide) (hts _ kf_C_102) rfl d_C_runFirst_54 ?_
    obtain ⟨e7, b7⟩ := hO.counter hi
    refine wi hx hb hW (6 + 4 * (nv v (68 + 3 * i) 1) + 3) (by omega) (mk_ops hi2 (by decide) (by decide)) 0 rfl (nv v (68 + 3 * i) 6) e7 (by omega) (by decide) d_C_runFirst_57 ?_
    refine lv_istore (lv' := [(5, .int (v (6 + 4 * (nv v (68 + 3 * i) 1) + 3) (nv v (68 + 3 * i) 6))), (4, .int (v (6 + 4 * (nv v (68 + 3 * i) 1) + 2) (nv v (68 + 3 * i) 6))), (3, .int (v (6 + 4 * (nv v (68 + 3 * i) 1) + 1) (nv v (68 + 3 * i) 6))), (2, .ref (ad (6 + 4 * (nv v (68 + 3 * i) 1)))), (0, .ref (ad (0))), (1, .ref (ad (68 + 3 * i)))]) hx hb d_C_runFirst_58 hl (by decide) rfl (fun ls hl => ?_)
    obtain ⟨hc12, hop, ha4, hb4, hb5⟩ := hO.ins hi c_18
    obtain ⟨op, eop⟩ : ∃ z, z = v (6 + 4 * (nv v (68 + 3 * i) 1) + 1) (nv v (68 + 3 * i) 6) := ⟨_, rfl⟩
    obtain ⟨a0, ea0⟩ : ∃ z, z = v (6 + 4 * (nv v (68 + 3 * i) 1) + 2) (nv v (68 + 3 * i) 6) := ⟨_, rfl⟩
    obtain ⟨b0, eb0⟩ : ∃ z, z = v (6 + 4 * (nv v (68 + 3 * i) 1) + 3) (nv v (68 + 3 * i) 6) := ⟨_, rfl⟩
    rw [← eop] at hl hop hb4 hb5
    rw [← ea0] at hl ha4
    rw [← eb0] at hl hb4 hb5
    obtain ⟨ena, lna⟩ := okLt_nn ha4 (by decide)
    have rest : cRun np v i = cRest np v i op a0 b0 → ∀ (H : Heap) (locs : List Loc) (ls : Array Slot), Wd D classes (tysA g) s A (wC g ad np v) H locs → lv_has ls 8 [(0, .ref (ad 0)), (1, .ref (ad (68 + 3 * i))), (3, .int op), (4, .int a0), (5, .int b0)] → W p l e rm_C_runFirst s m args below meth c H locs 0 0 Q (F0 m 123 ls []) := by
      intro hT H locs ls hW hl
      refine lv_aload_n hx hb d_C_runFirst_123 rfl (lv_at hl 0 rfl) ?_
      refine lv_aload_n hx hb d_C_runFirst_124 rfl (lv_at hl 1 rfl) ?_
      refine lv_iload_n hx hb d_C_runFirst_125 rfl (lv_at hl 2 rfl) ?_
      refine lv_iload hx hb d_C_runFirst_126 (lv_at hl 3 rfl) ?_
      refine lv_iload hx hb d_C_runFirst_128 (lv_at hl 4 rfl) ?_
      refine wcv hW hA (va_runV (As := [.ref (ad (68 + 3 * i)), .int op, .int a0, .int b0]) (rest := []) ⟨hx, hb, hml, hown, hts⟩ (c_C_perform l i hi op a0 (nn a0) ena lna b0 hO hc12 hb4 hb5 _) (cv 4 hts kc_C_perform ki_C_perform ke_C_perform kn_C km_C_187 kh_C_perform rfl rfl ⟨by decide, by decide⟩) (preW hW rfl rfl (mw_get (by omega) mk_root)) rfl rfl hl.1 rfl (lv_room (Nat.le_of_ble_eq_true rfl)) d_C_runFirst_130 ⟨by decide, by decide⟩) (fun ad1 H locs hlo hW => ?_)
      have hO1 := hO.perf (a := nn a0) hi hc12 hb4 hb5
      obtain ⟨z, ez⟩ : ∃ z, z = cPerf np v i op (nn a0) b0 := ⟨_, rfl⟩
      have hW : Wd D classes (tysA g) s A (wC g ad1 z.1 z.2) H locs := by rw [ez]; exact hW
      rw [← ez] at hO1
      obtain ⟨n1, v1⟩ := z
      have hW : Wd D classes (tysA g) s A (wC g ad1 n1 v1) H locs := hW
      obtain ⟨hO1, hn1, -⟩ := hO1
      have hO1 : Ok n1 v1 := hO1
      have hn1 : np ≤ n1 := hn1
      have hi1 : i < n1 := by omega
      have hnp1 := hO1.le
      have hl : lv_has ls 8 [(0, .ref (ad1 0)), (1, .ref (ad1 (68 + 3 * i))), (3, .int op)] := by rw [hlo 0 (by omega), hlo (68 + 3 * i) (by omega)]; exact lv_sub hl [0, 1, 2] rfl
      refine lv_aload_n hx hb d_C_runFirst_133 rfl (lv_at hl 1 rfl) ?_
      refine wg hx hb hts i_Proc hown hW (68 + 3 * i) (by omega) mk_proc rfl 5 (by decide) (hts _ kf_C_70) rfl d_C_runFirst_134 ?_
      refine lv_iconst (v := 1) hx hb d_C_runFirst_137 (by decide) ?_
      refine lv_icmp_ne (tgt := 157) hx hb d_C_runFirst_138 (by decide) (fun c_138 => ?_) (fun c_138 => ?_)
      · have hfin : cRun np v i = (n1, v1) := by
          rw [hT, cRest, ← ez]; skip; simp only [if_neg c_138]
        exact hret ad1 _ _ _ _ _ _ hlo (by show Wd D classes (tysA g) s A (wC g ad1 (cRun np v i).1 (cRun np v i).2) _ _; rw [hfin]; exact hW) (by decide) (by decide) d_C_runFirst_157
      · refine lv_aload_n hx hb d_C_runFirst_141 rfl (lv_at hl 0 rfl) ?_
        refine lv_aload_n hx hb d_C_runFirst_142 rfl (lv_at hl 1 rfl) ?_
        refine lv_iload_n hx hb d_C_runFirst_143 rfl (lv_at hl 2 rfl) ?_
        refine lv_bipush (v := 12) hx hb d_C_runFirst_144 (by decide) ?_
        refine lv_icmp_ne (tgt := 153) hx hb d_C_runFirst_146 (by decide) (fun c_146 => ?_) (fun c_146 => ?_)
        · refine lv_iconst (v := 0) hx hb d_C_runFirst_153 (by decide) ?_
          refine wcv hW hA (va_runV (As := [.ref (ad1 (68 + 3 * i)), .int (0)]) (rest := []) ⟨hx, hb, hml, hown, hts⟩ (c_C_spendSlice l i hi1 (0) hO1 _) (cv 2 hts kc_C_spendSlice ki_C_spendSlice ke_C_spendSlice kn_C km_C_191 kh_C_spendSlice rfl rfl ⟨by decide, by decide⟩) (preW hW rfl rfl (mw_get (by omega) mk_root)) rfl rfl hl.1 rfl (lv_room (Nat.le_of_ble_eq_true rfl)) d_C_runFirst_154 ⟨by decide, by decide⟩) (fun uu8 H locs hp8 hW => ?_)
          have hW : Wd D classes (tysA g) s A (wC g ad1 n1 (cSpend v1 i (0))) H locs := hW
          obtain ⟨v9, ev9⟩ : ∃ z : Vs, z = cSpend v1 i (0) := ⟨_, rfl⟩
          rw [← ev9] at hW
          have hO9 : Ok n1 v9 := by rw [ev9]; exact hO1.spend hi1
          have hfin : cRun np v i = (n1, v9) := by
            rw [hT, cRest, ← ez]; subst ev9; simp only [if_pos c_138, if_neg c_146]
          exact hret ad1 _ _ _ _ _ _ hlo (by show Wd D classes (tysA g) s A (wC g ad1 (cRun np v i).1 (cRun np v i).2) _ _; rw [hfin]; exact hW) (by decide) (by decide) d_C_runFirst_157
        · refine lv_iconst (v := 1) hx hb d_C_runFirst_149 (by decide) ?_
          refine lv_goto (tgt := 154) hx hb d_C_runFirst_150 (by decide) ?_
          refine wcv hW hA (va_runV (As := [.ref (ad1 (68 + 3 * i)), .int (1)]) (rest := []) ⟨hx, hb, hml, hown, hts⟩ (c_C_spendSlice l i hi1 (1) hO1 _) (cv 2 hts kc_C_spendSlice ki_C_spendSlice ke_C_spendSlice kn_C km_C_191 kh_C_spendSlice rfl rfl ⟨by decide, by decide⟩) (preW hW rfl rfl (mw_get (by omega) mk_root)) rfl rfl hl.1 rfl (lv_room (Nat.le_of_ble_eq_true rfl)) d_C_runFirst_154 ⟨by decide, by decide⟩) (fun uu10 H locs hp10 hW => ?_)
          have hW : Wd D classes (tysA g) s A (wC g ad1 n1 (cSpend v1 i (1))) H locs := hW
          obtain ⟨v11, ev11⟩ : ∃ z : Vs, z = cSpend v1 i (1) := ⟨_, rfl⟩
          rw [← ev11] at hW
          have hO11 : Ok n1 v11 := by rw [ev11]; exact hO1.spend hi1
          have hfin : cRun np v i = (n1, v11) := by
            rw [hT, cRest, ← ez]; subst ev11; simp only [if_pos c_138, if_pos c_146]
          exact hret ad1 _ _ _ _ _ _ hlo (by show Wd D classes (tysA g) s A (wC g ad1 (cRun np v i).1 (cRun np v i).2) _ _; rw [hfin]; exact hW) (by decide) (by decide) d_C_runFirst_157
    refine lv_iload_n hx hb d_C_runFirst_60 rfl (lv_at hl 2 rfl) ?_
    refine wci hW hA (va_runS (As := [.int (op)]) (rest := []) ⟨hx, hb, hml, hown, hts⟩ (c_C_touchesMemory l _ (op) _) (cs 1 hts kc_C_touchesMemory ks_C_touchesMemory kn_C km_C_175 kh_C_touchesMemory rfl rfl ⟨by decide, by decide⟩) (preWS hW) rfl rfl hl.1 rfl (lv_room (Nat.le_of_ble_eq_true rfl)) d_C_runFirst_61 ⟨by decide, by decide⟩) (fun rr12 uu12 H locs hp12 hW => ?_)
    have hW : Wd D classes (tysA g) s A (wC g ad np (v)) H locs := hW
    have hp12 : rr12 = if (op) = 2 ∨ (op) = 3 ∨ (op) = 4 then 1 else 0 := hp12
    refine lv_if_eq (tgt := 123) hx hb d_C_runFirst_64 (by decide) (fun c_64 => ?_) (fun c_64 => ?_)
    · have c_64 : ¬ ((op) = 2 ∨ (op) = 3 ∨ (op) = 4) := bo_eq hp12 c_64
      refine rest ?_ _ _ _ hW (lv_sub hl [4, 5, 2, 1, 0] rfl)
      subst eop ea0 eb0; simp only [cRun, if_pos c_18, if_neg c_64]
    · have c_64 : (op) = 2 ∨ (op) = 3 ∨ (op) = 4 := bo_ne hp12 c_64
      obtain ⟨e13, b13⟩ := okLt_nn (hb4 (by rcases c_64 with h | h | h <;> (rw [h]; decide)) (by rcases c_64 with h | h | h <;> (rw [h]; decide))) (by decide)
      refine lv_aload_n hx hb d_C_runFirst_67 rfl (lv_at hl 5 rfl) ?_
      refine wg hx hb hts i_Proc hown hW (68 + 3 * i) (by omega) mk_proc rfl 2 (by decide) (hts _ kf_C_99) rfl d_C_runFirst_68 ?_
      refine lv_iload hx hb d_C_runFirst_71 (lv_at hl 0 rfl) ?_
      refine wi hx hb hW (68 + 3 * i + 1) (by omega) mk_regs 0 rfl (nn b0) e13 (by omega) (by decide) d_C_runFirst_73 ?_
      refine wci hW hA (va_runS (As := [.int (v (68 + 3 * i + 1) (nn b0))]) (rest := []) ⟨hx, hb, hml, hown, hts⟩ (c_C_addressOf l _ (v (68 + 3 * i + 1) (nn b0)) _) (cs 1 hts kc_C_addressOf ks_C_addressOf kn_C km_C_179 kh_C_addressOf rfl rfl ⟨by decide, by decide⟩) (preWS hW) rfl rfl hl.1 rfl (lv_room (Nat.le_of_ble_eq_true rfl)) d_C_runFirst_74 ⟨by decide, by decide⟩) (fun rr14 uu14 H locs hp14 hW => ?_)
      have hW : Wd D classes (tysA g) s A (wC g ad np (v)) H locs := hW
      have hp14 : rr14 = fmod (v (68 + 3 * i + 1) (nn b0)) 32 := hp14
      subst hp14
      have hbl := bl_lt (v (68 + 3 * i + 1) (nn b0)) 31
      refine lv_iconst (v := 4) hx hb d_C_runFirst_77 (by decide) ?_
      refine lv_idiv hx hb d_C_runFirst_78 (by decide) ?_
      refine lv_istore (lv' := [(6, .int ((fmod (v (68 + 3 * i + 1) (nn b0)) 32) / (4))), (5, .int (b0)), (4, .int (a0)), (3, .int (op)), (2, .ref (ad (6 + 4 * (nv v (68 + 3 * i) 1)))), (0, .ref (ad (0))), (1, .ref (ad (68 + 3 * i)))]) hx hb d_C_runFirst_79 hl (by decide) rfl (fun ls hl => ?_)
      refine lv_iload_n hx hb d_C_runFirst_81 rfl (lv_at hl 3 rfl) ?_
      refine lv_iconst (v := 2) hx hb d_C_runFirst_82 (by decide) ?_
      refine lv_icmp_ne (tgt := 90) hx hb d_C_runFirst_83 (by decide) (fun c_83 => ?_) (fun c_83 => ?_)
      · refine lv_iconst (v := 2) hx hb d_C_runFirst_90 (by decide) ?_
        refine lv_istore (lv' := [(7, .int (2)), (6, .int ((fmod (v (68 + 3 * i + 1) (nn b0)) 32) / (4))), (5, .int (b0)), (4, .int (a0)), (3, .int (op)), (2, .ref (ad (6 + 4 * (nv v (68 + 3 * i) 1)))), (0, .ref (ad (0))), (1, .ref (ad (68 + 3 * i)))]) hx hb d_C_runFirst_91 hl (by decide) rfl (fun ls hl => ?_)
        refine lv_aload_n hx hb d_C_runFirst_93 rfl (lv_at hl 6 rfl) ?_
        refine wg hx hb hts i_C hown hW (0) (by omega) mk_root rfl 3 (by decide) (hts _ kf_C_29) rfl d_C_runFirst_94 ?_
        refine lv_iload hx hb d_C_runFirst_97 (lv_at hl 1 rfl) ?_
        have hi15 : (bl (v (68 + 3 * i + 1) (nn b0)) 31) / 4 < 8 := by omega
        refine wa hx hb hW 4 (by omega) mk_pages 4 rfl ((bl (v (68 + 3 * i + 1) (nn b0)) 31) / 4) (ni_div (fmod32 _) rfl (by omega) (by decide) (by decide)) (by omega) (by decide) (if_pos hi15) d_C_runFirst_99 ?_
        refine wg hx hb hts i_Page hown hW (28 + 5 * ((bl (v (68 + 3 * i + 1) (nn b0)) 31) / 4)) (by omega) (mk_page hi15) rfl 0 (by decide) (hts _ kf_C_118) rfl d_C_runFirst_100 ?_
        refine lv_aload_n hx hb d_C_runFirst_103 rfl (lv_at hl 7 rfl) ?_
        refine wg hx hb hts i_Proc hown hW (68 + 3 * i) (by omega) mk_proc rfl 4 (by decide) (hts _ kf_C_88) rfl d_C_runFirst_104 ?_
        obtain ⟨e16, b16⟩ := hO.place hi
        refine wi hx hb hW (28 + 5 * ((bl (v (68 + 3 * i + 1) (nn b0)) 31) / 4) + 1) (by omega) (mk_rights hi15) 0 rfl (nv v (68 + 3 * i) 4) e16 (by omega) (by decide) d_C_runFirst_107 ?_
        refine lv_iload hx hb d_C_runFirst_108 (lv_at hl 0 rfl) ?_
        refine lv_icmp_ge (tgt := 123) hx hb d_C_runFirst_110 (by decide) (fun c_110 => ?_) (fun c_110 => ?_)
        · refine rest ?_ _ _ _ hW (lv_sub hl [6, 7, 4, 3, 2] rfl)
          subst eop ea0 eb0; simp only [cRun, if_pos c_18, if_pos c_64, if_neg c_83, if_pos c_110]
        · refine lv_aload_n hx hb d_C_runFirst_113 rfl (lv_at hl 6 rfl) ?_
          refine lv_aload_n hx hb d_C_runFirst_114 rfl (lv_at hl 7 rfl) ?_
          refine lv_iload hx hb d_C_runFirst_115 (lv_at hl 1 rfl) ?_
          refine lv_iload hx hb d_C_runFirst_117 (lv_at hl 0 rfl) ?_
          refine wcv hW hA (va_runV (As := [.ref (ad (68 + 3 * i)), .int ((fmod (v (68 + 3 * i + 1) (nn b0)) 32) / (4)), .int (2)]) (rest := []) ⟨hx, hb, hml, hown, hts⟩ (c_C_blockOn l i hi ((fmod (v (68 + 3 * i + 1) (nn b0)) 32) / (4)) ((bl (v (68 + 3 * i + 1) (nn b0)) 31) / 4) (ni_div (fmod32 _) rfl (by omega) (by decide) (by decide)) (by omega) (2) hO _) (cv 3 hts kc_C_blockOn ki_C_blockOn ke_C_blockOn kn_C km_C_183 kh_C_blockOn rfl rfl ⟨by decide, by decide⟩) (preW hW rfl rfl (mw_get (by omega) mk_root)) rfl rfl hl.1 rfl (lv_room (Nat.le_of_ble_eq_true rfl)) d_C_runFirst_119 ⟨by decide, by decide⟩) (fun uu17 H locs hp17 hW => ?_)
          have hW : Wd D classes (tysA g) s A (wC g ad np (cBlock v i ((fmod (v (68 + 3 * i + 1) (nn b0)) 32) / (4)) ((bl (v (68 + 3 * i + 1) (nn b0)) 31) / 4) (2))) H locs := hW
          obtain ⟨v18, ev18⟩ : ∃ z : Vs, z = cBlock v i ((fmod (v (68 + 3 * i + 1) (nn b0)) 32) / (4)) ((bl (v (68 + 3 * i + 1) (nn b0)) 31) / 4) (2) := ⟨_, rfl⟩
          rw [← ev18] at hW
          have hO18 : Ok np v18 := by rw [ev18]; exact hO.block hi (by omega)
          have hfin : cRun np v i = (np, v18) := by
            subst ev18; subst eop ea0 eb0; simp only [cRun, if_pos c_18, if_pos c_64, if_neg c_83, if_neg c_110]
          exact hret ad _ _ _ _ _ _ (fun _ _ => rfl) (by show Wd D classes (tysA g) s A (wC g ad (cRun np v i).1 (cRun np v i).2) _ _; rw [hfin]; exact hW) (by decide) (by decide) d_C_runFirst_122
      · refine lv_iconst (v := 1) hx hb d_C_runFirst_86 (by decide) ?_
        refine lv_goto (tgt := 91) hx hb d_C_runFirst_87 (by decide) ?_
        refine lv_istore (lv' := [(7, .int (1)), (6, .int ((fmod (v (68 + 3 * i + 1) (nn b0)) 32) / (4))), (5, .int (b0)), (4, .int (a0)), (3, .int (op)), (2, .ref (ad (6 + 4 * (nv v (68 + 3 * i) 1)))), (0, .ref (ad (0))), (1, .ref (ad (68 + 3 * i)))]) hx hb d_C_runFirst_91 hl (by decide) rfl (fun ls hl => ?_)
        refine lv_aload_n hx hb d_C_runFirst_93 rfl (lv_at hl 6 rfl) ?_
        refine wg hx hb hts i_C hown hW (0) (by omega) mk_root rfl 3 (by decide) (hts _ kf_C_29) rfl d_C_runFirst_94 ?_
        refine lv_iload hx hb d_C_runFirst_97 (lv_at hl 1 rfl) ?_
        have hi19 : (bl (v (68 + 3 * i + 1) (nn b0)) 31) / 4 < 8 := by omega
        refine wa hx hb hW 4 (by omega) mk_pages 4 rfl ((bl (v (68 + 3 * i + 1) (nn b0)) 31) / 4) (ni_div (fmod32 _) rfl (by omega) (by decide) (by decide)) (by omega) (by decide) (if_pos hi19) d_C_runFirst_99 ?_
        refine wg hx hb hts i_Page hown hW (28 + 5 * ((bl (v (68 + 3 * i + 1) (nn b0)) 31) / 4)) (by omega) (mk_page hi19) rfl 0 (by decide) (hts _ kf_C_118) rfl d_C_runFirst_100 ?_
        refine lv_aload_n hx hb d_C_runFirst_103 rfl (lv_at hl 7 rfl) ?_
        refine wg hx hb hts i_Proc hown hW (68 + 3 * i) (by omega) mk_proc rfl 4 (by decide) (hts _ kf_C_88) rfl d_C_runFirst_104 ?_
        obtain ⟨e20, b20⟩ := hO.place hi
        refine wi hx hb hW (28 + 5 * ((bl (v (68 + 3 * i + 1) (nn b0)) 31) / 4) + 1) (by omega) (mk_rights hi19) 0 rfl (nv v (68 + 3 * i) 4) e20 (by omega) (by decide) d_C_runFirst_107 ?_
        refine lv_iload hx hb d_C_runFirst_108 (lv_at hl 0 rfl) ?_
        refine lv_icmp_ge (tgt := 123) hx hb d_C_runFirst_110 (by decide) (fun c_110 => ?_) (fun c_110 => ?_)
        · refine rest ?_ _ _ _ hW (lv_sub hl [6, 7, 4, 3, 2] rfl)
          subst eop ea0 eb0; simp only [cRun, if_pos c_18, if_pos c_64, if_pos c_83, if_pos c_110]
        · refine lv_aload_n hx hb d_C_runFirst_113 rfl (lv_at hl 6 rfl) ?_
          refine lv_aload_n hx hb d_C_runFirst_114 rfl (lv_at hl 7 rfl) ?_
          refine lv_iload hx hb d_C_runFirst_115 (lv_at hl 1 rfl) ?_
          refine lv_iload hx hb d_C_runFirst_117 (lv_at hl 0 rfl) ?_
          refine wcv hW hA (va_runV (As := [.ref (ad (68 + 3 * i)), .int ((fmod (v (68 + 3 * i + 1) (nn b0)) 32) / (4)), .int (1)]) (rest := []) ⟨hx, hb, hml, hown, hts⟩ (c_C_blockOn l i hi ((fmod (v (68 + 3 * i + 1) (nn b0)) 32) / (4)) ((bl (v (68 + 3 * i + 1) (nn b0)) 31) / 4) (ni_div (fmod32 _) rfl (by omega) (by decide) (by decide)) (by omega) (1) hO _) (cv 3 hts kc_C_blockOn ki_C_blockOn ke_C_blockOn kn_C km_C_183 kh_C_blockOn rfl rfl ⟨by decide, by decide⟩) (preW hW rfl rfl (mw_get (by omega) mk_root)) rfl rfl hl.1 rfl (lv_room (Nat.le_of_ble_eq_true rfl)) d_C_runFirst_119 ⟨by decide, by decide⟩) (fun uu21 H locs hp21 hW => ?_)
          have hW : Wd D classes (tysA g) s A (wC g ad np (cBlock v i ((fmod (v (68 + 3 * i + 1) (nn b0)) 32) / (4)) ((bl (v (68 + 3 * i + 1) (nn b0)) 31) / 4) (1))) H locs := hW
          obtain ⟨v22, ev22⟩ : ∃ z : Vs, z = cBlock v i ((fmod (v (68 + 3 * i + 1) (nn b0)) 32) / (4)) ((bl (v (68 + 3 * i + 1) (nn b0)) 31) / 4) (1) := ⟨_, rfl⟩
          rw [← ev22] at hW
          have hO22 : Ok np v22 := by rw [ev22]; exact hO.block hi (by omega)
          have hfin : cRun np v i = (np, v22) := by
            subst ev22; subst eop ea0 eb0; simp only [cRun, if_pos c_18, if_pos c_64, if_pos c_83, if_neg c_110]
          exact hret ad _ _ _ _ _ _ (fun _ _ => rfl) (by show Wd D classes (tysA g) s A (wC g ad (cRun np v i).1 (cRun np v i).2) _ _; rw [hfin]; exact hW) (by decide) (by decide) d_C_runFirst_122
  · have nc_18 : nv v (6 + 4 * (nv v (68 + 3 * i) 1)) 3 ≤ nv v (68 + 3 * i) 6 := ni_nlt e3 e4 (by omega) (by omega) c_18
    refine lv_aload_n hx hb d_C_runFirst_21 rfl (lv_at hl 1 rfl) ?_
    refine lv_aload_n hx hb d_C_runFirst_22 rfl (lv_at hl 2 rfl) ?_
    refine lv_iconst (v := 0) hx hb d_C_runFirst_23 (by decide) ?_
    refine wcv hW hA (va_runV (As := [.ref (ad (68 + 3 * i)), .int (0)]) (rest := []) ⟨hx, hb, hml, hown, hts⟩ (c_C_endProcess l i hi (0) hO _) (cv 2 hts kc_C_endProcess ki_C_endProcess ke_C_endProcess kn_C km_C_163 kh_C_endProcess rfl rfl ⟨by decide, by decide⟩) (preW hW rfl rfl (mw_get (by omega) mk_root)) rfl rfl hl.1 rfl (lv_room (Nat.le_of_ble_eq_true rfl)) d_C_runFirst_24 ⟨by decide, by decide⟩) (fun uu23 H locs hp23 hW => ?_)
    have hW : Wd D classes (tysA g) s A (wC g ad np (cEnd np v i (0))) H locs := hW
    obtain ⟨v24, ev24⟩ : ∃ z : Vs, z = cEnd np v i (0) := ⟨_, rfl⟩
    rw [← ev24] at hW
    have hO24 : Ok np v24 := by rw [ev24]; exact hO.end hi
    have hfin : cRun np v i = (np, v24) := by
      subst ev24; simp only [cRun, if_neg c_18]
    exact hret ad _ _ _ _ _ _ (fun _ _ => rfl) (by show Wd D classes (tysA g) s A (wC g ad (cRun np v i).1 (cRun np v i).2) _ _; rw [hfin]; exact hW) (by decide) (by decide) d_C_runFirst_27
abbrev rm_C_step : Room := { frames := 6, cells := 3, slots := 19, locals := 145 }
set_option maxHeartbeats 8000000 in
set_option maxRecDepth 100000 in
theorem c_C_step (l : Launch) {D : va_G} {g : Nat → ClassId} {ad : Nat → Nat} {np : Nat} {v : Vs} (x : Int32) (hO : Ok np v) : MtI l y_C_step ws_C_step rm_C_step D classes (tysA g) [.ref (ad 0), .int x] (wC g ad np v) (fun (r : Int32) (u : Nat → Nat) => r = (mStep np v x).1 ∧ ∀ k, k < 68 + 3 * np → u k = ad k) (fun u => wC g u (mStep np v x).2.1 (mStep np v x).2.2) 3 19 := by
  refine mt_i (ty := .int) (fun _ _ _ => rfl) (by decide +kernel) rfl (Nat.le_of_ble_eq_true rfl) (fun p e s m args below meth c Q A C hA hW hret ls hl => ?_)
  obtain ⟨hx, hb, hr, hml, hown, hts0, hlocks⟩ := C
  have hts : ∀ w ∈ bigw, w.before args s = true := fun w h => hts0 w (List.mem_cons_of_mem _ h)
  have hown : s.vm.findClass R_C = some m.cls := hown
  have hnp := hO.le
  have hl : lv_has ls 3 [(0, .ref (ad (0))), (1, .int (x))] := hl
  refine lv_iload_n hx hb d_C_step_0 rfl (lv_at hl 1 rfl) ?_
  refine lv_iconst (v := 3) hx hb d_C_step_1 (by decide) ?_
  refine wci hW hA (va_runS (As := [.int (x), .int (3)]) (rest := []) ⟨hx, hb, hml, hown, hts⟩ (c_C_isIn l _ (x) (3) _) (cs 2 hts kc_C_isIn ks_C_isIn kn_C km_C_40 kh_C_isIn rfl rfl ⟨by decide, by decide⟩) (preWS hW) rfl rfl hl.1 rfl (lv_room (Nat.le_of_ble_eq_true rfl)) d_C_step_2 ⟨by decide, by decide⟩) (fun rr1 uu1 H locs hp1 hW => ?_)
  have hW : Wd D classes (tysA g) s A (wC g ad np (v)) H locs := hW
  have hp1 : rr1 = if inI (x) (3) then 1 else 0 := hp1
  refine lv_if_ne (tgt := 10) hx hb d_C_step_5 (by decide) (fun c_5 => ?_) (fun c_5 => ?_)
  · have c_5 : inI (x) (3) := bo_ne hp1 c_5
    obtain ⟨e2, b2⟩ := inI_nn (N := 3) rfl (by omega) c_5
    refine lv_aload_n hx hb d_C_step_10 rfl (lv_at hl 0 rfl) ?_
    refine wg hx hb hts i_C hown hW (0) (by omega) mk_root rfl 2 (by decide) (hts _ kf_C_23) rfl d_C_step_11 ?_
    refine lv_iload_n hx hb d_C_step_14 rfl (lv_at hl 1 rfl) ?_
    have hk3 : isLn (22 + 2 * (nn x)) := ln_node (by omega)
    refine wa hx hb hW 3 (by omega) mk_lines 3 rfl (nn x) e2 (by omega) (by decide) (if_pos (by omega)) d_C_step_15 ?_
    refine wg hx hb hts i_Line hown hW (22 + 2 * (nn x)) (by have := ln_lt hk3; omega) (mk_line hk3) rfl 1 (by decide) (hts _ kf_C_62) rfl d_C_step_16 ?_
    obtain ⟨e4, b4⟩ := hO.size hk3
    refine lv_if_ne (tgt := 25) hx hb d_C_step_19 (by decide) (fun c_19 => ?_) (fun c_19 => ?_)
    · have nc_19 : ¬ nv v (22 + 2 * (nn x)) 1 = 0 := ni_ne e4 rfl (by omega) (by omega) c_19
      have h0n := (hO.first (ln_node (by omega)) c_19).1
      refine lv_aload_n hx hb d_C_step_25 rfl (lv_at hl 0 rfl) ?_
      refine wg hx hb hts i_C hown hW (0) (by omega) mk_root rfl 1 (by decide) (hts _ kf_C_17) rfl d_C_step_26 ?_
      refine lv_aload_n hx hb d_C_step_29 rfl (lv_at hl 0 rfl) ?_
      refine wg hx hb hts i_C hown hW (0) (by omega) mk_root rfl 2 (by decide) (hts _ kf_C_23) rfl d_C_step_30 ?_
      refine lv_iload_n hx hb d_C_step_33 rfl (lv_at hl 1 rfl) ?_
      have hk5 : isLn (22 + 2 * (nn x)) := ln_node (by omega)
      refine wa hx hb hW 3 (by omega) mk_lines 3 rfl (nn x) e2 (by omega) (by decide) (if_pos (by omega)) d_C_step_34 ?_
      refine wg hx hb hts i_Line hown hW (22 + 2 * (nn x)) (by have := ln_lt hk5; omega) (mk_line hk5) rfl 0 (by decide) (hts _ kf_C_63) rfl d_C_step_35 ?_
      refine lv_iconst (v := 0) hx hb d_C_step_38 (by decide) ?_
      refine wi hx hb hW (22 + 2 * (nn x) + 1) (by have := ln_lt hk5; omega) (mk_items hk5) 0 rfl (0) rfl (by omega) (by decide) d_C_step_39 ?_
      obtain ⟨e6, b6⟩ := hO.item hk5 (0) (by omega)
      have hi7 : nv v (22 + 2 * (nn x) + 1) 0 < np := by omega
      refine wa hx hb hW 2 (by omega) mk_processes 2 rfl (nv v (22 + 2 * (nn x) + 1) 0) e6 (by omega) (by decide) (if_pos hi7) d_C_step_40 ?_
      refine lv_astore_n (lv' := [(2, .ref (ad (68 + 3 * (nv v (22 + 2 * (nn x) + 1) 0)))), (0, .ref (ad (0))), (1, .int (x))]) hx hb d_C_step_41 rfl hl (by decide) rfl (fun ls hl => ?_)
      refine lv_aload_n hx hb d_C_step_42 rfl (lv_at hl 1 rfl) ?_
      refine lv_aload_n hx hb d_C_step_43 rfl (lv_at hl 0 rfl) ?_
      obtain ⟨i0, ei0⟩ : ∃ z, z = nv v (22 + 2 * (nn x) + 1) 0 := ⟨_, rfl⟩
      rw [← ei0] at hi7 hl ⊢
      refine wcv hW hA (va_runV (As := [.ref (ad (68 + 3 * i0))]) (rest := []) ⟨hx, hb, hml, hown, hts⟩ (c_C_runFirst l i0 hi7 hO _) (cv 1 hts kc_C_runFirst ki_C_runFirst ke_C_runFirst kn_C km_C_66 kh_C_runFirst rfl rfl ⟨by decide, by decide⟩) (preW hW rfl rfl (mw_get (by omega) mk_root)) rfl rfl hl.1 rfl (lv_room (Nat.le_of_ble_eq_true rfl)) d_C_step_44 ⟨by decide, by decide⟩) (fun ad1 H locs hlo hW => ?_)
      have hO1 := hO.run hi7
      obtain ⟨z, ez⟩ : ∃ z, z = cRun np v i0 := ⟨_, rfl⟩
      have hW : Wd D classes (tysA g) s A (wC g ad1 z.1 z.2) H locs := by rw [ez]; exact hW
      rw [← ez] at hO1
      obtain ⟨n1, v1⟩ := z
      have hW : Wd D classes (tysA g) s A (wC g ad1 n1 v1) H locs := hW
      obtain ⟨hO1, hn1, -⟩ := hO1
      have hO1 : Ok n1 v1 := hO1
      have hn1 : np ≤ n1 := hn1
      have hi1 : i0 < n1 := by omega
      have hl : lv_has ls 3 [(2, .ref (ad1 (68 + 3 * i0)))] := by rw [hlo (68 + 3 * i0) (by omega)]; exact lv_sub hl [0] rfl
      refine lv_bipush (v := 10) hx hb d_C_step_47 (by decide) ?_
      refine lv_aload_n hx hb d_C_step_49 rfl (lv_at hl 0 rfl) ?_
      refine wg hx hb hts i_Proc hown hW (68 + 3 * i0) (by omega) mk_proc rfl 5 (by decide) (hts _ kf_C_70) rfl d_C_step_50 ?_
      refine lv_iconst (v := 1) hx hb d_C_step_53 (by decide) ?_
      refine lv_isub hx hb d_C_step_54 ?_
      refine lv_imul hx hb d_C_step_55 ?_
      refine lv_aload_n hx hb d_C_step_56 rfl (lv_at hl 0 rfl) ?_
      refine wg hx hb hts i_Proc hown hW (68 + 3 * i0) (by omega) mk_proc rfl 0 (by decide) (hts _ kf_C_73) rfl d_C_step_57 ?_
      refine lv_iadd hx hb d_C_step_60 ?_
      have hfin : mStep np v x = (((10) * ((v1 (68 + 3 * i0) 5) - (1))) + (v1 (68 + 3 * i0) 0), n1, v1) := by
        simp only [mStep, if_pos c_5, if_neg c_19, ← ei0, ← ez]
      exact hret _ ad1 _ _ _ _ _ _ ⟨show ((10) * ((v1 (68 + 3 * i0) 5) - (1))) + (v1 (68 + 3 * i0) 0) = (mStep np v x).1 by rw [hfin], hlo⟩ (by show Wd D classes (tysA g) s A (wC g ad1 (mStep np v x).2.1 (mStep np v x).2.2) _ _; rw [hfin]; exact hW) (by decide) (by decide) d_C_step_61
    · have nc_19 : nv v (22 + 2 * (nn x)) 1 = 0 := ni_eq e4 rfl (by omega) (by omega) c_19
      refine lv_bipush (v := (-3)) hx hb d_C_step_22 (by decide) ?_
      have hfin : mStep np v x = ((-3), np, v) := by simp only [mStep, if_pos c_5, if_pos c_19]
      exact hret _ ad _ _ _ _ _ _ ⟨show (-3) = (mStep np v x).1 by rw [hfin], fun _ _ => rfl⟩ (by show Wd D classes (tysA g) s A (wC g ad (mStep np v x).2.1 (mStep np v x).2.2) _ _; rw [hfin]; exact hW) (by decide) (by decide) d_C_step_24
  · have c_5 : ¬ (inI (x) (3)) := bo_eq hp1 c_5
    refine lv_iconst (v := (-1)) hx hb d_C_step_8 (by decide) ?_
    have hfin : mStep np v x = ((-1), np, v) := by simp only [mStep, if_neg c_5]
    exact hret _ ad _ _ _ _ _ _ ⟨show (-1) = (mStep np v x).1 by rw [hfin], fun _ _ => rfl⟩ (by show Wd D classes (tysA g) s A (wC g ad (mStep np v x).2.1 (mStep np v x).2.2) _ _; rw [hfin]; exact hW) (by decide) (by decide) d_C_step_9
end
section
/-! THE REFERENCE'S STATE. Cell 0: the object; cells 1 .. 14 the arrays of its fields 0 .. 13 (ops, as, bs, size, program, regs, counter, place, state, since, slice, code, awaited, page), 15 .. 22 those of its fields 15 .. 22 (asked, askedPage, askedWrite, memory, rights, used, owners, hints). -/
def mkM (g : Nat → ClassId) (am : Nat → Nat) (k : Nat) (r : Nat → Int32) : va_E :=
  if k = 0 then .inr (ciM, [.ref (am 1), .ref (am 2), .ref (am 3), .ref (am 4), .ref (am 5), .ref (am 6), .ref (am 7), .ref (am 8), .ref (am 9), .ref (am 10), .ref (am 11), .ref (am 12), .ref (am 13), .ref (am 14), .int (r 14), .ref (am 15), .ref (am 16), .ref (am 17), .ref (am 18), .ref (am 19), .ref (am 20), .ref (am 21), .ref (am 22), .int (r 23), .int (r 24), .int (r 25), .int (r 26), .int (r 27)])
  else if k = 17 then .inl (g 5, 8, .inl r)
  else if k ≤ 3 then .inl (g 0, 48, .inl r)
  else if k = 4 then .inl (g 0, 4, .inl r)
  else if k = 6 then .inl (g 0, 32, .inl r)
  else if k = 18 then .inl (g 0, 32, .inl r)
  else if k = 19 then .inl (g 0, 24, .inl r)
  else if k = 20 then .inl (g 0, 24, .inl r)
  else if k = 22 then .inl (g 0, 24, .inl r)
  else .inl (g 0, 8, .inl r)
abbrev wM (g : Nat → ClassId) (am : Nat → Nat) (r : Vs) : va_W := mw 23 am (mkM g am) r
section MM
variable {g : Nat → ClassId} {am : Nat → Nat} {r : Nat → Int32}
theorem mm_root : mkM g am 0 r = .inr (ciM, [.ref (am 1), .ref (am 2), .ref (am 3), .ref (am 4), .ref (am 5), .ref (am 6), .ref (am 7), .ref (am 8), .ref (am 9), .ref (am 10), .ref (am 11), .ref (am 12), .ref (am 13), .ref (am 14), .int (r 14), .ref (am 15), .ref (am 16), .ref (am 17), .ref (am 18), .ref (am 19), .ref (am 20), .ref (am 21), .ref (am 22), .int (r 23), .int (r 24), .int (r 25), .int (r 26), .int (r 27)]) := rfl
theorem mm_1 : mkM g am 1 r = .inl (g 0, 48, .inl r) := rfl
theorem mm_2 : mkM g am 2 r = .inl (g 0, 48, .inl r) := rfl
theorem mm_3 : mkM g am 3 r = .inl (g 0, 48, .inl r) := rfl
theorem mm_4 : mkM g am 4 r = .inl (g 0, 4, .inl r) := rfl
theorem mm_5 : mkM g am 5 r = .inl (g 0, 8, .inl r) := rfl
theorem mm_6 : mkM g am 6 r = .inl (g 0, 32, .inl r) := rfl
theorem mm_7 : mkM g am 7 r = .inl (g 0, 8, .inl r) := rfl
theorem mm_8 : mkM g am 8 r = .inl (g 0, 8, .inl r) := rfl
theorem mm_9 : mkM g am 9 r = .inl (g 0, 8, .inl r) := rfl
theorem mm_10 : mkM g am 10 r = .inl (g 0, 8, .inl r) := rfl
theorem mm_11 : mkM g am 11 r = .inl (g 0, 8, .inl r) := rfl
theorem mm_12 : mkM g am 12 r = .inl (g 0, 8, .inl r) := rfl
theorem mm_13 : mkM g am 13 r = .inl (g 0, 8, .inl r) := rfl
theorem mm_14 : mkM g am 14 r = .inl (g 0, 8, .inl r) := rfl
theorem mm_15 : mkM g am 15 r = .inl (g 0, 8, .inl r) := rfl
theorem mm_16 : mkM g am 16 r = .inl (g 0, 8, .inl r) := rfl
theorem mm_17 : mkM g am 17 r = .inl (g 5, 8, .inl r) := rfl
theorem mm_18 : mkM g am 18 r = .inl (g 0, 32, .inl r) := rfl
theorem mm_19 : mkM g am 19 r = .inl (g 0, 24, .inl r) := rfl
theorem mm_20 : mkM g am 20 r = .inl (g 0, 24, .inl r) := rfl
theorem mm_21 : mkM g am 21 r = .inl (g 0, 8, .inl r) := rfl
theorem mm_22 : mkM g am 22 r = .inl (g 0, 24, .inl r) := rfl
end MM
/-- what keeps the reference's indices in range -/
def okR (r : Vs) (i t : Nat) : Prop := (r 1 (12 * i + t) = 6 → okLt 4 (r 3 (12 * i + t))) ∧ (r 1 (12 * i + t) = 5 → okLt 12 (r 3 (12 * i + t)))
def OkM (r : Vs) : Prop := okLt 9 (r 0 14) ∧ (∀ j, okLt 4 (r 2 j)) ∧ (∀ j, okLt 13 (r 4 j)) ∧ (∀ j, okLt 4 (r 5 j)) ∧ (∀ j, okLt 13 (r 7 j)) ∧ (∀ j, okLt 3 (r 8 j)) ∧ (∀ j, okLt 3 (r 22 j)) ∧ ∀ i, i < 4 → ∀ t, t < nv r 4 i → okR r i t
section OKM
variable {r : Vs}
theorem OkM.made (h : OkM r) : r 0 14 = nI (nv r 0 14) ∧ nv r 0 14 < 9 := okLt_nv h.1 (by decide)
theorem OkM.le (h : OkM r) : nv r 0 14 ≤ 8 := by have := h.made.2; omega
theorem OkM.c2 (h : OkM r) (j : Nat) : r 2 j = nI (nv r 2 j) ∧ nv r 2 j < 4 := okLt_nv (h.2.1 j) (by decide)
theorem OkM.c4 (h : OkM r) (j : Nat) : r 4 j = nI (nv r 4 j) ∧ nv r 4 j < 13 := okLt_nv (h.2.2.1 j) (by decide)
theorem OkM.c5 (h : OkM r) (j : Nat) : r 5 j = nI (nv r 5 j) ∧ nv r 5 j < 4 := okLt_nv (h.2.2.2.1 j) (by decide)
theorem OkM.c7 (h : OkM r) (j : Nat) : r 7 j = nI (nv r 7 j) ∧ nv r 7 j < 13 := okLt_nv (h.2.2.2.2.1 j) (by decide)
theorem OkM.c8 (h : OkM r) (j : Nat) : r 8 j = nI (nv r 8 j) ∧ nv r 8 j < 3 := okLt_nv (h.2.2.2.2.2.1 j) (by decide)
theorem OkM.c22 (h : OkM r) (j : Nat) : r 22 j = nI (nv r 22 j) ∧ nv r 22 j < 3 := okLt_nv (h.2.2.2.2.2.2.1 j) (by decide)
/-- a store outside the programs -/
theorem OkM.set (h : OkM r) {k j : Nat} {x : Int32} (h0 : k = 0 → j = 14 → okLt 9 x) (h5 : k = 5 → okLt 4 x) (h7 : k = 7 → okLt 13 x) (h8 : k = 8 → okLt 3 x) (h22 : k = 22 → okLt 3 x) (hk : k ≠ 1 ∧ k ≠ 2 ∧ k ≠ 3 ∧ k ≠ 4) : OkM (u2 r k j x) := by
  have row : ∀ (c b : Nat), (∀ j, okLt b (r c j)) → (k = c → okLt b x) → ∀ j', okLt b (u2 r k j x c j') := by
    intro c b q1 q2 j'
    by_cases e : c = k ∧ j' = j
    · obtain ⟨rfl, rfl⟩ := e
      rw [u2_s]; exact q2 rfl
    · rw [u2_a (by omega)]; exact q1 j'
  obtain ⟨a0, a2, a4, a5, a7, a8, a22, aR⟩ := h
  refine ⟨?_, row 2 4 a2 (fun e => by omega), row 4 13 a4 (fun e => by omega), row 5 4 a5 h5, row 7 13 a7 h7, row 8 3 a8 h8, row 22 3 a22 h22, fun i hi t ht => ?_⟩
  · by_cases e : (0 : Nat) = k ∧ 14 = j
    · obtain ⟨rfl, rfl⟩ := e
      rw [u2_s]; exact h0 rfl rfl
    · rw [u2_a (by omega)]; exact a0
  · have e4 : u2 r k j x 4 = r 4 := u2_oth (by omega)
    have e1 : u2 r k j x 1 = r 1 := u2_oth (by omega)
    have e3 : u2 r k j x 3 = r 3 := u2_oth (by omega)
    unfold nv at ht
    rw [e4] at ht
    have := aR i hi t ht
    unfold okR at this ⊢
    rw [e1, e3]
    exact this
theorem OkM.fr (h : OkM r) {k j : Nat} {x : Int32} (hk : (k = 0 ∧ j ≠ 14) ∨ k = 6 ∨ (9 ≤ k ∧ k ≠ 22)) : OkM (u2 r k j x) := h.set (fun _ _ => by omega) (fun _ => by omega) (fun _ => by omega) (fun _ => by omega) (fun _ => by omega) (by omega)
end OKM
section MZ
variable {p : Program} {l : Launch} {e : Env} {R : Room} {s : State} {m : MethodId} {args : Array Value} {below : List Frame} {meth : Method} {c : Code} {H : Heap} {locs : List Loc} {cells slots : Nat} {Q : State → Prop}
variable {cc : ByteArray} {pc : Nat} {ls : Array Slot} {rest : List Value} {D : va_G} {cl : List vw_C} {A : Nat → Prop} {tys : List (ClassId × FieldType)} {n : Nat} {ad : Nat → Nat} {mk : Nat → (Nat → Int32) → va_E} {v : Vs}
theorem wz (hx : p.tables.exec = Jvm.exec) (hb : c.code = cc) (hW : Wd D cl tys s A (mw n ad mk v) H locs) (k : Nat) (hk : k < n) {cA : ClassId} {N : Nat} {f : Nat → Int32} (he : mk k (v k) = .inl (cA, N, .inl f)) (t0 : Nat) (ht : tys[t0]? = some (cA, .boolean)) (i : Nat) {x : Int32} (hxi : x = nI i) (hi : i < N) (hN : N < 2 ^ 31) (hdg : decode cc pc = .ok (.baload, 1))
    (kk : W p l e R s m args below meth c H locs cells slots Q (F0 m (pc + 1) ls (.int (f i) :: rest))) : W p l e R s m args below meth c H locs cells slots Q (F0 m pc ls (.int x :: .ref (ad k) :: rest)) := by
  subst hxi
  refine va_zald hx hb hW.1 hW.2.1 k t0 (mw_get hk he) ht (vp_in_nI hi hN) hdg ?_
  rw [nI_clamp (by omega)]
  exact kk
theorem wzs (hx : p.tables.exec = Jvm.exec) (hb : c.code = cc) (hW : Wd D cl tys s A (mw n ad mk v) H locs) (k : Nat) (hk : k < n) {cA : ClassId} {N : Nat} {f : Nat → Int32} (he : mk k (v k) = .inl (cA, N, .inl f)) (t0 : Nat) (ht : tys[t0]? = some (cA, .boolean)) (i : Nat) {y : Int32} (hyi : y = nI i) (hi : i < N) (hN : N < 2 ^ 31) {x : Int32} (hs : mk k (upd (v k) i x) = .inl (cA, N, .inl (upd f i x))) (hz : vp_nar .boolean x = x) (hdg : decode cc pc = .ok (.bastore, 1))
    (kk : ∀ (H1 : Heap) (locs1 : List Loc), Wd D cl tys s A (mw n ad mk (u2 v k i x)) H1 locs1 → W p l e R s m args below meth c H1 locs1 cells slots Q (F0 m (pc + 1) ls rest)) : W p l e R s m args below meth c H locs cells slots Q (F0 m pc ls (.int x :: .int y :: .ref (ad k) :: rest)) := by
  subst hyi
  refine va_zast hx hb hW.1 hW.2.1 hW.2.2.1 hW.2.2.2 k t0 (mw_get hk he) ht (vp_in_nI hi hN) hdg (fun H1 locs1 h1 h2 h3 => kk H1 locs1 ?_)
  rw [nI_clamp (by omega), hz, mw_set hk hs] at h1 h2
  exact ⟨hW.1, h1, h2, h3⟩
end MZ
abbrev outP (x n : Int32) : Prop := x < 0 ∨ n < x
theorem nout_nn {x n : Int32} {N : Nat} (hn : n = nI N) (hN : N < 2 ^ 31) (h : ¬ outP x n) : x = nI (nn x) ∧ nn x < N + 1 := by
  obtain ⟨j, hj, e⟩ := nI_of (fun c => h (Or.inl c))
  have h1 : nn x = j := by rw [nn, e, nI_clamp hj]
  have h2 : ¬ N < j := fun c => h (Or.inr (by rw [hn, e]; exact (nI_ltI hN hj).mpr c))
  rw [h1]
  exact ⟨e, by omega⟩
abbrev npP (r : Vs) (x : Int32) : Prop := x < 0 ∨ r 0 14 ≤ x
theorem nnp_nn {r : Vs} (hO : OkM r) {x : Int32} (h : ¬ npP r x) : x = nI (nn x) ∧ nn x < nv r 0 14 := by
  have hm := hO.made
  obtain ⟨j, hj, e⟩ := nI_of (fun c => h (Or.inl c))
  have h1 : nn x = j := by rw [nn, e, nI_clamp hj]
  have h2 : ¬ nv r 0 14 ≤ j := fun c => h (Or.inr (by rw [hm.1, e]; exact (nI_leI (by omega) hj).mpr c))
  rw [h1]
  exact ⟨e, by omega⟩
end
section
/-! WHAT THE REFERENCE'S METHODS DO -/
theorem i_le {x y : Int32} (h : ¬ x < y) : y ≤ x := Int32.le_iff_toInt_le.mpr (Int.not_lt.mp fun c => h (Int32.lt_iff_toInt_lt.mpr c))
def mTick (r : Vs) : Vs := u2 r 0 23 (r 0 23 + 1)
def mIns2 (r : Vs) (x op a b : Int32) : Int32 × Vs := if r 4 (nn x) = 12 then (-2, r) else
  let t := 12 * nn x + nv r 4 (nn x)
  let r1 := u2 r 1 t op
  let r2 := u2 r1 2 t a
  let r3 := u2 r2 3 t b
  let r4 := u2 r3 4 (nn x) (r3 4 (nn x) + 1)
  (r4 4 (nn x), r4)
def mIns (r : Vs) (x op a b : Int32) : Int32 × Vs :=
  if outP x 3 then (-1, r) else if outP op 12 then (-1, r) else if outP a 3 then (-1, r)
  else if op = 0 then (if b < -1000 then (-1, r) else if b ≤ 1000 then mIns2 r x op a b else (-1, r))
  else if op = 5 then (if outP b 11 then (-1, r) else mIns2 r x op a b)
  else (if outP b 3 then (-1, r) else mIns2 r x op a b)
def mRdy (r : Vs) (p : Nat) : Vs :=
  let r1 := u2 r 9 p 1
  let r2 := mTick r1
  let r3 := u2 r2 10 p (r2 0 23)
  let r4 := u2 r3 11 p 0
  u2 r4 14 p 8
def mMk0 (r : Vs) (x y : Int32) : Vs :=
  let p := nv r 0 14
  let r1 := u2 r 0 14 (r 0 14 + 1)
  let r2 := u2 r1 5 p x
  let r3 := u2 r2 8 p y
  let r4 := u2 r3 22 (8 * 0 + p) y
  let r5 := u2 r4 22 (8 * 1 + p) y
  let r6 := u2 r5 22 (8 * 2 + p) y
  mRdy r6 p
def mMake (r : Vs) (x y : Int32) : Int32 × Vs := if r 0 14 = 8 then (-1, r) else (r 0 14, mMk0 r x y)
def mSpw (r : Vs) (x y : Int32) : Int32 × Vs :=
  if outP x 3 then (-1, r) else if outP y 2 then (-1, r) else if 0 ≤ (mMake r x y).1 then mMake r x y else (-2, (mMake r x y).2)
abbrev edP (r : Vs) (x : Int32) : Prop := ¬ npP r x ∧ r 9 (nn x) = 4
def mEndL (x : Int32) : Nat → Nat → Vs → Vs
  | 0, _, r => r
  | k + 1, q, r => mEndL x k (q + 1) (if r 9 q = 3 then (if r 13 q = x then mRdy r q else r) else r)
def mEnd (r : Vs) (x : Int32) (p : Nat) (y : Int32) : Vs := mEndL x (nv r 0 14) 0 (u2 (u2 (u2 r 9 p 4) 12 p y) 14 p 8)
/-- the right that a process has to a word's page -/
def mRt (r : Vs) (p t : Nat) : Int32 := r 19 (8 * nv r 8 p + t / 4)
abbrev fltP (r : Vs) (p : Nat) (op : Int32) (t : Nat) : Prop := (¬ op < 2 ∧ op ≤ 4) ∧ (¬ mRt r p t = 2 ∧ ¬ (mRt r p t = 1 ∧ op = 2))
def mFl0 (r : Vs) (p : Nat) (op y : Int32) : Vs :=
  let r1 := u2 r 0 25 (r 0 25 + 1)
  let r2 := u2 r1 9 p 2
  let r3 := u2 r2 14 p (y / 4)
  let r4 := mTick r3
  let r5 := u2 r4 15 p (r4 0 23)
  let r6 := u2 r5 16 p (y / 4)
  if op = 2 then u2 r6 17 p 0 else u2 r6 17 p 1
def mFault (r : Vs) (p : Nat) (op y : Int32) (t : Nat) : Vs := if fltP r p op t then mFl0 r p op y else r
def mTch0 (r : Vs) (p : Nat) (op : Int32) (a t : Nat) : Vs :=
  if op = 2 then u2 r 6 a (r 18 t) else if op = 3 then u2 r 18 t (r 6 a)
  else if r 18 t = r 6 (4 * p + 3) then (let r1 := u2 r 18 t (r 6 a)
    u2 r1 6 (4 * p + 3) 1) else u2 r 6 (4 * p + 3) 0
def mTch (r : Vs) (p : Nat) (op : Int32) (a t : Nat) : Vs :=
  let r1 := mTch0 r p op a t
  let r2 := mTick r1
  u2 r2 20 (8 * nv r1 8 p + t / 4) (r2 0 23)
section OKN
variable {r : Vs}
theorem OkM.tick (h : OkM r) : OkM (mTick r) := h.fr (by omega)
theorem OkM.rdy (h : OkM r) {p : Nat} : OkM (mRdy r p) := ((((h.fr (by omega)).tick.fr (by omega)).fr (by omega)).fr (by omega))
theorem OkM.pr (h : OkM r) {j : Nat} {x : Int32} (hx : okLt 4 x) : OkM (u2 r 5 j x) := h.set (fun a => absurd a (by decide)) (fun _ => hx) (fun a => absurd a (by decide)) (fun a => absurd a (by decide)) (fun a => absurd a (by decide)) (by decide)
theorem OkM.pl (h : OkM r) {j : Nat} {x : Int32} (hx : okLt 3 x) : OkM (u2 r 8 j x) := h.set (fun a => absurd a (by decide)) (fun a => absurd a (by decide)) (fun a => absurd a (by decide)) (fun _ => hx) (fun a => absurd a (by decide)) (by decide)
theorem OkM.hi (h : OkM r) {j : Nat} {x : Int32} (hx : okLt 3 x) : OkM (u2 r 22 j x) := h.set (fun a => absurd a (by decide)) (fun a => absurd a (by decide)) (fun a => absurd a (by decide)) (fun a => absurd a (by decide)) (fun _ => hx) (by decide)
theorem OkM.ct (h : OkM r) {j : Nat} {x : Int32} (hx : okLt 13 x) : OkM (u2 r 7 j x) := h.set (fun a => absurd a (by decide)) (fun a => absurd a (by decide)) (fun _ => hx) (fun a => absurd a (by decide)) (fun a => absurd a (by decide)) (by decide)
theorem OkM.mk0 (h : OkM r) {x y : Int32} (h8 : ¬ r 0 14 = 8) (hx : okLt 4 x) (hy : okLt 3 y) : OkM (mMk0 r x y) := by
  have hm := h.made
  have h1 : OkM (u2 r 0 14 (r 0 14 + 1)) := by
    refine h.set (fun _ _ => ⟨nv r 0 14 + 1, ?_, ni_add hm.1 rfl⟩) (fun a => absurd a (by decide)) (fun a => absurd a (by decide)) (fun a => absurd a (by decide)) (fun a => absurd a (by decide)) (by decide)
    have : ¬ nv r 0 14 = 8 := fun e => h8 (by rw [hm.1, e]; rfl)
    omega
  exact (((((h1.pr hx).pl hy).hi hy).hi hy).hi hy).rdy
theorem OkM.make (h : OkM r) {x y : Int32} (hx : okLt 4 x) (hy : okLt 3 y) : OkM (mMake r x y).2 := by
  unfold mMake
  split
  · exact h
  · next c => exact h.mk0 c hx hy
theorem OkM.spw (h : OkM r) {x y : Int32} : OkM (mSpw r x y).2 := by
  unfold mSpw
  split
  · exact h
  · next c1 =>
    split
    · exact h
    · next c2 =>
      have q1 := nout_nn (N := 3) rfl (by omega) c1
      have q2 := nout_nn (N := 2) rfl (by omega) c2
      have hm := h.make (x := x) (y := y) ⟨_, q1.2, q1.1⟩ ⟨_, q2.2, q2.1⟩
      split
      · exact hm
      · exact hm
theorem OkM.endL {x : Int32} : ∀ (k q : Nat) (r : Vs), OkM r → OkM (mEndL x k q r) := by
  intro k
  induction k with
  | zero => exact fun q r h => h
  | succ k ih =>
    intro q r h
    refine ih _ _ ?_
    split
    · split
      · exact h.rdy
      · exact h
    · exact h
theorem OkM.end (h : OkM r) {x y : Int32} {p : Nat} : OkM (mEnd r x p y) := OkM.endL _ _ _ (((h.fr (by omega)).fr (by omega)).fr (by omega))
theorem OkM.fl0 (h : OkM r) {p : Nat} {op y : Int32} : OkM (mFl0 r p op y) := by
  have h6 := ((((h.fr (k := 0) (j := 25) (x := r 0 25 + 1) (by omega)).fr (k := 9) (j := p) (x := 2) (by omega)).fr (k := 14) (j := p) (x := y / 4) (by omega)).tick)
  unfold mFl0
  dsimp only
  split
  · exact ((h6.fr (by omega)).fr (by omega)).fr (by omega)
  · exact ((h6.fr (by omega)).fr (by omega)).fr (by omega)
theorem OkM.fault (h : OkM r) {p t : Nat} {op y : Int32} : OkM (mFault r p op y t) := by
  unfold mFault
  split
  · exact h.fl0
  · exact h
theorem OkM.tch0 (h : OkM r) {p a t : Nat} {op : Int32} : OkM (mTch0 r p op a t) := by
  unfold mTch0
  dsimp only
  split
  · exact h.fr (by omega)
  · split
    · exact h.fr (by omega)
    · split
      · exact (h.fr (by omega)).fr (by omega)
      · exact h.fr (by omega)
theorem OkM.tch (h : OkM r) {p a t : Nat} {op : Int32} : OkM (mTch r p op a t) := h.tch0.tick.fr (by omega)
theorem mRdy_m {p : Nat} : mRdy r p 0 14 = r 0 14 := by
  unfold mRdy mTick
  rw [u2_a (by omega), u2_a (by omega), u2_a (by omega), u2_a (by omega), u2_a (by omega)]
theorem mRdy_p {p : Nat} : mRdy r p 8 = r 8 := by
  unfold mRdy mTick
  rw [u2_oth (by omega), u2_oth (by omega), u2_oth (by omega), u2_oth (by omega), u2_oth (by omega)]
end OKN
end
section
abbrev rm_M_tick : Room := { frames := 0, cells := 0, slots := 0, locals := 0 }
set_option maxHeartbeats 4000000 in
set_option maxRecDepth 100000 in
theorem c_M_tick (l : Launch) {D : va_G} {g : Nat → ClassId} {am : Nat → Nat} {r : Vs} (hO : OkM r) : MtI l y_M_tick ws_M_tick rm_M_tick D classes (tysA g) [.ref (am (0))] (wM g am (r)) (fun (rr : Int32) (_ : Unit) => rr = mTick r 0 23) (fun _ => wM g am (mTick r)) 0 0 := by
  refine mt_i (ty := .int) (fun _ _ _ => rfl) (by decide +kernel) rfl (Nat.le_of_ble_eq_true rfl) (fun p e s m args below meth c Q A C hA hW hret ls hl => ?_)
  obtain ⟨hx, hb, hr, hml, hown, hts0, hlocks⟩ := C
  have hts : ∀ w ∈ bigw, w.before args s = true := fun w h => hts0 w (List.mem_cons_of_mem _ h)
  have hown : s.vm.findClass R_M = some m.cls := hown
  have hnp := hO.le
  have hl : lv_has ls 1 [(0, .ref (am (0)))] := hl
  refine lv_aload_n hx hb d_M_tick_0 rfl (lv_at hl 0 rfl) ?_
  refine lv_dup hx hb d_M_tick_1 rfl ?_
  refine wg hx hb hts i_M hown hW (0) (by omega) mm_root rfl 23 (by decide) (hts _ kf_M_77) rfl d_M_tick_2 ?_
  refine lv_iconst (v := 1) hx hb d_M_tick_5 (by decide) ?_
  refine lv_iadd hx hb d_M_tick_6 ?_
  refine wp hx hb hts i_M t_M t_M_ok n_M hown hW (0) (by omega) mm_root rfl 23 (by decide) (hts _ kf_M_77) rfl (by decide +kernel) (x := (r 0 23) + (1)) (Nat.le_of_ble_eq_true rfl) (mm_root.trans rfl) d_M_tick_7 (fun H locs hW => ?_)
  obtain ⟨mr1, ev1⟩ : ∃ z : Vs, z = u2 r (0) 23 ((r 0 23) + (1)) := ⟨_, rfl⟩
  rw [← ev1] at hW
  have hO1 : OkM mr1 := by rw [ev1]; exact hO.fr (by omega)
  refine lv_aload_n hx hb d_M_tick_10 rfl (lv_at hl 0 rfl) ?_
  refine wg hx hb hts i_M hown hW (0) (by omega) mm_root rfl 23 (by decide) (hts _ kf_M_77) rfl d_M_tick_11 ?_
  have hfin : mTick r = mr1 := by
    subst ev1
    rfl
  refine hret _ () _ _ _ _ _ _ ?_ (by show Wd D classes (tysA g) s A (wM g am (mTick r)) _ _; rw [hfin]; exact hW) (by decide) (by decide) d_M_tick_14
  show mr1 0 23 = mTick r 0 23
  rw [hfin]
abbrev rm_M_out : Room := { frames := 0, cells := 0, slots := 0, locals := 0 }
set_option maxHeartbeats 4000000 in
set_option maxRecDepth 100000 in
theorem c_M_out (l : Launch) {D : va_G} {cl : List vw_C} {tys : List (ClassId × FieldType)} (w : va_W) (x : Int32) (n : Int32) : MtI l y_M_out ws_M_out rm_M_out D cl tys [.int (x), .int (n)] (w) (fun (rr : Int32) (_ : Unit) => rr = if outP x n then 1 else 0) (fun _ => w) 0 0 := by
  refine mt_i (ty := .boolean) (fun r _ h => by rw [h]; split <;> rfl) (by decide +kernel) rfl (Nat.le_of_ble_eq_true rfl) (fun p e s m args below meth c Q A C hA hW hret ls hl => ?_)
  obtain ⟨hx, hb, hr, hml, hown, hts0, hlocks⟩ := C
  have hts : ∀ w ∈ bigw, w.before args s = true := fun w h => hts0 w (List.mem_cons_of_mem _ h)
  have hown : s.vm.findClass R_M = some m.cls := hown
  have hl : lv_has ls 2 [(0, .int (x)), (1, .int (n))] := hl
  refine lv_iload_n hx hb d_M_out_0 rfl (lv_at hl 0 rfl) ?_
  refine lv_if_lt (tgt := 9) hx hb d_M_out_1 (by decide) (fun c_1 => ?_) (fun c_1 => ?_)
  · refine lv_iconst (v := 1) hx hb d_M_out_9 (by decide) ?_
    refine lv_goto (tgt := 14) hx hb d_M_out_10 (by decide) ?_
    refine hret _ () _ _ _ _ _ _ ?_ hW (by decide) (by decide) d_M_out_14
    show 1 = if outP x n then (1 : Int32) else 0
    exact ite_t (Or.inl c_1)
  · refine lv_iload_n hx hb d_M_out_4 rfl (lv_at hl 0 rfl) ?_
    refine lv_iload_n hx hb d_M_out_5 rfl (lv_at hl 1 rfl) ?_
    refine lv_icmp_le (tgt := 13) hx hb d_M_out_6 (by decide) (fun c_6 => ?_) (fun c_6 => ?_)
    · refine lv_iconst (v := 0) hx hb d_M_out_13 (by decide) ?_
      refine hret _ () _ _ _ _ _ _ ?_ hW (by decide) (by decide) d_M_out_14
      show 0 = if outP x n then (1 : Int32) else 0
      exact ite_f (fun h => h.elim c_1 (fun q => i_nlt c_6 q))
    · refine lv_iconst (v := 1) hx hb d_M_out_9 (by decide) ?_
      refine lv_goto (tgt := 14) hx hb d_M_out_10 (by decide) ?_
      refine hret _ () _ _ _ _ _ _ ?_ hW (by decide) (by decide) d_M_out_14
      show 1 = if outP x n then (1 : Int32) else 0
      exact ite_t (Or.inr (i_lt c_6))
abbrev rm_M_noProcess : Room := { frames := 0, cells := 0, slots := 0, locals := 0 }
set_option maxHeartbeats 4000000 in
set_option maxRecDepth 100000 in
theorem c_M_noProcess (l : Launch) {D : va_G} {g : Nat → ClassId} {am : Nat → Nat} {r : Vs} (x : Int32) (hO : OkM r) : MtI l y_M_noProcess ws_M_noProcess rm_M_noProcess D classes (tysA g) [.ref (am (0)), .int (x)] (wM g am (r)) (fun (rr : Int32) (_ : Unit) => rr = if npP r x then 1 else 0) (fun _ => wM g am (r)) 0 0 := by
  refine mt_i (ty := .boolean) (fun r _ h => by rw [h]; split <;> rfl) (by decide +kernel) rfl (Nat.le_of_ble_eq_true rfl) (fun p e s m args below meth c Q A C hA hW hret ls hl => ?_)
  obtain ⟨hx, hb, hr, hml, hown, hts0, hlocks⟩ := C
  have hts : ∀ w ∈ bigw, w.before args s = true := fun w h => hts0 w (List.mem_cons_of_mem _ h)
  have hown : s.vm.findClass R_M = some m.cls := hown
  have hnp := hO.le
  have hl : lv_has ls 2 [(0, .ref (am (0))), (1, .int (x))] := hl
  refine lv_iload_n hx hb d_M_noProcess_0 rfl (lv_at hl 1 rfl) ?_
  refine lv_if_lt (tgt := 12) hx hb d_M_noProcess_1 (by decide) (fun c_1 => ?_) (fun c_1 => ?_)
  · refine lv_iconst (v := 1) hx hb d_M_noProcess_12 (by decide) ?_
    refine lv_goto (tgt := 17) hx hb d_M_noProcess_13 (by decide) ?_
    refine hret _ () _ _ _ _ _ _ ?_ hW (by decide) (by decide) d_M_noProcess_17
    show 1 = if npP r x then (1 : Int32) else 0
    exact ite_t (Or.inl c_1)
  · refine lv_iload_n hx hb d_M_noProcess_4 rfl (lv_at hl 1 rfl) ?_
    refine lv_aload_n hx hb d_M_noProcess_5 rfl (lv_at hl 0 rfl) ?_
    refine wg hx hb hts i_M hown hW (0) (by omega) mm_root rfl 14 (by decide) (hts _ kf_M_81) rfl d_M_noProcess_6 ?_
    refine lv_icmp_lt (tgt := 16) hx hb d_M_noProcess_9 (by decide) (fun c_9 => ?_) (fun c_9 => ?_)
    · refine lv_iconst (v := 0) hx hb d_M_noProcess_16 (by decide) ?_
      refine hret _ () _ _ _ _ _ _ ?_ hW (by decide) (by decide) d_M_noProcess_17
      show 0 = if npP r x then (1 : Int32) else 0
      exact ite_f (fun h => h.elim c_1 (fun q => i_nlt q c_9))
    · refine lv_iconst (v := 1) hx hb d_M_noProcess_12 (by decide) ?_
      refine lv_goto (tgt := 17) hx hb d_M_noProcess_13 (by decide) ?_
      refine hret _ () _ _ _ _ _ _ ?_ hW (by decide) (by decide) d_M_noProcess_17
      show 1 = if npP r x then (1 : Int32) else 0
      exact ite_t (Or.inr (i_le c_9))
abbrev rm_M_instr : Room := { frames := 1, cells := 0, slots := 0, locals := 21 }
set_option maxHeartbeats 4000000 in
set_option maxRecDepth 100000 in
theorem c_M_instr (l : Launch) {D : va_G} {g : Nat → ClassId} {am : Nat → Nat} {r : Vs} (x : Int32) (op : Int32) (a : Int32) (b : Int32) (hO : OkM r) : MtI l y_M_instr ws_M_instr rm_M_instr D classes (tysA g) [.ref (am (0)), .int (x), .int (op), .int (a), .int (b)] (wM g am (r)) (fun (rr : Int32) (_ : Unit) => rr = (mIns r x op a b).1) (fun _ => wM g am ((mIns r x op a b).2)) 0 0 := by
  refine mt_i (ty := .int) (fun _ _ _ => rfl) (by decide +kernel) rfl (Nat.le_of_ble_eq_true rfl) (fun p e s m args below meth c Q A C hA hW hret ls hl => ?_)
  obtain ⟨hx, hb, hr, hml, hown, hts0, hlocks⟩ := C
  have hts : ∀ w ∈ bigw, w.before args s = true := fun w h => hts0 w (List.mem_cons_of_mem _ h)
  have hown : s.vm.findClass R_M = some m.cls := hown
  have hnp := hO.le
  have hl : lv_has ls 7 [(0, .ref (am (0))), (1, .int (x)), (2, .int (op)), (3, .int (a)), (4, .int (b))] := hl
  refine lv_iload_n hx hb d_M_instr_0 rfl (lv_at hl 1 rfl) ?_
  refine lv_iconst (v := 3) hx hb d_M_instr_1 (by decide) ?_
  refine wci hW hA (va_runS (As := [.int (x), .int (3)]) (rest := []) ⟨hx, hb, hml, hown, hts⟩ (c_M_out l _ (x) (3) _) (cs 2 hts kc_M_out ks_M_out kn_M km_M_84 kh_M_out rfl rfl ⟨by decide, by decide⟩) (preWS hW) rfl rfl hl.1 rfl (lv_room (Nat.le_of_ble_eq_true rfl)) d_M_instr_2 ⟨by decide, by decide⟩) (fun rr1 uu1 H locs hp1 hW => ?_)
  have hW : Wd D classes (tysA g) s A (wM g am (r)) H locs := hW
  have hp1 : rr1 = if outP (x) (3) then 1 else 0 := hp1
  refine lv_if_ne (tgt := 25) hx hb d_M_instr_5 (by decide) (fun c_5 => ?_) (fun c_5 => ?_)
  · have c_5 : outP (x) (3) := bo_ne hp1 c_5
    refine lv_iconst (v := (-1)) hx hb d_M_instr_25 (by decide) ?_
    have hfin : mIns r x op a b = ((-1), r) := by
      skip; simp only [mIns, mIns2, if_pos c_5]
    refine hret _ () _ _ _ _ _ _ ?_ (by show Wd D classes (tysA g) s A (wM g am ((mIns r x op a b).2)) _ _; rw [hfin]; exact hW) (by decide) (by decide) d_M_instr_26
    show (-1) = (mIns r x op a b).1
    rw [hfin]
  · have c_5 : ¬ (outP (x) (3)) := bo_eq hp1 c_5
    obtain ⟨e2, b2⟩ := nout_nn (N := 3) rfl (by omega) c_5
    refine lv_iload_n hx hb d_M_instr_8 rfl (lv_at hl 2 rfl) ?_
    refine lv_bipush (v := 12) hx hb d_M_instr_9 (by decide) ?_
    refine wci hW hA (va_runS (As := [.int (op), .int (12)]) (rest := []) ⟨hx, hb, hml, hown, hts⟩ (c_M_out l _ (op) (12) _) (cs 2 hts kc_M_out ks_M_out kn_M km_M_84 kh_M_out rfl rfl ⟨by decide, by decide⟩) (preWS hW) rfl rfl hl.1 rfl (lv_room (Nat.le_of_ble_eq_true rfl)) d_M_instr_11 ⟨by decide, by decide⟩) (fun rr3 uu3 H locs hp3 hW => ?_)
    have hW : Wd D classes (tysA g) s A (wM g am (r)) H locs := hW
    have hp3 : rr3 = if outP (op) (12) then 1 else 0 := hp3
    refine lv_if_ne (tgt := 25) hx hb d_M_instr_14 (by decide) (fun c_14 => ?_) (fun c_14 => ?_)
    · have c_14 : outP (op) (12) := bo_ne hp3 c_14
      refine lv_iconst (v := (-1)) hx hb d_M_instr_25 (by decide) ?_
      have hfin : mIns r x op a b = ((-1), r) := by
        skip; simp only [mIns, mIns2, if_neg c_5, if_pos c_14]
      refine hret _ () _ _ _ _ _ _ ?_ (by show Wd D classes (tysA g) s A (wM g am ((mIns r x op a b).2)) _ _; rw [hfin]; exact hW) (by decide) (by decide) d_M_instr_26
      show (-1) = (mIns r x op a b).1
      rw [hfin]
    · have c_14 : ¬ (outP (op) (12)) := bo_eq hp3 c_14
      obtain ⟨e4, b4⟩ := nout_nn (N := 12) rfl (by omega) c_14
      refine lv_iload_n hx hb d_M_instr_17 rfl (lv_at hl 3 rfl) ?_
      refine lv_iconst (v := 3) hx hb d_M_instr_18 (by decide) ?_
      refine wci hW hA (va_runS (As := [.int (a), .int (3)]) (rest := []) ⟨hx, hb, hml, hown, hts⟩ (c_M_out l _ (a) (3) _) (cs 2 hts kc_M_out ks_M_out kn_M km_M_84 kh_M_out rfl rfl ⟨by decide, by decide⟩) (preWS hW) rfl rfl hl.1 rfl (lv_room (Nat.le_of_ble_eq_true rfl)) d_M_instr_19 ⟨by decide, by decide⟩) (fun rr5 uu5 H locs hp5 hW => ?_)
      have hW : Wd D classes (tysA g) s A (wM g am (r)) H locs := hW
      have hp5 : rr5 = if outP (a) (3) then 1 else 0 := hp5
      refine lv_if_eq (tgt := 27) hx hb d_M_instr_22 (by decide) (fun c_22 => ?_) (fun c_22 => ?_)
      · have c_22 : ¬ (outP (a) (3)) := bo_eq hp5 c_22
        obtain ⟨e6, b6⟩ := nout_nn (N := 3) rfl (by omega) c_22
        refine lv_iload_n hx hb d_M_instr_27 rfl (lv_at hl 2 rfl) ?_
        refine lv_if_ne (tgt := 55) hx hb d_M_instr_28 (by decide) (fun c_28 => ?_) (fun c_28 => ?_)
        · have nc_28 : ¬ nn op = 0 := ni_ne e4 rfl (by omega) (by omega) c_28
          refine lv_iload_n hx hb d_M_instr_55 rfl (lv_at hl 2 rfl) ?_
          refine lv_iconst (v := 5) hx hb d_M_instr_56 (by decide) ?_
          refine lv_icmp_ne (tgt := 70) hx hb d_M_instr_57 (by decide) (fun c_57 => ?_) (fun c_57 => ?_)
          · have nc_57 : ¬ nn op = 5 := ni_ne e4 rfl (by omega) (by omega) c_57
            refine lv_iload hx hb d_M_instr_70 (lv_at hl 4 rfl) ?_
            refine lv_iconst (v := 3) hx hb d_M_instr_72 (by decide) ?_
            refine wci hW hA (va_runS (As := [.int (b), .int (3)]) (rest := []) ⟨hx, hb, hml, hown, hts⟩ (c_M_out l _ (b) (3) _) (cs 2 hts kc_M_out ks_M_out kn_M km_M_84 kh_M_out rfl rfl ⟨by decide, by decide⟩) (preWS hW) rfl rfl hl.1 rfl (lv_room (Nat.le_of_ble_eq_true rfl)) d_M_instr_73 ⟨by decide, by decide⟩) (fun rr7 uu7 H locs hp7 hW => ?_)
            have hW : Wd D classes (tysA g) s A (wM g am (r)) H locs := hW
            have hp7 : rr7 = if outP (b) (3) then 1 else 0 := hp7
            refine lv_istore (lv' := [(5, .int (rr7)), (0, .ref (am (0))), (1, .int (x)), (2, .int (op)), (3, .int (a)), (4, .int (b))]) hx hb d_M_instr_76 hl (by decide) rfl (fun ls hl => ?_)
            refine lv_iload hx hb d_M_instr_78 (lv_at hl 0 rfl) ?_
            refine lv_if_eq (tgt := 85) hx hb d_M_instr_80 (by decide) (fun c_80 => ?_) (fun c_80 => ?_)
            · have c_80 : ¬ (outP (b) (3)) := bo_eq hp7 c_80
              obtain ⟨e8, b8⟩ := nout_nn (N := 3) rfl (by omega) c_80
              refine lv_aload_n hx hb d_M_instr_85 rfl (lv_at hl 1 rfl) ?_
              refine wg hx hb hts i_M hown hW (0) (by omega) mm_root rfl 3 (by decide) (hts _ kf_M_19) rfl d_M_instr_86 ?_
              refine lv_iload_n hx hb d_M_instr_89 rfl (lv_at hl 2 rfl) ?_
              refine wi hx hb hW (4) (by omega) mm_4 0 rfl (nn x) e2 (by omega) (by decide) d_M_instr_90 ?_
              obtain ⟨e9, b9⟩ := hO.c4 (nn x)
              refine lv_bipush (v := 12) hx hb d_M_instr_91 (by decide) ?_
              refine lv_icmp_ne (tgt := 99) hx hb d_M_instr_93 (by decide) (fun c_93 => ?_) (fun c_93 => ?_)
              · have nc_93 : ¬ nv r (4) (nn x) = 12 := ni_ne e9 rfl (by omega) (by omega) c_93
                refine lv_bipush (v := 12) hx hb d_M_instr_99 (by decide) ?_
                refine lv_iload_n hx hb d_M_instr_101 rfl (lv_at hl 2 rfl) ?_
                refine lv_imul hx hb d_M_instr_102 ?_
                refine lv_aload_n hx hb d_M_instr_103 rfl (lv_at hl 1 rfl) ?_
                refine wg hx hb hts i_M hown hW (0) (by omega) mm_root rfl 3 (by decide) (hts _ kf_M_19) rfl d_M_instr_104 ?_
                refine lv_iload_n hx hb d_M_instr_107 rfl (lv_at hl 2 rfl) ?_
                refine wi hx hb hW (4) (by omega) mm_4 0 rfl (nn x) e2 (by omega) (by decide) d_M_instr_108 ?_
                obtain ⟨e10, b10⟩ := hO.c4 (nn x)
                refine lv_iadd hx hb d_M_instr_109 ?_
                refine lv_istore (lv' := [(6, .int (((12) * (x)) + (r (4) (nn x)))), (5, .int (rr7)), (0, .ref (am (0))), (1, .int (x)), (2, .int (op)), (3, .int (a)), (4, .int (b))]) hx hb d_M_instr_110 hl (by decide) rfl (fun ls hl => ?_)
                refine lv_aload_n hx hb d_M_instr_112 rfl (lv_at hl 2 rfl) ?_
                refine wg hx hb hts i_M hown hW (0) (by omega) mm_root rfl 0 (by decide) (hts _ kf_M_7) rfl d_M_instr_113 ?_
                refine lv_iload hx hb d_M_instr_116 (lv_at hl 0 rfl) ?_
                refine lv_iload_n hx hb d_M_instr_118 rfl (lv_at hl 4 rfl) ?_
                refine wis hx hb hW (1) (by omega) mm_1 0 rfl (12 * (nn x) + nv r (4) (nn x)) (ni_add (ni_mul rfl e2) e10) (by omega) (by decide) (x := op) mm_1 d_M_instr_119 (fun H locs hW => ?_)
                obtain ⟨mr11, ev11⟩ : ∃ z : Vs, z = u2 r (1) (12 * (nn x) + nv r (4) (nn x)) (op) := ⟨_, rfl⟩
                rw [← ev11] at hW
                refine lv_aload_n hx hb d_M_instr_120 rfl (lv_at hl 2 rfl) ?_
                refine wg hx hb hts i_M hown hW (0) (by omega) mm_root rfl 1 (by decide) (hts _ kf_M_13) rfl d_M_instr_121 ?_
                refine lv_iload hx hb d_M_instr_124 (lv_at hl 0 rfl) ?_
                refine lv_iload_n hx hb d_M_instr_126 rfl (lv_at hl 5 rfl) ?_
                refine wis hx hb hW (2) (by omega) mm_2 0 rfl (12 * (nn x) + nv r (4) (nn x)) (ni_add (ni_mul rfl e2) e10) (by omega) (by decide) (x := a) mm_2 d_M_instr_127 (fun H locs hW => ?_)
                obtain ⟨mr12, ev12⟩ : ∃ z : Vs, z = u2 mr11 (2) (12 * (nn x) + nv r (4) (nn x)) (a) := ⟨_, rfl⟩
                rw [← ev12] at hW
                refine lv_aload_n hx hb d_M_instr_128 rfl (lv_at hl 2 rfl) ?_
                refine wg hx hb hts i_M hown hW (0) (by omega) mm_root rfl 2 (by decide) (hts _ kf_M_16) rfl d_M_instr_129 ?_
                refine lv_iload hx hb d_M_instr_132 (lv_at hl 0 rfl) ?_
                refine lv_iload hx hb d_M_instr_134 (lv_at hl 6 rfl) ?_
                refine wis hx hb hW (3) (by omega) mm_3 0 rfl (12 * (nn x) + nv r (4) (nn x)) (ni_add (ni_mul rfl e2) e10) (by omega) (by decide) (x := b) mm_3 d_M_instr_136 (fun H locs hW => ?_)
                obtain ⟨mr13, ev13⟩ : ∃ z : Vs, z = u2 mr12 (3) (12 * (nn x) + nv r (4) (nn x)) (b) := ⟨_, rfl⟩
                rw [← ev13] at hW
                refine lv_aload_n hx hb d_M_instr_137 rfl (lv_at hl 2 rfl) ?_
                refine wg hx hb hts i_M hown hW (0) (by omega) mm_root rfl 3 (by decide) (hts _ kf_M_19) rfl d_M_instr_138 ?_
                refine lv_iload_n hx hb d_M_instr_141 rfl (lv_at hl 3 rfl) ?_
                refine lv_dup2_11 hx hb d_M_instr_142 rfl rfl ?_
                refine wi hx hb hW (4) (by omega) mm_4 0 rfl (nn x) e2 (by omega) (by decide) d_M_instr_143 ?_
                refine lv_iconst (v := 1) hx hb d_M_instr_144 (by decide) ?_
                refine lv_iadd hx hb d_M_instr_145 ?_
                refine wis hx hb hW (4) (by omega) mm_4 0 rfl (nn x) e2 (by omega) (by decide) (x := (mr13 (4) (nn x)) + (1)) mm_4 d_M_instr_146 (fun H locs hW => ?_)
                obtain ⟨mr14, ev14⟩ : ∃ z : Vs, z = u2 mr13 (4) (nn x) ((mr13 (4) (nn x)) + (1)) := ⟨_, rfl⟩
                rw [← ev14] at hW
                refine lv_aload_n hx hb d_M_instr_147 rfl (lv_at hl 2 rfl) ?_
                refine wg hx hb hts i_M hown hW (0) (by omega) mm_root rfl 3 (by decide) (hts _ kf_M_19) rfl d_M_instr_148 ?_
                refine lv_iload_n hx hb d_M_instr_151 rfl (lv_at hl 3 rfl) ?_
                refine wi hx hb hW (4) (by omega) mm_4 0 rfl (nn x) e2 (by omega) (by decide) d_M_instr_152 ?_
                have hfin : mIns r x op a b = (mr14 (4) (nn x), mr14) := by
                  subst ev14 ev13 ev12 ev11; simp only [mIns, mIns2, if_neg c_5, if_neg c_14, if_neg c_22, if_neg c_28, if_neg c_57, if_neg c_80, if_neg c_93]
                refine hret _ () _ _ _ _ _ _ ?_ (by show Wd D classes (tysA g) s A (wM g am ((mIns r x op a b).2)) _ _; rw [hfin]; exact hW) (by decide) (by decide) d_M_instr_153
                show mr14 (4) (nn x) = (mIns r x op a b).1
                rw [hfin]
              · have nc_93 : nv r (4) (nn x) = 12 := ni_eq e9 rfl (by omega) (by omega) c_93
                refine lv_bipush (v := (-2)) hx hb d_M_instr_96 (by decide) ?_
                have hfin : mIns r x op a b = ((-2), r) := by
                  skip; simp only [mIns, mIns2, if_neg c_5, if_neg c_14, if_neg c_22, if_neg c_28, if_neg c_57, if_neg c_80, if_pos c_93]
                refine hret _ () _ _ _ _ _ _ ?_ (by show Wd D classes (tysA g) s A (wM g am ((mIns r x op a b).2)) _ _; rw [hfin]; exact hW) (by decide) (by decide) d_M_instr_98
                show (-2) = (mIns r x op a b).1
                rw [hfin]
            · have c_80 : outP (b) (3) := bo_ne hp7 c_80
              refine lv_iconst (v := (-1)) hx hb d_M_instr_83 (by decide) ?_
              have hfin : mIns r x op a b = ((-1), r) := by
                skip; simp only [mIns, mIns2, if_neg c_5, if_neg c_14, if_neg c_22, if_neg c_28, if_neg c_57, if_pos c_80]
              refine hret _ () _ _ _ _ _ _ ?_ (by show Wd D classes (tysA g) s A (wM g am ((mIns r x op a b).2)) _ _; rw [hfin]; exact hW) (by decide) (by decide) d_M_instr_84
              show (-1) = (mIns r x op a b).1
              rw [hfin]
          · have nc_57 : nn op = 5 := ni_eq e4 rfl (by omega) (by omega) c_57
            refine lv_iload hx hb d_M_instr_60 (lv_at hl 4 rfl) ?_
            refine lv_bipush (v := 11) hx hb d_M_instr_62 (by decide) ?_
            refine wci hW hA (va_runS (As := [.int (b), .int (11)]) (rest := []) ⟨hx, hb, hml, hown, hts⟩ (c_M_out l _ (b) (11) _) (cs 2 hts kc_M_out ks_M_out kn_M km_M_84 kh_M_out rfl rfl ⟨by decide, by decide⟩) (preWS hW) rfl rfl hl.1 rfl (lv_room (Nat.le_of_ble_eq_true rfl)) d_M_instr_64 ⟨by decide, by decide⟩) (fun rr15 uu15 H locs hp15 hW => ?_)
            have hW : Wd D classes (tysA g) s A (wM g am (r)) H locs := hW
            have hp15 : rr15 = if outP (b) (11) then 1 else 0 := hp15
            refine lv_goto (tgt := 76) hx hb d_M_instr_67 (by decide) ?_
            refine lv_istore (lv' := [(5, .int (rr15)), (0, .ref (am (0))), (1, .int (x)), (2, .int (op)), (3, .int (a)), (4, .int (b))]) hx hb d_M_instr_76 hl (by decide) rfl (fun ls hl => ?_)
            refine lv_iload hx hb d_M_instr_78 (lv_at hl 0 rfl) ?_
            refine lv_if_eq (tgt := 85) hx hb d_M_instr_80 (by decide) (fun c_80 => ?_) (fun c_80 => ?_)
            · have c_80 : ¬ (outP (b) (11)) := bo_eq hp15 c_80
              obtain ⟨e16, b16⟩ := nout_nn (N := 11) rfl (by omega) c_80
              refine lv_aload_n hx hb d_M_instr_85 rfl (lv_at hl 1 rfl) ?_
              refine wg hx hb hts i_M hown hW (0) (by omega) mm_root rfl 3 (by decide) (hts _ kf_M_19) rfl d_M_instr_86 ?_
              refine lv_iload_n hx hb d_M_instr_89 rfl (lv_at hl 2 rfl) ?_
              refine wi hx hb hW (4) (by omega) mm_4 0 rfl (nn x) e2 (by omega) (by decide) d_M_instr_90 ?_
              obtain ⟨e17, b17⟩ := hO.c4 (nn x)
              refine lv_bipush (v := 12) hx hb d_M_instr_91 (by decide) ?_
              refine lv_icmp_ne (tgt := 99) hx hb d_M_instr_93 (by decide) (fun c_93 => ?_) (fun c_93 => ?_)
              · have nc_93 : ¬ nv r (4) (nn x) = 12 := ni_ne e17 rfl (by omega) (by omega) c_93
                refine lv_bipush (v := 12) hx hb d_M_instr_99 (by decide) ?_
                refine lv_iload_n hx hb d_M_instr_101 rfl (lv_at hl 2 rfl) ?_
                refine lv_imul hx hb d_M_instr_102 ?_
                refine lv_aload_n hx hb d_M_instr_103 rfl (lv_at hl 1 rfl) ?_
                refine wg hx hb hts i_M hown hW (0) (by omega) mm_root rfl 3 (by decide) (hts _ kf_M_19) rfl d_M_instr_104 ?_
                refine lv_iload_n hx hb d_M_instr_107 rfl (lv_at hl 2 rfl) ?_
                refine wi hx hb hW (4) (by omega) mm_4 0 rfl (nn x) e2 (by omega) (by decide) d_M_instr_108 ?_
                obtain ⟨e18, b18⟩ := hO.c4 (nn x)
                refine lv_iadd hx hb d_M_instr_109 ?_
                refine lv_istore (lv' := [(6, .int (((12) * (x)) + (r (4) (nn x)))), (5, .int (rr15)), (0, .ref (am (0))), (1, .int (x)), (2, .int (op)), (3, .int (a)), (4, .int (b))]) hx hb d_M_instr_110 hl (by decide) rfl (fun ls hl => ?_)
                refine lv_aload_n hx hb d_M_instr_112 rfl (lv_at hl 2 rfl) ?_
                refine wg hx hb hts i_M hown hW (0) (by omega) mm_root rfl 0 (by decide) (hts _ kf_M_7) rfl d_M_instr_113 ?_
                refine lv_iload hx hb d_M_instr_116 (lv_at hl 0 rfl) ?_
                refine lv_iload_n hx hb d_M_instr_118 rfl (lv_at hl 4 rfl) ?_
                refine wis hx hb hW (1) (by omega) mm_1 0 rfl (12 * (nn x) + nv r (4) (nn x)) (ni_add (ni_mul rfl e2) e18) (by omega) (by decide) (x := op) mm_1 d_M_instr_119 (fun H locs hW => ?_)
                obtain ⟨mr19, ev19⟩ : ∃ z : Vs, z = u2 r (1) (12 * (nn x) + nv r (4) (nn x)) (op) := ⟨_, rfl⟩
                rw [← ev19] at hW
                refine lv_aload_n hx hb d_M_instr_120 rfl (lv_at hl 2 rfl) ?_
                refine wg hx hb hts i_M hown hW (0) (by omega) mm_root rfl 1 (by decide) (hts _ kf_M_13) rfl d_M_instr_121 ?_
                refine lv_iload hx hb d_M_instr_124 (lv_at hl 0 rfl) ?_
                refine lv_iload_n hx hb d_M_instr_126 rfl (lv_at hl 5 rfl) ?_
                refine wis hx hb hW (2) (by omega) mm_2 0 rfl (12 * (nn x) + nv r (4) (nn x)) (ni_add (ni_mul rfl e2) e18) (by omega) (by decide) (x := a) mm_2 d_M_instr_127 (fun H locs hW => ?_)
                obtain ⟨mr20, ev20⟩ : ∃ z : Vs, z = u2 mr19 (2) (12 * (nn x) + nv r (4) (nn x)) (a) := ⟨_, rfl⟩
                rw [← ev20] at hW
                refine lv_aload_n hx hb d_M_instr_128 rfl (lv_at hl 2 rfl) ?_
                refine wg hx hb hts i_M hown hW (0) (by omega) mm_root rfl 2 (by decide) (hts _ kf_M_16) rfl d_M_instr_129 ?_
                refine lv_iload hx hb d_M_instr_132 (lv_at hl 0 rfl) ?_
                refine lv_iload hx hb d_M_instr_134 (lv_at hl 6 rfl) ?_
                refine wis hx hb hW (3) (by omega) mm_3 0 rfl (12 * (nn x) + nv r (4) (nn x)) (ni_add (ni_mul rfl e2) e18) (by omega) (by decide) (x := b) mm_3 d_M_instr_136 (fun H locs hW => ?_)
                obtain ⟨mr21, ev21⟩ : ∃ z : Vs, z = u2 mr20 (3) (12 * (nn x) + nv r (4) (nn x)) (b) := ⟨_, rfl⟩
                rw [← ev21] at hW
                refine lv_aload_n hx hb d_M_instr_137 rfl (lv_at hl 2 rfl) ?_
                refine wg hx hb hts i_M hown hW (0) (by omega) mm_root rfl 3 (by decide) (hts _ kf_M_19) rfl d_M_instr_138 ?_
                refine lv_iload_n hx hb d_M_instr_141 rfl (lv_at hl 3 rfl) ?_
                refine lv_dup2_11 hx hb d_M_instr_142 rfl rfl ?_
                refine wi hx hb hW (4) (by omega) mm_4 0 rfl (nn x) e2 (by omega) (by decide) d_M_instr_143 ?_
                refine lv_iconst (v := 1) hx hb d_M_instr_144 (by decide) ?_
                refine lv_iadd hx hb d_M_instr_145 ?_
                refine wis hx hb hW (4) (by omega) mm_4 0 rfl (nn x) e2 (by omega) (by decide) (x := (mr21 (4) (nn x)) + (1)) mm_4 d_M_instr_146 (fun H locs hW => ?_)
                obtain ⟨mr22, ev22⟩ : ∃ z : Vs, z = u2 mr21 (4) (nn x) ((mr21 (4) (nn x)) + (1)) := ⟨_, rfl⟩
                rw [← ev22] at hW
                refine lv_aload_n hx hb d_M_instr_147 rfl (lv_at hl 2 rfl) ?_
                refine wg hx hb hts i_M hown hW (0) (by omega) mm_root rfl 3 (by decide) (hts _ kf_M_19) rfl d_M_instr_148 ?_
                refine lv_iload_n hx hb d_M_instr_151 rfl (lv_at hl 3 rfl) ?_
                refine wi hx hb hW (4) (by omega) mm_4 0 rfl (nn x) e2 (by omega) (by decide) d_M_instr_152 ?_
                have hfin : mIns r x op a b = (mr22 (4) (nn x), mr22) := by
                  subst ev22 ev21 ev20 ev19; simp only [mIns, mIns2, if_neg c_5, if_neg c_14, if_neg c_22, if_neg c_28, if_pos c_57, if_neg c_80, if_neg c_93]
                refine hret _ () _ _ _ _ _ _ ?_ (by show Wd D classes (tysA g) s A (wM g am ((mIns r x op a b).2)) _ _; rw [hfin]; exact hW) (by decide) (by decide) d_M_instr_153
                show mr22 (4) (nn x) = (mIns r x op a b).1
                rw [hfin]
              · have nc_93 : nv r (4) (nn x) = 12 := ni_eq e17 rfl (by omega) (by omega) c_93
                refine lv_bipush (v := (-2)) hx hb d_M_instr_96 (by decide) ?_
                have hfin : mIns r x op a b = ((-2), r) := by
                  skip; simp only [mIns, mIns2, if_neg c_5, if_neg c_14, if_neg c_22, if_neg c_28, if_pos c_57, if_neg c_80, if_pos c_93]
                refine hret _ () _ _ _ _ _ _ ?_ (by show Wd D classes (tysA g) s A (wM g am ((mIns r x op a b).2)) _ _; rw [hfin]; exact hW) (by decide) (by decide) d_M_instr_98
                show (-2) = (mIns r x op a b).1
                rw [hfin]
            · have c_80 : outP (b) (11) := bo_ne hp15 c_80
              refine lv_iconst (v := (-1)) hx hb d_M_instr_83 (by decide) ?_
              have hfin : mIns r x op a b = ((-1), r) := by
                skip; simp only [mIns, mIns2, if_neg c_5, if_neg c_14, if_neg c_22, if_neg c_28, if_pos c_57, if_pos c_80]
              refine hret _ () _ _ _ _ _ _ ?_ (by show Wd D classes (tysA g) s A (wM g am ((mIns r x op a b).2)) _ _; rw [hfin]; exact hW) (by decide) (by decide) d_M_instr_84
              show (-1) = (mIns r x op a b).1
              rw [hfin]
        · have nc_28 : nn op = 0 := ni_eq e4 rfl (by omega) (by omega) c_28
          refine lv_iload hx hb d_M_instr_31 (lv_at hl 4 rfl) ?_
          refine lv_sipush (v := (-1000)) hx hb d_M_instr_33 (by decide) ?_
          refine lv_icmp_lt (tgt := 47) hx hb d_M_instr_36 (by decide) (fun c_36 => ?_) (fun c_36 => ?_)
          · refine lv_iconst (v := 1) hx hb d_M_instr_47 (by decide) ?_
            refine lv_goto (tgt := 76) hx hb d_M_instr_48 (by decide) ?_
            refine lv_istore (lv' := [(5, .int (1)), (0, .ref (am (0))), (1, .int (x)), (2, .int (op)), (3, .int (a)), (4, .int (b))]) hx hb d_M_instr_76 hl (by decide) rfl (fun ls hl => ?_)
            refine lv_iload hx hb d_M_instr_78 (lv_at hl 0 rfl) ?_
            refine lv_if_eq (tgt := 85) hx hb d_M_instr_80 (by decide) (fun c_80 => absurd c_80 (by decide)) (fun c_80 => ?_)
            refine lv_iconst (v := (-1)) hx hb d_M_instr_83 (by decide) ?_
            have hfin : mIns r x op a b = ((-1), r) := by
              skip; simp only [mIns, mIns2, if_neg c_5, if_neg c_14, if_neg c_22, if_pos c_28, if_pos c_36]
            refine hret _ () _ _ _ _ _ _ ?_ (by show Wd D classes (tysA g) s A (wM g am ((mIns r x op a b).2)) _ _; rw [hfin]; exact hW) (by decide) (by decide) d_M_instr_84
            show (-1) = (mIns r x op a b).1
            rw [hfin]
          · refine lv_iload hx hb d_M_instr_39 (lv_at hl 4 rfl) ?_
            refine lv_sipush (v := 1000) hx hb d_M_instr_41 (by decide) ?_
            refine lv_icmp_le (tgt := 51) hx hb d_M_instr_44 (by decide) (fun c_44 => ?_) (fun c_44 => ?_)
            · refine lv_iconst (v := 0) hx hb d_M_instr_51 (by decide) ?_
              refine lv_goto (tgt := 76) hx hb d_M_instr_52 (by decide) ?_
              refine lv_istore (lv' := [(5, .int (0)), (0, .ref (am (0))), (1, .int (x)), (2, .int (op)), (3, .int (a)), (4, .int (b))]) hx hb d_M_instr_76 hl (by decide) rfl (fun ls hl => ?_)
              refine lv_iload hx hb d_M_instr_78 (lv_at hl 0 rfl) ?_
              refine lv_if_eq (tgt := 85) hx hb d_M_instr_80 (by decide) (fun c_80 => ?_) (fun c_80 => absurd (by decide) c_80)
              refine lv_aload_n hx hb d_M_instr_85 rfl (lv_at hl 1 rfl) ?_
              refine wg hx hb hts i_M hown hW (0) (by omega) mm_root rfl 3 (by decide) (hts _ kf_M_19) rfl d_M_instr_86 ?_
              refine lv_iload_n hx hb d_M_instr_89 rfl (lv_at hl 2 rfl) ?_
              refine wi hx hb hW (4) (by omega) mm_4 0 rfl (nn x) e2 (by omega) (by decide) d_M_instr_90 ?_
              obtain ⟨e23, b23⟩ := hO.c4 (nn x)
              refine lv_bipush (v := 12) hx hb d_M_instr_91 (by decide) ?_
              refine lv_icmp_ne (tgt := 99) hx hb d_M_instr_93 (by decide) (fun c_93 => ?_) (fun c_93 => ?_)
              · have nc_93 : ¬ nv r (4) (nn x) = 12 := ni_ne e23 rfl (by omega) (by omega) c_93
                refine lv_bipush (v := 12) hx hb d_M_instr_99 (by decide) ?_
                refine lv_iload_n hx hb d_M_instr_101 rfl (lv_at hl 2 rfl) ?_
                refine lv_imul hx hb d_M_instr_102 ?_
                refine lv_aload_n hx hb d_M_instr_103 rfl (lv_at hl 1 rfl) ?_
                refine wg hx hb hts i_M hown hW (0) (by omega) mm_root rfl 3 (by decide) (hts _ kf_M_19) rfl d_M_instr_104 ?_
                refine lv_iload_n hx hb d_M_instr_107 rfl (lv_at hl 2 rfl) ?_
                refine wi hx hb hW (4) (by omega) mm_4 0 rfl (nn x) e2 (by omega) (by decide) d_M_instr_108 ?_
                obtain ⟨e24, b24⟩ := hO.c4 (nn x)
                refine lv_iadd hx hb d_M_instr_109 ?_
                refine lv_istore (lv' := [(6, .int (((12) * (x)) + (r (4) (nn x)))), (5, .int (0)), (0, .ref (am (0))), (1, .int (x)), (2, .int (op)), (3, .int (a)), (4, .int (b))]) hx hb d_M_instr_110 hl (by decide) rfl (fun ls hl => ?_)
                refine lv_aload_n hx hb d_M_instr_112 rfl (lv_at hl 2 rfl) ?_
                refine wg hx hb hts i_M hown hW (0) (by omega) mm_root rfl 0 (by decide) (hts _ kf_M_7) rfl d_M_instr_113 ?_
                refine lv_iload hx hb d_M_instr_116 (lv_at hl 0 rfl) ?_
                refine lv_iload_n hx hb d_M_instr_118 rfl (lv_at hl 4 rfl) ?_
                refine wis hx hb hW (1) (by omega) mm_1 0 rfl (12 * (nn x) + nv r (4) (nn x)) (ni_add (ni_mul rfl e2) e24) (by omega) (by decide) (x := op) mm_1 d_M_instr_119 (fun H locs hW => ?_)
                obtain ⟨mr25, ev25⟩ : ∃ z : Vs, z = u2 r (1) (12 * (nn x) + nv r (4) (nn x)) (op) := ⟨_, rfl⟩
                rw [← ev25] at hW
                refine lv_aload_n hx hb d_M_instr_120 rfl (lv_at hl 2 rfl) ?_
                refine wg hx hb hts i_M hown hW (0) (by omega) mm_root rfl 1 (by decide) (hts _ kf_M_13) rfl d_M_instr_121 ?_
                refine lv_iload hx hb d_M_instr_124 (lv_at hl 0 rfl) ?_
                refine lv_iload_n hx hb d_M_instr_126 rfl (lv_at hl 5 rfl) ?_
                refine wis hx hb hW (2) (by omega) mm_2 0 rfl (12 * (nn x) + nv r (4) (nn x)) (ni_add (ni_mul rfl e2) e24) (by omega) (by decide) (x := a) mm_2 d_M_instr_127 (fun H locs hW => ?_)
                obtain ⟨mr26, ev26⟩ : ∃ z : Vs, z = u2 mr25 (2) (12 * (nn x) + nv r (4) (nn x)) (a) := ⟨_, rfl⟩
                rw [← ev26] at hW
                refine lv_aload_n hx hb d_M_instr_128 rfl (lv_at hl 2 rfl) ?_
                refine wg hx hb hts i_M hown hW (0) (by omega) mm_root rfl 2 (by decide) (hts _ kf_M_16) rfl d_M_instr_129 ?_
                refine lv_iload hx hb d_M_instr_132 (lv_at hl 0 rfl) ?_
                refine lv_iload hx hb d_M_instr_134 (lv_at hl 6 rfl) ?_
                refine wis hx hb hW (3) (by omega) mm_3 0 rfl (12 * (nn x) + nv r (4) (nn x)) (ni_add (ni_mul rfl e2) e24) (by omega) (by decide) (x := b) mm_3 d_M_instr_136 (fun H locs hW => ?_)
                obtain ⟨mr27, ev27⟩ : ∃ z : Vs, z = u2 mr26 (3) (12 * (nn x) + nv r (4) (nn x)) (b) := ⟨_, rfl⟩
                rw [← ev27] at hW
                refine lv_aload_n hx hb d_M_instr_137 rfl (lv_at hl 2 rfl) ?_
                refine wg hx hb hts i_M hown hW (0) (by omega) mm_root rfl 3 (by decide) (hts _ kf_M_19) rfl d_M_instr_138 ?_
                refine lv_iload_n hx hb d_M_instr_141 rfl (lv_at hl 3 rfl) ?_
                refine lv_dup2_11 hx hb d_M_instr_142 rfl rfl ?_
                refine wi hx hb hW (4) (by omega) mm_4 0 rfl (nn x) e2 (by omega) (by decide) d_M_instr_143 ?_
                refine lv_iconst (v := 1) hx hb d_M_instr_144 (by decide) ?_
                refine lv_iadd hx hb d_M_instr_145 ?_
                refine wis hx hb hW (4) (by omega) mm_4 0 rfl (nn x) e2 (by omega) (by decide) (x := (mr27 (4) (nn x)) + (1)) mm_4 d_M_instr_146 (fun H locs hW => ?_)
                obtain ⟨mr28, ev28⟩ : ∃ z : Vs, z = u2 mr27 (4) (nn x) ((mr27 (4) (nn x)) + (1)) := ⟨_, rfl⟩
                rw [← ev28] at hW
                refine lv_aload_n hx hb d_M_instr_147 rfl (lv_at hl 2 rfl) ?_
                refine wg hx hb hts i_M hown hW (0) (by omega) mm_root rfl 3 (by decide) (hts _ kf_M_19) rfl d_M_instr_148 ?_
                refine lv_iload_n hx hb d_M_instr_151 rfl (lv_at hl 3 rfl) ?_
                refine wi hx hb hW (4) (by omega) mm_4 0 rfl (nn x) e2 (by omega) (by decide) d_M_instr_152 ?_
                have hfin : mIns r x op a b = (mr28 (4) (nn x), mr28) := by
                  subst ev28 ev27 ev26 ev25; simp only [mIns, mIns2, if_neg c_5, if_neg c_14, if_neg c_22, if_pos c_28, if_neg c_36, if_pos c_44, if_neg c_93]
                refine hret _ () _ _ _ _ _ _ ?_ (by show Wd D classes (tysA g) s A (wM g am ((mIns r x op a b).2)) _ _; rw [hfin]; exact hW) (by decide) (by decide) d_M_instr_153
                show mr28 (4) (nn x) = (mIns r x op a b).1
                rw [hfin]
              · have nc_93 : nv r (4) (nn x) = 12 := ni_eq e23 rfl (by omega) (by omega) c_93
                refine lv_bipush (v := (-2)) hx hb d_M_instr_96 (by decide) ?_
                have hfin : mIns r x op a b = ((-2), r) := by
                  skip; simp only [mIns, mIns2, if_neg c_5, if_neg c_14, if_neg c_22, if_pos c_28, if_neg c_36, if_pos c_44, if_pos c_93]
                refine hret _ () _ _ _ _ _ _ ?_ (by show Wd D classes (tysA g) s A (wM g am ((mIns r x op a b).2)) _ _; rw [hfin]; exact hW) (by decide) (by decide) d_M_instr_98
                show (-2) = (mIns r x op a b).1
                rw [hfin]
            · refine lv_iconst (v := 1) hx hb d_M_instr_47 (by decide) ?_
              refine lv_goto (tgt := 76) hx hb d_M_instr_48 (by decide) ?_
              refine lv_istore (lv' := [(5, .int (1)), (0, .ref (am (0))), (1, .int (x)), (2, .int (op)), (3, .int (a)), (4, .int (b))]) hx hb d_M_instr_76 hl (by decide) rfl (fun ls hl => ?_)
              refine lv_iload hx hb d_M_instr_78 (lv_at hl 0 rfl) ?_
              refine lv_if_eq (tgt := 85) hx hb d_M_instr_80 (by decide) (fun c_80 => absurd c_80 (by decide)) (fun c_80 => ?_)
              refine lv_iconst (v := (-1)) hx hb d_M_instr_83 (by decide) ?_
              have hfin : mIns r x op a b = ((-1), r) := by
                skip; simp only [mIns, mIns2, if_neg c_5, if_neg c_14, if_neg c_22, if_pos c_28, if_neg c_36, if_neg c_44]
              refine hret _ () _ _ _ _ _ _ ?_ (by show Wd D classes (tysA g) s A (wM g am ((mIns r x op a b).2)) _ _; rw [hfin]; exact hW) (by decide) (by decide) d_M_instr_84
              show (-1) = (mIns r x op a b).1
              rw [hfin]
      · have c_22 : outP (a) (3) := bo_ne hp5 c_22
        refine lv_iconst (v := (-1)) hx hb d_M_instr_25 (by decide) ?_
        have hfin : mIns r x op a b = ((-1), r) := by
          skip; simp only [mIns, mIns2, if_neg c_5, if_neg c_14, if_pos c_22]
        refine hret _ () _ _ _ _ _ _ ?_ (by show Wd D classes (tysA g) s A (wM g am ((mIns r x op a b).2)) _ _; rw [hfin]; exact hW) (by decide) (by decide) d_M_instr_26
        show (-1) = (mIns r x op a b).1
        rw [hfin]
abbrev rm_M_ready : Room := { frames := 1, cells := 0, slots := 0, locals := 20 }
set_option maxHeartbeats 4000000 in
set_option maxRecDepth 100000 in
theorem c_M_ready (l : Launch) {D : va_G} {g : Nat → ClassId} {am : Nat → Nat} {r : Vs} (x : Int32) (pn : Nat) (zx : x = nI pn) (lpn : pn < 8) (hO : OkM r) : MtV l y_M_ready ws_M_ready rm_M_ready D classes (tysA g) [.ref (am (0)), .int (x)] (wM g am (r)) (fun _ : Unit => True) (fun _ => wM g am (mRdy r pn)) 0 0 := by
  refine mt_v (by decide +kernel) rfl (Nat.le_of_ble_eq_true rfl) (fun p e s m args below meth c Q A C hnm hA hW hret ls hl => ?_)
  obtain ⟨hx, hb, hr, hml, hown, hts0, hlocks⟩ := C
  have hts : ∀ w ∈ bigw, w.before args s = true := fun w h => hts0 w (List.mem_cons_of_mem _ h)
  have hown : s.vm.findClass R_M = some m.cls := hown
  have hnp := hO.le
  have hl : lv_has ls 2 [(0, .ref (am (0))), (1, .int (x))] := hl
  refine lv_aload_n hx hb d_M_ready_0 rfl (lv_at hl 0 rfl) ?_
  refine wg hx hb hts i_M hown hW (0) (by omega) mm_root rfl 8 (by decide) (hts _ kf_M_34) rfl d_M_ready_1 ?_
  refine lv_iload_n hx hb d_M_ready_4 rfl (lv_at hl 1 rfl) ?_
  refine lv_iconst (v := 1) hx hb d_M_ready_5 (by decide) ?_
  refine wis hx hb hW (9) (by omega) mm_9 0 rfl (pn) zx (by omega) (by decide) (x := 1) mm_9 d_M_ready_6 (fun H locs hW => ?_)
  obtain ⟨mr1, ev1⟩ : ∃ z : Vs, z = u2 r (9) (pn) (1) := ⟨_, rfl⟩
  rw [← ev1] at hW
  have hO1 : OkM mr1 := by rw [ev1]; exact hO.fr (by omega)
  refine lv_aload_n hx hb d_M_ready_7 rfl (lv_at hl 0 rfl) ?_
  refine wg hx hb hts i_M hown hW (0) (by omega) mm_root rfl 9 (by decide) (hts _ kf_M_37) rfl d_M_ready_8 ?_
  refine lv_iload_n hx hb d_M_ready_11 rfl (lv_at hl 1 rfl) ?_
  refine lv_aload_n hx hb d_M_ready_12 rfl (lv_at hl 0 rfl) ?_
  refine wci hW hA (va_runV (As := []) (rest := [.int (x), .ref (am (10))]) ⟨hx, hb, hml, hown, hts⟩ (c_M_tick l hO1 _) (cv 0 hts kc_M_tick ki_M_tick ke_M_tick kn_M km_M_88 kh_M_tick rfl rfl ⟨by decide, by decide⟩) (preW hW rfl rfl (mw_get (by omega) mm_root)) rfl rfl hl.1 rfl (lv_room (Nat.le_of_ble_eq_true rfl)) d_M_ready_13 ⟨by decide, by decide⟩) (fun rr2 uu2 H locs hp2 hW => ?_)
  have hW : Wd D classes (tysA g) s A (wM g am (mTick mr1)) H locs := hW
  obtain ⟨mr3, ev3⟩ : ∃ z : Vs, z = mTick mr1 := ⟨_, rfl⟩
  rw [← ev3] at hW
  have hO3 : OkM mr3 := by rw [ev3]; exact hO1.tick
  have hp2 : rr2 = mTick mr1 0 23 := hp2
  subst hp2
  refine wis hx hb hW (10) (by omega) mm_10 0 rfl (pn) zx (by omega) (by decide) (x := mTick mr1 0 23) mm_10 d_M_ready_16 (fun H locs hW => ?_)
  obtain ⟨mr4, ev4⟩ : ∃ z : Vs, z = u2 mr3 (10) (pn) (mTick mr1 0 23) := ⟨_, rfl⟩
  rw [← ev4] at hW
  have hO4 : OkM mr4 := by rw [ev4]; exact hO3.fr (by omega)
  refine lv_aload_n hx hb d_M_ready_17 rfl (lv_at hl 0 rfl) ?_
  refine wg hx hb hts i_M hown hW (0) (by omega) mm_root rfl 10 (by decide) (hts _ kf_M_40) rfl d_M_ready_18 ?_
  refine lv_iload_n hx hb d_M_ready_21 rfl (lv_at hl 1 rfl) ?_
  refine lv_iconst (v := 0) hx hb d_M_ready_22 (by decide) ?_
  refine wis hx hb hW (11) (by omega) mm_11 0 rfl (pn) zx (by omega) (by decide) (x := 0) mm_11 d_M_ready_23 (fun H locs hW => ?_)
  obtain ⟨mr5, ev5⟩ : ∃ z : Vs, z = u2 mr4 (11) (pn) (0) := ⟨_, rfl⟩
  rw [← ev5] at hW
  have hO5 : OkM mr5 := by rw [ev5]; exact hO4.fr (by omega)
  refine lv_aload_n hx hb d_M_ready_24 rfl (lv_at hl 0 rfl) ?_
  refine wg hx hb hts i_M hown hW (0) (by omega) mm_root rfl 13 (by decide) (hts _ kf_M_49) rfl d_M_ready_25 ?_
  refine lv_iload_n hx hb d_M_ready_28 rfl (lv_at hl 1 rfl) ?_
  refine lv_bipush (v := 8) hx hb d_M_ready_29 (by decide) ?_
  refine wis hx hb hW (14) (by omega) mm_14 0 rfl (pn) zx (by omega) (by decide) (x := 8) mm_14 d_M_ready_31 (fun H locs hW => ?_)
  obtain ⟨mr6, ev6⟩ : ∃ z : Vs, z = u2 mr5 (14) (pn) (8) := ⟨_, rfl⟩
  rw [← ev6] at hW
  have hO6 : OkM mr6 := by rw [ev6]; exact hO5.fr (by omega)
  have hfin : mRdy r pn = mr6 := by
    subst ev6 ev5 ev4 ev3 ev1
    rfl
  exact hret () _ _ _ _ _ _ trivial (by show Wd D classes (tysA g) s A (wM g am (mRdy r pn)) _ _; rw [hfin]; exact hW) (by decide) (by decide) d_M_ready_32
abbrev rm_M_make : Room := { frames := 2, cells := 0, slots := 0, locals := 41 }
set_option maxHeartbeats 4000000 in
set_option maxRecDepth 100000 in
theorem c_M_make (l : Launch) {D : va_G} {g : Nat → ClassId} {am : Nat → Nat} {r : Vs} (x : Int32) (y : Int32) (n : Nat) (zy : y = nI n) (ln : n < 3) (hO : OkM r) (hx4 : okLt 4 x) : MtI l y_M_make ws_M_make rm_M_make D classes (tysA g) [.ref (am (0)), .int (x), .int (y)] (wM g am (r)) (fun (rr : Int32) (_ : Unit) => rr = (mMake r x y).1) (fun _ => wM g am ((mMake r x y).2)) 0 0 := by
  refine mt_i (ty := .int) (fun _ _ _ => rfl) (by decide +kernel) rfl (Nat.le_of_ble_eq_true rfl) (fun p e s m args below meth c Q A C hA hW hret ls hl => ?_)
  obtain ⟨hx, hb, hr, hml, hown, hts0, hlocks⟩ := C
  have hts : ∀ w ∈ bigw, w.before args s = true := fun w h => hts0 w (List.mem_cons_of_mem _ h)
  have hown : s.vm.findClass R_M = some m.cls := hown
  have hnp := hO.le
  have hl : lv_has ls 5 [(0, .ref (am (0))), (1, .int (x)), (2, .int (y))] := hl
  refine lv_aload_n hx hb d_M_make_0 rfl (lv_at hl 0 rfl) ?_
  refine wg hx hb hts i_M hown hW (0) (by omega) mm_root rfl 14 (by decide) (hts _ kf_M_81) rfl d_M_make_1 ?_
  obtain ⟨e1, b1⟩ := hO.made
  refine lv_bipush (v := 8) hx hb d_M_make_4 (by decide) ?_
  refine lv_icmp_ne (tgt := 11) hx hb d_M_make_6 (by decide) (fun c_6 => ?_) (fun c_6 => ?_)
  · have nc_6 : ¬ nv r (0) 14 = 8 := ni_ne e1 rfl (by omega) (by omega) c_6
    refine lv_aload_n hx hb d_M_make_11 rfl (lv_at hl 0 rfl) ?_
    refine wg hx hb hts i_M hown hW (0) (by omega) mm_root rfl 14 (by decide) (hts _ kf_M_81) rfl d_M_make_12 ?_
    obtain ⟨e2, b2⟩ := hO.made
    refine lv_istore_n (lv' := [(3, .int (r 0 14)), (0, .ref (am (0))), (1, .int (x)), (2, .int (y))]) hx hb d_M_make_15 rfl hl (by decide) rfl (fun ls hl => ?_)
    refine lv_aload_n hx hb d_M_make_16 rfl (lv_at hl 1 rfl) ?_
    refine lv_dup hx hb d_M_make_17 rfl ?_
    refine wg hx hb hts i_M hown hW (0) (by omega) mm_root rfl 14 (by decide) (hts _ kf_M_81) rfl d_M_make_18 ?_
    obtain ⟨e3, b3⟩ := hO.made
    refine lv_iconst (v := 1) hx hb d_M_make_21 (by decide) ?_
    refine lv_iadd hx hb d_M_make_22 ?_
    refine wp hx hb hts i_M t_M t_M_ok n_M hown hW (0) (by omega) mm_root rfl 14 (by decide) (hts _ kf_M_81) rfl (by decide +kernel) (x := (r 0 14) + (1)) (Nat.le_of_ble_eq_true rfl) (mm_root.trans rfl) d_M_make_23 (fun H locs hW => ?_)
    obtain ⟨mr4, ev4⟩ : ∃ z : Vs, z = u2 r (0) 14 ((r 0 14) + (1)) := ⟨_, rfl⟩
    rw [← ev4] at hW
    have hO4 : OkM mr4 := by rw [ev4]; exact hO.set (fun _ _ => ⟨nv r (0) 14 + 1, by omega, (ni_add e3 rfl)⟩) (fun a => absurd a (by decide)) (fun a => absurd a (by decide)) (fun a => absurd a (by decide)) (fun a => absurd a (by decide)) (by decide)
    refine lv_aload_n hx hb d_M_make_26 rfl (lv_at hl 1 rfl) ?_
    refine wg hx hb hts i_M hown hW (0) (by omega) mm_root rfl 4 (by decide) (hts _ kf_M_22) rfl d_M_make_27 ?_
    refine lv_iload_n hx hb d_M_make_30 rfl (lv_at hl 0 rfl) ?_
    refine lv_iload_n hx hb d_M_make_31 rfl (lv_at hl 2 rfl) ?_
    refine wis hx hb hW (5) (by omega) mm_5 0 rfl (nv r (0) 14) e2 (by omega) (by decide) (x := x) mm_5 d_M_make_32 (fun H locs hW => ?_)
    obtain ⟨mr5, ev5⟩ : ∃ z : Vs, z = u2 mr4 (5) (nv r (0) 14) (x) := ⟨_, rfl⟩
    rw [← ev5] at hW
    have hO5 : OkM mr5 := by rw [ev5]; exact hO4.set (fun a => absurd a (by decide)) (fun _ => hx4) (fun a => absurd a (by decide)) (fun a => absurd a (by decide)) (fun a => absurd a (by decide)) (by decide)
    refine lv_aload_n hx hb d_M_make_33 rfl (lv_at hl 1 rfl) ?_
    refine wg hx hb hts i_M hown hW (0) (by omega) mm_root rfl 7 (by decide) (hts _ kf_M_31) rfl d_M_make_34 ?_
    refine lv_iload_n hx hb d_M_make_37 rfl (lv_at hl 0 rfl) ?_
    refine lv_iload_n hx hb d_M_make_38 rfl (lv_at hl 3 rfl) ?_
    refine wis hx hb hW (8) (by omega) mm_8 0 rfl (nv r (0) 14) e2 (by omega) (by decide) (x := y) mm_8 d_M_make_39 (fun H locs hW => ?_)
    obtain ⟨mr6, ev6⟩ : ∃ z : Vs, z = u2 mr5 (8) (nv r (0) 14) (y) := ⟨_, rfl⟩
    rw [← ev6] at hW
    have hO6 : OkM mr6 := by rw [ev6]; exact hO5.set (fun a => absurd a (by decide)) (fun a => absurd a (by decide)) (fun a => absurd a (by decide)) (fun _ => ⟨n, by omega, zy⟩) (fun a => absurd a (by decide)) (by decide)
    refine lv_iconst (v := 0) hx hb d_M_make_40 (by decide) ?_
    refine lv_istore (lv' := [(4, .int (0)), (3, .int (r 0 14)), (0, .ref (am (0))), (1, .int (x)), (2, .int (y))]) hx hb d_M_make_41 hl (by decide) rfl (fun ls hl => ?_)
    refine lv_iload hx hb d_M_make_43 (lv_at hl 0 rfl) ?_
    refine lv_iconst (v := 3) hx hb d_M_make_45 (by decide) ?_
    refine lv_icmp_ge (tgt := 68) hx hb d_M_make_46 (by decide) (fun c_46 => absurd c_46 (by decide)) (fun c_46 => ?_)
    refine lv_aload_n hx hb d_M_make_49 rfl (lv_at hl 2 rfl) ?_
    refine wg hx hb hts i_M hown hW (0) (by omega) mm_root rfl 22 (by decide) (hts _ kf_M_74) rfl d_M_make_50 ?_
    refine lv_bipush (v := 8) hx hb d_M_make_53 (by decide) ?_
    refine lv_iload hx hb d_M_make_55 (lv_at hl 0 rfl) ?_
    refine lv_imul hx hb d_M_make_57 ?_
    refine lv_iload_n hx hb d_M_make_58 rfl (lv_at hl 1 rfl) ?_
    refine lv_iadd hx hb d_M_make_59 ?_
    refine lv_iload_n hx hb d_M_make_60 rfl (lv_at hl 4 rfl) ?_
    refine wis hx hb hW (22) (by omega) mm_22 0 rfl (8 * 0 + nv r (0) 14) (ni_add (ni_mul rfl rfl) e2) (by omega) (by decide) (x := y) mm_22 d_M_make_61 (fun H locs hW => ?_)
    obtain ⟨mr7, ev7⟩ : ∃ z : Vs, z = u2 mr6 (22) (8 * 0 + nv r (0) 14) (y) := ⟨_, rfl⟩
    rw [← ev7] at hW
    have hO7 : OkM mr7 := by rw [ev7]; exact hO6.set (fun a => absurd a (by decide)) (fun a => absurd a (by decide)) (fun a => absurd a (by decide)) (fun a => absurd a (by decide)) (fun _ => ⟨n, by omega, zy⟩) (by decide)
    refine lv_iinc (v := 1) (lv' := [(4, .int (1)), (3, .int (r 0 14)), (0, .ref (am (0))), (1, .int (x)), (2, .int (y))]) hx hb d_M_make_62 hl (k := 0) rfl (by decide) (by decide) rfl (fun ls hl => ?_)
    refine lv_goto (tgt := 43) hx hb d_M_make_65 (by decide) ?_
    refine lv_iload hx hb d_M_make_43 (lv_at hl 0 rfl) ?_
    refine lv_iconst (v := 3) hx hb d_M_make_45 (by decide) ?_
    refine lv_icmp_ge (tgt := 68) hx hb d_M_make_46 (by decide) (fun c_46 => absurd c_46 (by decide)) (fun c_46 => ?_)
    refine lv_aload_n hx hb d_M_make_49 rfl (lv_at hl 2 rfl) ?_
    refine wg hx hb hts i_M hown hW (0) (by omega) mm_root rfl 22 (by decide) (hts _ kf_M_74) rfl d_M_make_50 ?_
    refine lv_bipush (v := 8) hx hb d_M_make_53 (by decide) ?_
    refine lv_iload hx hb d_M_make_55 (lv_at hl 0 rfl) ?_
    refine lv_imul hx hb d_M_make_57 ?_
    refine lv_iload_n hx hb d_M_make_58 rfl (lv_at hl 1 rfl) ?_
    refine lv_iadd hx hb d_M_make_59 ?_
    refine lv_iload_n hx hb d_M_make_60 rfl (lv_at hl 4 rfl) ?_
    refine wis hx hb hW (22) (by omega) mm_22 0 rfl (8 * 1 + nv r (0) 14) (ni_add (ni_mul rfl rfl) e2) (by omega) (by decide) (x := y) mm_22 d_M_make_61 (fun H locs hW => ?_)
    obtain ⟨mr8, ev8⟩ : ∃ z : Vs, z = u2 mr7 (22) (8 * 1 + nv r (0) 14) (y) := ⟨_, rfl⟩
    rw [← ev8] at hW
    have hO8 : OkM mr8 := by rw [ev8]; exact hO7.set (fun a => absurd a (by decide)) (fun a => absurd a (by decide)) (fun a => absurd a (by decide)) (fun a => absurd a (by decide)) (fun _ => ⟨n, by omega, zy⟩) (by decide)
    refine lv_iinc (v := 2) (lv' := [(4, .int (2)), (3, .int (r 0 14)), (0, .ref (am (0))), (1, .int (x)), (2, .int (y))]) hx hb d_M_make_62 hl (k := 0) rfl (by decide) (by decide) rfl (fun ls hl => ?_)
    refine lv_goto (tgt := 43) hx hb d_M_make_65 (by decide) ?_
    refine lv_iload hx hb d_M_make_43 (lv_at hl 0 rfl) ?_
    refine lv_iconst (v := 3) hx hb d_M_make_45 (by decide) ?_
    refine lv_icmp_ge (tgt := 68) hx hb d_M_make_46 (by decide) (fun c_46 => absurd c_46 (by decide)) (fun c_46 => ?_)
    refine lv_aload_n hx hb d_M_make_49 rfl (lv_at hl 2 rfl) ?_
    refine wg hx hb hts i_M hown hW (0) (by omega) mm_root rfl 22 (by decide) (hts _ kf_M_74) rfl d_M_make_50 ?_
    refine lv_bipush (v := 8) hx hb d_M_make_53 (by decide) ?_
    refine lv_iload hx hb d_M_make_55 (lv_at hl 0 rfl) ?_
    refine lv_imul hx hb d_M_make_57 ?_
    refine lv_iload_n hx hb d_M_make_58 rfl (lv_at hl 1 rfl) ?_
    refine lv_iadd hx hb d_M_make_59 ?_
    refine lv_iload_n hx hb d_M_make_60 rfl (lv_at hl 4 rfl) ?_
    refine wis hx hb hW (22) (by omega) mm_22 0 rfl (8 * 2 + nv r (0) 14) (ni_add (ni_mul rfl rfl) e2) (by omega) (by decide) (x := y) mm_22 d_M_make_61 (fun H locs hW => ?_)
    obtain ⟨mr9, ev9⟩ : ∃ z : Vs, z = u2 mr8 (22) (8 * 2 + nv r (0) 14) (y) := ⟨_, rfl⟩
    rw [← ev9] at hW
    have hO9 : OkM mr9 := by rw [ev9]; exact hO8.set (fun a => absurd a (by decide)) (fun a => absurd a (by decide)) (fun a => absurd a (by decide)) (fun a => absurd a (by decide)) (fun _ => ⟨n, by omega, zy⟩) (by decide)
    refine lv_iinc (v := 3) (lv' := [(4, .int (3)), (3, .int (r 0 14)), (0, .ref (am (0))), (1, .int (x)), (2, .int (y))]) hx hb d_M_make_62 hl (k := 0) rfl (by decide) (by decide) rfl (fun ls hl => ?_)
    refine lv_goto (tgt := 43) hx hb d_M_make_65 (by decide) ?_
    refine lv_iload hx hb d_M_make_43 (lv_at hl 0 rfl) ?_
    refine lv_iconst (v := 3) hx hb d_M_make_45 (by decide) ?_
    refine lv_icmp_ge (tgt := 68) hx hb d_M_make_46 (by decide) (fun c_46 => ?_) (fun c_46 => absurd (by decide) c_46)
    refine lv_aload_n hx hb d_M_make_68 rfl (lv_at hl 2 rfl) ?_
    refine lv_iload_n hx hb d_M_make_69 rfl (lv_at hl 1 rfl) ?_
    refine wcv hW hA (va_runV (As := [.int (r 0 14)]) (rest := []) ⟨hx, hb, hml, hown, hts⟩ (c_M_ready l (r 0 14) (nv r (0) 14) e2 (by omega) hO9 _) (cv 1 hts kc_M_ready ki_M_ready ke_M_ready kn_M km_M_92 kh_M_ready rfl rfl ⟨by decide, by decide⟩) (preW hW rfl rfl (mw_get (by omega) mm_root)) rfl rfl hl.1 rfl (lv_room (Nat.le_of_ble_eq_true rfl)) d_M_make_70 ⟨by decide, by decide⟩) (fun uu10 H locs hp10 hW => ?_)
    have hW : Wd D classes (tysA g) s A (wM g am (mRdy mr9 (nv r (0) 14))) H locs := hW
    obtain ⟨mr11, ev11⟩ : ∃ z : Vs, z = mRdy mr9 (nv r (0) 14) := ⟨_, rfl⟩
    rw [← ev11] at hW
    have hO11 : OkM mr11 := by rw [ev11]; exact hO9.rdy
    refine lv_iload_n hx hb d_M_make_73 rfl (lv_at hl 1 rfl) ?_
    have hfin : mMake r x y = (r 0 14, mr11) := by
      subst ev11 ev9 ev8 ev7 ev6 ev5 ev4; simp only [mMake, mMk0, if_neg c_6]
    refine hret _ () _ _ _ _ _ _ ?_ (by show Wd D classes (tysA g) s A (wM g am ((mMake r x y).2)) _ _; rw [hfin]; exact hW) (by decide) (by decide) d_M_make_74
    show r 0 14 = (mMake r x y).1
    rw [hfin]
  · have nc_6 : nv r (0) 14 = 8 := ni_eq e1 rfl (by omega) (by omega) c_6
    refine lv_iconst (v := (-1)) hx hb d_M_make_9 (by decide) ?_
    have hfin : mMake r x y = ((-1), r) := by
      skip; simp only [mMake, mMk0, if_pos c_6]
    refine hret _ () _ _ _ _ _ _ ?_ (by show Wd D classes (tysA g) s A (wM g am ((mMake r x y).2)) _ _; rw [hfin]; exact hW) (by decide) (by decide) d_M_make_10
    show (-1) = (mMake r x y).1
    rw [hfin]
abbrev rm_M_spawn : Room := { frames := 3, cells := 0, slots := 0, locals := 65 }
set_option maxHeartbeats 4000000 in
set_option maxRecDepth 100000 in
theorem c_M_spawn (l : Launch) {D : va_G} {g : Nat → ClassId} {am : Nat → Nat} {r : Vs} (x : Int32) (y : Int32) (hO : OkM r) : MtI l y_M_spawn ws_M_spawn rm_M_spawn D classes (tysA g) [.ref (am (0)), .int (x), .int (y)] (wM g am (r)) (fun (rr : Int32) (_ : Unit) => rr = (mSpw r x y).1) (fun _ => wM g am ((mSpw r x y).2)) 0 0 := by
  refine mt_i (ty := .int) (fun _ _ _ => rfl) (by decide +kernel) rfl (Nat.le_of_ble_eq_true rfl) (fun p e s m args below meth c Q A C hA hW hret ls hl => ?_)
  obtain ⟨hx, hb, hr, hml, hown, hts0, hlocks⟩ := C
  have hts : ∀ w ∈ bigw, w.before args s = true := fun w h => hts0 w (List.mem_cons_of_mem _ h)
  have hown : s.vm.findClass R_M = some m.cls := hown
  have hnp := hO.le
  have hl : lv_has ls 4 [(0, .ref (am (0))), (1, .int (x)), (2, .int (y))] := hl
  refine lv_iload_n hx hb d_M_spawn_0 rfl (lv_at hl 1 rfl) ?_
  refine lv_iconst (v := 3) hx hb d_M_spawn_1 (by decide) ?_
  refine wci hW hA (va_runS (As := [.int (x), .int (3)]) (rest := []) ⟨hx, hb, hml, hown, hts⟩ (c_M_out l _ (x) (3) _) (cs 2 hts kc_M_out ks_M_out kn_M km_M_84 kh_M_out rfl rfl ⟨by decide, by decide⟩) (preWS hW) rfl rfl hl.1 rfl (lv_room (Nat.le_of_ble_eq_true rfl)) d_M_spawn_2 ⟨by decide, by decide⟩) (fun rr1 uu1 H locs hp1 hW => ?_)
  have hW : Wd D classes (tysA g) s A (wM g am (r)) H locs := hW
  have hp1 : rr1 = if outP (x) (3) then 1 else 0 := hp1
  refine lv_if_ne (tgt := 16) hx hb d_M_spawn_5 (by decide) (fun c_5 => ?_) (fun c_5 => ?_)
  · have c_5 : outP (x) (3) := bo_ne hp1 c_5
    refine lv_iconst (v := (-1)) hx hb d_M_spawn_16 (by decide) ?_
    have hf2 : (mSpw r x y).2 = r := by skip; simp only [mSpw, if_pos c_5]
    have hf1 : (mSpw r x y).1 = (-1) := by simp only [mSpw, if_pos c_5]
    refine hret _ () _ _ _ _ _ _ ?_ (by show Wd D classes (tysA g) s A (wM g am ((mSpw r x y).2)) _ _; rw [hf2]; exact hW) (by decide) (by decide) d_M_spawn_17
    exact hf1.symm
  · have c_5 : ¬ (outP (x) (3)) := bo_eq hp1 c_5
    obtain ⟨e2, b2⟩ := nout_nn (N := 3) rfl (by omega) c_5
    refine lv_iload_n hx hb d_M_spawn_8 rfl (lv_at hl 2 rfl) ?_
    refine lv_iconst (v := 2) hx hb d_M_spawn_9 (by decide) ?_
    refine wci hW hA (va_runS (As := [.int (y), .int (2)]) (rest := []) ⟨hx, hb, hml, hown, hts⟩ (c_M_out l _ (y) (2) _) (cs 2 hts kc_M_out ks_M_out kn_M km_M_84 kh_M_out rfl rfl ⟨by decide, by decide⟩) (preWS hW) rfl rfl hl.1 rfl (lv_room (Nat.le_of_ble_eq_true rfl)) d_M_spawn_10 ⟨by decide, by decide⟩) (fun rr3 uu3 H locs hp3 hW => ?_)
    have hW : Wd D classes (tysA g) s A (wM g am (r)) H locs := hW
    have hp3 : rr3 = if outP (y) (2) then 1 else 0 := hp3
    refine lv_if_eq (tgt := 18) hx hb d_M_spawn_13 (by decide) (fun c_13 => ?_) (fun c_13 => ?_)
    · have c_13 : ¬ (outP (y) (2)) := bo_eq hp3 c_13
      obtain ⟨e4, b4⟩ := nout_nn (N := 2) rfl (by omega) c_13
      refine lv_aload_n hx hb d_M_spawn_18 rfl (lv_at hl 0 rfl) ?_
      refine lv_iload_n hx hb d_M_spawn_19 rfl (lv_at hl 1 rfl) ?_
      refine lv_iload_n hx hb d_M_spawn_20 rfl (lv_at hl 2 rfl) ?_
      refine wci hW hA (va_runV (As := [.int (x), .int (y)]) (rest := []) ⟨hx, hb, hml, hown, hts⟩ (c_M_make l (x) (y) (nn y) e4 (by omega) hO ⟨nn x, by omega, e2⟩ _) (cv 2 hts kc_M_make ki_M_make ke_M_make kn_M km_M_96 kh_M_make rfl rfl ⟨by decide, by decide⟩) (preW hW rfl rfl (mw_get (by omega) mm_root)) rfl rfl hl.1 rfl (lv_room (Nat.le_of_ble_eq_true rfl)) d_M_spawn_21 ⟨by decide, by decide⟩) (fun rr5 uu5 H locs hp5 hW => ?_)
      have hW : Wd D classes (tysA g) s A (wM g am ((mMake r (x) (y)).2)) H locs := hW
      obtain ⟨mr6, ev6⟩ : ∃ z : Vs, z = (mMake r (x) (y)).2 := ⟨_, rfl⟩
      rw [← ev6] at hW
      have hO6 : OkM mr6 := by rw [ev6]; exact hO.make ⟨nn x, by omega, e2⟩ ⟨nn y, by omega, e4⟩
      have hp5 : rr5 = (mMake r (x) (y)).1 := hp5
      subst hp5
      refine lv_istore_n (lv' := [(3, .int ((mMake r (x) (y)).1)), (0, .ref (am (0))), (1, .int (x)), (2, .int (y))]) hx hb d_M_spawn_24 rfl hl (by decide) rfl (fun ls hl => ?_)
      refine lv_iload_n hx hb d_M_spawn_25 rfl (lv_at hl 0 rfl) ?_
      refine lv_if_ge (tgt := 34) hx hb d_M_spawn_26 (by decide) (fun c_26 => ?_) (fun c_26 => ?_)
      · refine lv_iload_n hx hb d_M_spawn_34 rfl (lv_at hl 0 rfl) ?_
        have hf2 : (mSpw r x y).2 = mr6 := by subst ev6; simp only [mSpw, if_neg c_5, if_neg c_13, if_pos c_26]
        have hf1 : (mSpw r x y).1 = (mMake r (x) (y)).1 := by simp only [mSpw, if_neg c_5, if_neg c_13, if_pos c_26]
        refine hret _ () _ _ _ _ _ _ ?_ (by show Wd D classes (tysA g) s A (wM g am ((mSpw r x y).2)) _ _; rw [hf2]; exact hW) (by decide) (by decide) d_M_spawn_35
        exact hf1.symm
      · refine lv_bipush (v := (-2)) hx hb d_M_spawn_29 (by decide) ?_
        refine lv_goto (tgt := 35) hx hb d_M_spawn_31 (by decide) ?_
        have hf2 : (mSpw r x y).2 = mr6 := by subst ev6; simp only [mSpw, if_neg c_5, if_neg c_13, if_neg c_26]
        have hf1 : (mSpw r x y).1 = (-2) := by simp only [mSpw, if_neg c_5, if_neg c_13, if_neg c_26]
        refine hret _ () _ _ _ _ _ _ ?_ (by show Wd D classes (tysA g) s A (wM g am ((mSpw r x y).2)) _ _; rw [hf2]; exact hW) (by decide) (by decide) d_M_spawn_35
        exact hf1.symm
    · have c_13 : outP (y) (2) := bo_ne hp3 c_13
      refine lv_iconst (v := (-1)) hx hb d_M_spawn_16 (by decide) ?_
      have hf2 : (mSpw r x y).2 = r := by skip; simp only [mSpw, if_neg c_5, if_pos c_13]
      have hf1 : (mSpw r x y).1 = (-1) := by simp only [mSpw, if_neg c_5, if_pos c_13]
      refine hret _ () _ _ _ _ _ _ ?_ (by show Wd D classes (tysA g) s A (wM g am ((mSpw r x y).2)) _ _; rw [hf2]; exact hW) (by decide) (by decide) d_M_spawn_17
      exact hf1.symm
abbrev rm_M_ended : Room := { frames := 1, cells := 0, slots := 0, locals := 21 }
set_option maxHeartbeats 4000000 in
set_option maxRecDepth 100000 in
theorem c_M_ended (l : Launch) {D : va_G} {g : Nat → ClassId} {am : Nat → Nat} {r : Vs} (x : Int32) (hO : OkM r) : MtI l y_M_ended ws_M_ended rm_M_ended D classes (tysA g) [.ref (am (0)), .int (x)] (wM g am (r)) (fun (rr : Int32) (_ : Unit) => rr = if edP r x then 1 else 0) (fun _ => wM g am (r)) 0 0 := by
  refine mt_i (ty := .boolean) (fun r _ h => by rw [h]; split <;> rfl) (by decide +kernel) rfl (Nat.le_of_ble_eq_true rfl) (fun p e s m args below meth c Q A C hA hW hret ls hl => ?_)
  obtain ⟨hx, hb, hr, hml, hown, hts0, hlocks⟩ := C
  have hts : ∀ w ∈ bigw, w.before args s = true := fun w h => hts0 w (List.mem_cons_of_mem _ h)
  have hown : s.vm.findClass R_M = some m.cls := hown
  have hnp := hO.le
  have hl : lv_has ls 2 [(0, .ref (am (0))), (1, .int (x))] := hl
  refine lv_aload_n hx hb d_M_ended_0 rfl (lv_at hl 0 rfl) ?_
  refine lv_iload_n hx hb d_M_ended_1 rfl (lv_at hl 1 rfl) ?_
  refine wci hW hA (va_runV (As := [.int (x)]) (rest := []) ⟨hx, hb, hml, hown, hts⟩ (c_M_noProcess l (x) hO _) (cv 1 hts kc_M_noProcess ki_M_noProcess ke_M_noProcess kn_M km_M_100 kh_M_noProcess rfl rfl ⟨by decide, by decide⟩) (preW hW rfl rfl (mw_get (by omega) mm_root)) rfl rfl hl.1 rfl (lv_room (Nat.le_of_ble_eq_true rfl)) d_M_ended_2 ⟨by decide, by decide⟩) (fun rr1 uu1 H locs hp1 hW => ?_)
  have hW : Wd D classes (tysA g) s A (wM g am (r)) H locs := hW
  have hp1 : rr1 = if npP r (x) then 1 else 0 := hp1
  refine lv_if_ne (tgt := 22) hx hb d_M_ended_5 (by decide) (fun c_5 => ?_) (fun c_5 => ?_)
  · have c_5 : npP r (x) := bo_ne hp1 c_5
    refine lv_iconst (v := 0) hx hb d_M_ended_22 (by decide) ?_
    refine hret _ () _ _ _ _ _ _ ?_ hW (by decide) (by decide) d_M_ended_23
    show 0 = if edP r x then (1 : Int32) else 0
    exact ite_f (fun h => h.1 c_5)
  · have c_5 : ¬ (npP r (x)) := bo_eq hp1 c_5
    obtain ⟨e2, b2⟩ := nnp_nn hO c_5
    refine lv_aload_n hx hb d_M_ended_8 rfl (lv_at hl 0 rfl) ?_
    refine wg hx hb hts i_M hown hW (0) (by omega) mm_root rfl 8 (by decide) (hts _ kf_M_34) rfl d_M_ended_9 ?_
    refine lv_iload_n hx hb d_M_ended_12 rfl (lv_at hl 1 rfl) ?_
    refine wi hx hb hW (9) (by omega) mm_9 0 rfl (nn x) e2 (by omega) (by decide) d_M_ended_13 ?_
    refine lv_iconst (v := 4) hx hb d_M_ended_14 (by decide) ?_
    refine lv_icmp_ne (tgt := 22) hx hb d_M_ended_15 (by decide) (fun c_15 => ?_) (fun c_15 => ?_)
    · refine lv_iconst (v := 0) hx hb d_M_ended_22 (by decide) ?_
      refine hret _ () _ _ _ _ _ _ ?_ hW (by decide) (by decide) d_M_ended_23
      show 0 = if edP r x then (1 : Int32) else 0
      exact ite_f (fun h => c_15 h.2)
    · refine lv_iconst (v := 1) hx hb d_M_ended_18 (by decide) ?_
      refine lv_goto (tgt := 23) hx hb d_M_ended_19 (by decide) ?_
      refine hret _ () _ _ _ _ _ _ ?_ hW (by decide) (by decide) d_M_ended_23
      show 1 = if edP r x then (1 : Int32) else 0
      exact ite_t ⟨c_5, c_15⟩
abbrev rm_M_end : Room := { frames := 2, cells := 0, slots := 0, locals := 41 }
set_option maxHeartbeats 4000000 in
set_option maxRecDepth 100000 in
theorem c_M_end (l : Launch) {D : va_G} {g : Nat → ClassId} {am : Nat → Nat} {r : Vs} (x : Int32) (pn : Nat) (zx : x = nI pn) (lpn : pn < 8) (y : Int32) (hO : OkM r) : MtV l y_M_end ws_M_end rm_M_end D classes (tysA g) [.ref (am (0)), .int (x), .int (y)] (wM g am (r)) (fun _ : Unit => True) (fun _ => wM g am (mEnd r x pn y)) 0 0 := by
  refine mt_v (by decide +kernel) rfl (Nat.le_of_ble_eq_true rfl) (fun p e s m args below meth c Q A C hnm hA hW hret ls hl => ?_)
  obtain ⟨hx, hb, hr, hml, hown, hts0, hlocks⟩ := C
  have hts : ∀ w ∈ bigw, w.before args s = true := fun w h => hts0 w (List.mem_cons_of_mem _ h)
  have hown : s.vm.findClass R_M = some m.cls := hown
  have hnp := hO.le
  have hl : lv_has ls 4 [(0, .ref (am (0))), (1, .int (x)), (2, .int (y))] := hl
  refine lv_aload_n hx hb d_M_end_0 rfl (lv_at hl 0 rfl) ?_
  refine wg hx hb hts i_M hown hW (0) (by omega) mm_root rfl 8 (by decide) (hts _ kf_M_34) rfl d_M_end_1 ?_
  refine lv_iload_n hx hb d_M_end_4 rfl (lv_at hl 1 rfl) ?_
  refine lv_iconst (v := 4) hx hb d_M_end_5 (by decide) ?_
  refine wis hx hb hW (9) (by omega) mm_9 0 rfl (pn) zx (by omega) (by decide) (x := 4) mm_9 d_M_end_6 (fun H locs hW => ?_)
  obtain ⟨mr1, ev1⟩ : ∃ z : Vs, z = u2 r (9) (pn) (4) := ⟨_, rfl⟩
  rw [← ev1] at hW
  have hO1 : OkM mr1 := by rw [ev1]; exact hO.fr (by omega)
  refine lv_aload_n hx hb d_M_end_7 rfl (lv_at hl 0 rfl) ?_
  refine wg hx hb hts i_M hown hW (0) (by omega) mm_root rfl 11 (by decide) (hts _ kf_M_43) rfl d_M_end_8 ?_
  refine lv_iload_n hx hb d_M_end_11 rfl (lv_at hl 1 rfl) ?_
  refine lv_iload_n hx hb d_M_end_12 rfl (lv_at hl 2 rfl) ?_
  refine wis hx hb hW (12) (by omega) mm_12 0 rfl (pn) zx (by omega) (by decide) (x := y) mm_12 d_M_end_13 (fun H locs hW => ?_)
  obtain ⟨mr2, ev2⟩ : ∃ z : Vs, z = u2 mr1 (12) (pn) (y) := ⟨_, rfl⟩
  rw [← ev2] at hW
  have hO2 : OkM mr2 := by rw [ev2]; exact hO1.fr (by omega)
  refine lv_aload_n hx hb d_M_end_14 rfl (lv_at hl 0 rfl) ?_
  refine wg hx hb hts i_M hown hW (0) (by omega) mm_root rfl 13 (by decide) (hts _ kf_M_49) rfl d_M_end_15 ?_
  refine lv_iload_n hx hb d_M_end_18 rfl (lv_at hl 1 rfl) ?_
  refine lv_bipush (v := 8) hx hb d_M_end_19 (by decide) ?_
  refine wis hx hb hW (14) (by omega) mm_14 0 rfl (pn) zx (by omega) (by decide) (x := 8) mm_14 d_M_end_21 (fun H locs hW => ?_)
  obtain ⟨mr3, ev3⟩ : ∃ z : Vs, z = u2 mr2 (14) (pn) (8) := ⟨_, rfl⟩
  rw [← ev3] at hW
  have hO3 : OkM mr3 := by rw [ev3]; exact hO2.fr (by omega)
  refine lv_iconst (v := 0) hx hb d_M_end_22 (by decide) ?_
  refine lv_istore_n (lv' := [(3, .int (0)), (0, .ref (am (0))), (1, .int (x)), (2, .int (y))]) hx hb d_M_end_23 rfl hl (by decide) rfl (fun ls hl => ?_)
  have hK0 : nv mr3 0 14 = nv r 0 14 := by unfold nv; subst ev3 ev2 ev1; rw [u2_a (by omega), u2_a (by omega), u2_a (by omega)]
  have loop : ∀ (k : Nat) (q : Nat) (rc : Vs) (H : Heap) (locs : List Loc) (ls : Array Slot), OkM rc → nv rc 0 14 = nv r 0 14 → nv r 0 14 = q + k → mEndL x k q rc = mEnd r x pn y → Wd D classes (tysA g) s A (wM g am (rc)) H locs → lv_has ls 4 [(0, .ref (am (0))), (1, .int (x)), (3, .int (nI (q)))] → W p l e rm_M_end s m args below meth c H locs 0 0 Q (F0 m 24 ls []) := by
    intro k
    induction k with
    | zero =>
      intro q rc H locs ls hOc hKc hq hT hW hl
      refine lv_iload_n hx hb d_M_end_24 rfl (lv_at hl 2 rfl) ?_
      refine lv_aload_n hx hb d_M_end_25 rfl (lv_at hl 0 rfl) ?_
      refine wg hx hb hts i_M hown hW (0) (by omega) mm_root rfl 14 (by decide) (hts _ kf_M_81) rfl d_M_end_26 ?_
      obtain ⟨e4, b4⟩ := hOc.made
      refine lv_icmp_ge (tgt := 63) hx hb d_M_end_29 (by decide) (fun c_29 => ?_) (fun c_29 => ?_)
      · have nc_29 : nv rc (0) 14 ≤ q := ni_le e4 rfl (by omega) (by omega) c_29
        exact hret () _ _ _ _ _ _ trivial (by show Wd D classes (tysA g) s A (wM g am (mEnd r x pn y)) _ _; rw [← hT]; exact hW) (by decide) (by decide) d_M_end_63
      · have nc_29 : q < nv rc (0) 14 := ni_nle e4 rfl (by omega) (by omega) c_29
        exfalso; omega
    | succ k ih =>
      intro q rc H locs ls hOc hKc hq hT hW hl
      refine lv_iload_n hx hb d_M_end_24 rfl (lv_at hl 2 rfl) ?_
      refine lv_aload_n hx hb d_M_end_25 rfl (lv_at hl 0 rfl) ?_
      refine wg hx hb hts i_M hown hW (0) (by omega) mm_root rfl 14 (by decide) (hts _ kf_M_81) rfl d_M_end_26 ?_
      obtain ⟨e5, b5⟩ := hOc.made
      refine lv_icmp_ge (tgt := 63) hx hb d_M_end_29 (by decide) (fun c_29 => ?_) (fun c_29 => ?_)
      · have nc_29 : nv rc (0) 14 ≤ q := ni_le e5 rfl (by omega) (by omega) c_29
        exfalso; omega
      · have nc_29 : q < nv rc (0) 14 := ni_nle e5 rfl (by omega) (by omega) c_29
        refine lv_aload_n hx hb d_M_end_32 rfl (lv_at hl 0 rfl) ?_
        refine wg hx hb hts i_M hown hW (0) (by omega) mm_root rfl 8 (by decide) (hts _ kf_M_34) rfl d_M_end_33 ?_
        refine lv_iload_n hx hb d_M_end_36 rfl (lv_at hl 2 rfl) ?_
        refine wi hx hb hW (9) (by omega) mm_9 0 rfl (q) rfl (by omega) (by decide) d_M_end_37 ?_
        refine lv_iconst (v := 3) hx hb d_M_end_38 (by decide) ?_
        refine lv_icmp_ne (tgt := 57) hx hb d_M_end_39 (by decide) (fun c_39 => ?_) (fun c_39 => ?_)
        · refine lv_iinc (v := nI (q + 1)) (lv' := [(3, .int (nI (q + 1))), (0, .ref (am (0))), (1, .int (x))]) hx hb d_M_end_57 hl (k := 2) rfl (nI_1 _) (by decide) rfl (fun ls hl => ?_)
          refine lv_goto (tgt := 24) hx hb d_M_end_60 (by decide) ?_
          refine ih (q + 1) rc _ _ _ hOc hKc (by omega) ?_ hW (lv_sub hl [1, 2, 0] rfl)
          rw [← hT, mEndL]; skip; simp only [if_neg c_39]
        · refine lv_aload_n hx hb d_M_end_42 rfl (lv_at hl 0 rfl) ?_
          refine wg hx hb hts i_M hown hW (0) (by omega) mm_root rfl 12 (by decide) (hts _ kf_M_46) rfl d_M_end_43 ?_
          refine lv_iload_n hx hb d_M_end_46 rfl (lv_at hl 2 rfl) ?_
          refine wi hx hb hW (13) (by omega) mm_13 0 rfl (q) rfl (by omega) (by decide) d_M_end_47 ?_
          refine lv_iload_n hx hb d_M_end_48 rfl (lv_at hl 1 rfl) ?_
          refine lv_icmp_ne (tgt := 57) hx hb d_M_end_49 (by decide) (fun c_49 => ?_) (fun c_49 => ?_)
          · refine lv_iinc (v := nI (q + 1)) (lv' := [(3, .int (nI (q + 1))), (0, .ref (am (0))), (1, .int (x))]) hx hb d_M_end_57 hl (k := 2) rfl (nI_1 _) (by decide) rfl (fun ls hl => ?_)
            refine lv_goto (tgt := 24) hx hb d_M_end_60 (by decide) ?_
            refine ih (q + 1) rc _ _ _ hOc hKc (by omega) ?_ hW (lv_sub hl [1, 2, 0] rfl)
            rw [← hT, mEndL]; skip; simp only [if_pos c_39, if_neg c_49]
          · refine lv_aload_n hx hb d_M_end_52 rfl (lv_at hl 0 rfl) ?_
            refine lv_iload_n hx hb d_M_end_53 rfl (lv_at hl 2 rfl) ?_
            refine wcv hW hA (va_runV (As := [.int (nI (q))]) (rest := []) ⟨hx, hb, hml, hown, hts⟩ (c_M_ready l (nI (q)) q rfl (by omega) hOc _) (cv 1 hts kc_M_ready ki_M_ready ke_M_ready kn_M km_M_92 kh_M_ready rfl rfl ⟨by decide, by decide⟩) (preW hW rfl rfl (mw_get (by omega) mm_root)) rfl rfl hl.1 rfl (lv_room (Nat.le_of_ble_eq_true rfl)) d_M_end_54 ⟨by decide, by decide⟩) (fun uu6 H locs hp6 hW => ?_)
            have hW : Wd D classes (tysA g) s A (wM g am (mRdy rc q)) H locs := hW
            obtain ⟨mr7, ev7⟩ : ∃ z : Vs, z = mRdy rc q := ⟨_, rfl⟩
            rw [← ev7] at hW
            have hO7 : OkM mr7 := by rw [ev7]; exact hOc.rdy
            refine lv_iinc (v := nI (q + 1)) (lv' := [(3, .int (nI (q + 1))), (0, .ref (am (0))), (1, .int (x))]) hx hb d_M_end_57 hl (k := 2) rfl (nI_1 _) (by decide) rfl (fun ls hl => ?_)
            refine lv_goto (tgt := 24) hx hb d_M_end_60 (by decide) ?_
            refine ih (q + 1) mr7 _ _ _ hO7 (by rw [← hKc]; unfold nv; subst ev7; rw [mRdy_m]) (by omega) ?_ hW (lv_sub hl [1, 2, 0] rfl)
            rw [← hT, mEndL]; subst ev7; simp only [if_pos c_39, if_pos c_49]
  refine loop (nv r 0 14) 0 mr3 _ _ _ hO3 hK0 (by omega) ?_ hW (lv_sub hl [1, 2, 0] rfl)
  subst ev3 ev2 ev1; rfl
abbrev rm_M_fault : Room := { frames := 1, cells := 0, slots := 0, locals := 20 }
set_option maxHeartbeats 4000000 in
set_option maxRecDepth 100000 in
theorem c_M_fault (l : Launch) {D : va_G} {g : Nat → ClassId} {am : Nat → Nat} {r : Vs} (x : Int32) (pn : Nat) (zx : x = nI pn) (lpn : pn < 8) (op : Int32) (y : Int32) (t : Nat) (zy : y = nI t) (lt : t < 32) (hO : OkM r) : MtI l y_M_fault ws_M_fault rm_M_fault D classes (tysA g) [.ref (am (0)), .int (x), .int (op), .int (y)] (wM g am (r)) (fun (rr : Int32) (_ : Unit) => rr = if fltP r pn op t then 1 else 0) (fun _ => wM g am (mFault r pn op y t)) 0 0 := by
  refine mt_i (ty := .boolean) (fun r _ h => by rw [h]; split <;> rfl) (by decide +kernel) rfl (Nat.le_of_ble_eq_true rfl) (fun p e s m args below meth c Q A C hA hW hret ls hl => ?_)
  obtain ⟨hx, hb, hr, hml, hown, hts0, hlocks⟩ := C
  have hts : ∀ w ∈ bigw, w.before args s = true := fun w h => hts0 w (List.mem_cons_of_mem _ h)
  have hown : s.vm.findClass R_M = some m.cls := hown
  have hnp := hO.le
  have hl : lv_has ls 5 [(0, .ref (am (0))), (1, .int (x)), (2, .int (op)), (3, .int (y))] := hl
  refine lv_iload_n hx hb d_M_fault_0 rfl (lv_at hl 2 rfl) ?_
  refine lv_iconst (v := 2) hx hb d_M_fault_1 (by decide) ?_
  refine lv_icmp_lt (tgt := 10) hx hb d_M_fault_2 (by decide) (fun c_2 => ?_) (fun c_2 => ?_)
  · refine lv_iconst (v := 0) hx hb d_M_fault_10 (by decide) ?_
    have hF : ¬ fltP r pn op t := (fun h => h.1.1 c_2)
    have hfin : mFault r pn op y t = r := by
      skip; simp only [mFault, mFl0, if_neg hF]
    exact hret _ () _ _ _ _ _ _ (ite_f hF) (by show Wd D classes (tysA g) s A (wM g am (mFault r pn op y t)) _ _; rw [hfin]; exact hW) (by decide) (by decide) d_M_fault_11
  · refine lv_iload_n hx hb d_M_fault_5 rfl (lv_at hl 2 rfl) ?_
    refine lv_iconst (v := 4) hx hb d_M_fault_6 (by decide) ?_
    refine lv_icmp_le (tgt := 12) hx hb d_M_fault_7 (by decide) (fun c_7 => ?_) (fun c_7 => ?_)
    · refine lv_aload_n hx hb d_M_fault_12 rfl (lv_at hl 0 rfl) ?_
      refine wg hx hb hts i_M hown hW (0) (by omega) mm_root rfl 19 (by decide) (hts _ kf_M_65) rfl d_M_fault_13 ?_
      refine lv_bipush (v := 8) hx hb d_M_fault_16 (by decide) ?_
      refine lv_aload_n hx hb d_M_fault_18 rfl (lv_at hl 0 rfl) ?_
      refine wg hx hb hts i_M hown hW (0) (by omega) mm_root rfl 7 (by decide) (hts _ kf_M_31) rfl d_M_fault_19 ?_
      refine lv_iload_n hx hb d_M_fault_22 rfl (lv_at hl 1 rfl) ?_
      refine wi hx hb hW (8) (by omega) mm_8 0 rfl (pn) zx (by omega) (by decide) d_M_fault_23 ?_
      obtain ⟨e1, b1⟩ := hO.c8 (pn)
      refine lv_imul hx hb d_M_fault_24 ?_
      refine lv_iload_n hx hb d_M_fault_25 rfl (lv_at hl 3 rfl) ?_
      refine lv_iconst (v := 4) hx hb d_M_fault_26 (by decide) ?_
      refine lv_idiv hx hb d_M_fault_27 (by decide) ?_
      refine lv_iadd hx hb d_M_fault_28 ?_
      refine wi hx hb hW (19) (by omega) mm_19 0 rfl (8 * (nv r (8) (pn)) + t / 4) (ni_add (ni_mul rfl e1) (ni_div zy rfl (by omega) (by decide) (by decide))) (by omega) (by decide) d_M_fault_29 ?_
      refine lv_istore (lv' := [(4, .int (r (19) (8 * (nv r (8) (pn)) + t / 4))), (0, .ref (am (0))), (1, .int (x)), (2, .int (op)), (3, .int (y))]) hx hb d_M_fault_30 hl (by decide) rfl (fun ls hl => ?_)
      refine lv_iload hx hb d_M_fault_32 (lv_at hl 0 rfl) ?_
      refine lv_iconst (v := 2) hx hb d_M_fault_34 (by decide) ?_
      refine lv_icmp_eq (tgt := 49) hx hb d_M_fault_35 (by decide) (fun c_35 => ?_) (fun c_35 => ?_)
      · refine lv_iconst (v := 0) hx hb d_M_fault_49 (by decide) ?_
        have hF : ¬ fltP r pn op t := (fun h => h.2.1 c_35)
        have hfin : mFault r pn op y t = r := by
          skip; simp only [mFault, mFl0, if_neg hF]
        exact hret _ () _ _ _ _ _ _ (ite_f hF) (by show Wd D classes (tysA g) s A (wM g am (mFault r pn op y t)) _ _; rw [hfin]; exact hW) (by decide) (by decide) d_M_fault_50
      · refine lv_iload hx hb d_M_fault_38 (lv_at hl 0 rfl) ?_
        refine lv_iconst (v := 1) hx hb d_M_fault_40 (by decide) ?_
        refine lv_icmp_ne (tgt := 51) hx hb d_M_fault_41 (by decide) (fun c_41 => ?_) (fun c_41 => ?_)
        · refine lv_aload_n hx hb d_M_fault_51 rfl (lv_at hl 1 rfl) ?_
          refine lv_dup hx hb d_M_fault_52 rfl ?_
          refine wg hx hb hts i_M hown hW (0) (by omega) mm_root rfl 25 (by decide) (hts _ kf_M_104) rfl d_M_fault_53 ?_
          refine lv_iconst (v := 1) hx hb d_M_fault_56 (by decide) ?_
          refine lv_iadd hx hb d_M_fault_57 ?_
          refine wp hx hb hts i_M t_M t_M_ok n_M hown hW (0) (by omega) mm_root rfl 25 (by decide) (hts _ kf_M_104) rfl (by decide +kernel) (x := (r 0 25) + (1)) (Nat.le_of_ble_eq_true rfl) (mm_root.trans rfl) d_M_fault_58 (fun H locs hW => ?_)
          obtain ⟨mr2, ev2⟩ : ∃ z : Vs, z = u2 r (0) 25 ((r 0 25) + (1)) := ⟨_, rfl⟩
          rw [← ev2] at hW
          have hO2 : OkM mr2 := by rw [ev2]; exact hO.fr (by omega)
          refine lv_aload_n hx hb d_M_fault_61 rfl (lv_at hl 1 rfl) ?_
          refine wg hx hb hts i_M hown hW (0) (by omega) mm_root rfl 8 (by decide) (hts _ kf_M_34) rfl d_M_fault_62 ?_
          refine lv_iload_n hx hb d_M_fault_65 rfl (lv_at hl 2 rfl) ?_
          refine lv_iconst (v := 2) hx hb d_M_fault_66 (by decide) ?_
          refine wis hx hb hW (9) (by omega) mm_9 0 rfl (pn) zx (by omega) (by decide) (x := 2) mm_9 d_M_fault_67 (fun H locs hW => ?_)
          obtain ⟨mr3, ev3⟩ : ∃ z : Vs, z = u2 mr2 (9) (pn) (2) := ⟨_, rfl⟩
          rw [← ev3] at hW
          have hO3 : OkM mr3 := by rw [ev3]; exact hO2.fr (by omega)
          refine lv_aload_n hx hb d_M_fault_68 rfl (lv_at hl 1 rfl) ?_
          refine wg hx hb hts i_M hown hW (0) (by omega) mm_root rfl 13 (by decide) (hts _ kf_M_49) rfl d_M_fault_69 ?_
          refine lv_iload_n hx hb d_M_fault_72 rfl (lv_at hl 2 rfl) ?_
          refine lv_iload_n hx hb d_M_fault_73 rfl (lv_at hl 4 rfl) ?_
          refine lv_iconst (v := 4) hx hb d_M_fault_74 (by decide) ?_
          refine lv_idiv hx hb d_M_fault_75 (by decide) ?_
          refine wis hx hb hW (14) (by omega) mm_14 0 rfl (pn) zx (by omega) (by decide) (x := (y) / (4)) mm_14 d_M_fault_76 (fun H locs hW => ?_)
          obtain ⟨mr4, ev4⟩ : ∃ z : Vs, z = u2 mr3 (14) (pn) ((y) / (4)) := ⟨_, rfl⟩
          rw [← ev4] at hW
          have hO4 : OkM mr4 := by rw [ev4]; exact hO3.fr (by omega)
          refine lv_aload_n hx hb d_M_fault_77 rfl (lv_at hl 1 rfl) ?_
          refine wg hx hb hts i_M hown hW (0) (by omega) mm_root rfl 15 (by decide) (hts _ kf_M_52) rfl d_M_fault_78 ?_
          refine lv_iload_n hx hb d_M_fault_81 rfl (lv_at hl 2 rfl) ?_
          refine lv_aload_n hx hb d_M_fault_82 rfl (lv_at hl 1 rfl) ?_
          refine wci hW hA (va_runV (As := []) (rest := [.int (x), .ref (am (15))]) ⟨hx, hb, hml, hown, hts⟩ (c_M_tick l hO4 _) (cv 0 hts kc_M_tick ki_M_tick ke_M_tick kn_M km_M_88 kh_M_tick rfl rfl ⟨by decide, by decide⟩) (preW hW rfl rfl (mw_get (by omega) mm_root)) rfl rfl hl.1 rfl (lv_room (Nat.le_of_ble_eq_true rfl)) d_M_fault_83 ⟨by decide, by decide⟩) (fun rr5 uu5 H locs hp5 hW => ?_)
          have hW : Wd D classes (tysA g) s A (wM g am (mTick mr4)) H locs := hW
          obtain ⟨mr6, ev6⟩ : ∃ z : Vs, z = mTick mr4 := ⟨_, rfl⟩
          rw [← ev6] at hW
          have hO6 : OkM mr6 := by rw [ev6]; exact hO4.tick
          have hp5 : rr5 = mTick mr4 0 23 := hp5
          subst hp5
          refine wis hx hb hW (15) (by omega) mm_15 0 rfl (pn) zx (by omega) (by decide) (x := mTick mr4 0 23) mm_15 d_M_fault_86 (fun H locs hW => ?_)
          obtain ⟨mr7, ev7⟩ : ∃ z : Vs, z = u2 mr6 (15) (pn) (mTick mr4 0 23) := ⟨_, rfl⟩
          rw [← ev7] at hW
          have hO7 : OkM mr7 := by rw [ev7]; exact hO6.fr (by omega)
          refine lv_aload_n hx hb d_M_fault_87 rfl (lv_at hl 1 rfl) ?_
          refine wg hx hb hts i_M hown hW (0) (by omega) mm_root rfl 16 (by decide) (hts _ kf_M_55) rfl d_M_fault_88 ?_
          refine lv_iload_n hx hb d_M_fault_91 rfl (lv_at hl 2 rfl) ?_
          refine lv_iload_n hx hb d_M_fault_92 rfl (lv_at hl 4 rfl) ?_
          refine lv_iconst (v := 4) hx hb d_M_fault_93 (by decide) ?_
          refine lv_idiv hx hb d_M_fault_94 (by decide) ?_
          refine wis hx hb hW (16) (by omega) mm_16 0 rfl (pn) zx (by omega) (by decide) (x := (y) / (4)) mm_16 d_M_fault_95 (fun H locs hW => ?_)
          obtain ⟨mr8, ev8⟩ : ∃ z : Vs, z = u2 mr7 (16) (pn) ((y) / (4)) := ⟨_, rfl⟩
          rw [← ev8] at hW
          have hO8 : OkM mr8 := by rw [ev8]; exact hO7.fr (by omega)
          refine lv_aload_n hx hb d_M_fault_96 rfl (lv_at hl 1 rfl) ?_
          refine wg hx hb hts i_M hown hW (0) (by omega) mm_root rfl 17 (by decide) (hts _ kf_M_58) rfl d_M_fault_97 ?_
          refine lv_iload_n hx hb d_M_fault_100 rfl (lv_at hl 2 rfl) ?_
          refine lv_iload_n hx hb d_M_fault_101 rfl (lv_at hl 3 rfl) ?_
          refine lv_iconst (v := 2) hx hb d_M_fault_102 (by decide) ?_
          refine lv_icmp_eq (tgt := 110) hx hb d_M_fault_103 (by decide) (fun c_103 => ?_) (fun c_103 => ?_)
          · refine lv_iconst (v := 0) hx hb d_M_fault_110 (by decide) ?_
            refine wzs hx hb hW (17) (by omega) mm_17 5 rfl (pn) zx (by omega) (by decide) (x := 0) mm_17 (by decide) d_M_fault_111 (fun H locs hW => ?_)
            obtain ⟨mr9, ev9⟩ : ∃ z : Vs, z = u2 mr8 (17) (pn) (0) := ⟨_, rfl⟩
            rw [← ev9] at hW
            have hO9 : OkM mr9 := by rw [ev9]; exact hO8.fr (by omega)
            refine lv_iconst (v := 1) hx hb d_M_fault_112 (by decide) ?_
            have hF : fltP r pn op t := ⟨⟨c_2, c_7⟩, c_35, fun h => c_41 h.1⟩
            have hfin : mFault r pn op y t = mr9 := by
              subst ev9 ev8 ev7 ev6 ev4 ev3 ev2; simp only [mFault, mFl0, if_pos hF, if_pos c_103]
            exact hret _ () _ _ _ _ _ _ (ite_t hF) (by show Wd D classes (tysA g) s A (wM g am (mFault r pn op y t)) _ _; rw [hfin]; exact hW) (by decide) (by decide) d_M_fault_113
          · refine lv_iconst (v := 1) hx hb d_M_fault_106 (by decide) ?_
            refine lv_goto (tgt := 111) hx hb d_M_fault_107 (by decide) ?_
            refine wzs hx hb hW (17) (by omega) mm_17 5 rfl (pn) zx (by omega) (by decide) (x := 1) mm_17 (by decide) d_M_fault_111 (fun H locs hW => ?_)
            obtain ⟨mr10, ev10⟩ : ∃ z : Vs, z = u2 mr8 (17) (pn) (1) := ⟨_, rfl⟩
            rw [← ev10] at hW
            have hO10 : OkM mr10 := by rw [ev10]; exact hO8.fr (by omega)
            refine lv_iconst (v := 1) hx hb d_M_fault_112 (by decide) ?_
            have hF : fltP r pn op t := ⟨⟨c_2, c_7⟩, c_35, fun h => c_41 h.1⟩
            have hfin : mFault r pn op y t = mr10 := by
              subst ev10 ev8 ev7 ev6 ev4 ev3 ev2; simp only [mFault, mFl0, if_pos hF, if_neg c_103]
            exact hret _ () _ _ _ _ _ _ (ite_t hF) (by show Wd D classes (tysA g) s A (wM g am (mFault r pn op y t)) _ _; rw [hfin]; exact hW) (by decide) (by decide) d_M_fault_113
        · refine lv_iload_n hx hb d_M_fault_44 rfl (lv_at hl 3 rfl) ?_
          refine lv_iconst (v := 2) hx hb d_M_fault_45 (by decide) ?_
          refine lv_icmp_ne (tgt := 51) hx hb d_M_fault_46 (by decide) (fun c_46 => ?_) (fun c_46 => ?_)
          · refine lv_aload_n hx hb d_M_fault_51 rfl (lv_at hl 1 rfl) ?_
            refine lv_dup hx hb d_M_fault_52 rfl ?_
            refine wg hx hb hts i_M hown hW (0) (by omega) mm_root rfl 25 (by decide) (hts _ kf_M_104) rfl d_M_fault_53 ?_
            refine lv_iconst (v := 1) hx hb d_M_fault_56 (by decide) ?_
            refine lv_iadd hx hb d_M_fault_57 ?_
            refine wp hx hb hts i_M t_M t_M_ok n_M hown hW (0) (by omega) mm_root rfl 25 (by decide) (hts _ kf_M_104) rfl (by decide +kernel) (x := (r 0 25) + (1)) (Nat.le_of_ble_eq_true rfl) (mm_root.trans rfl) d_M_fault_58 (fun H locs hW => ?_)
            obtain ⟨mr11, ev11⟩ : ∃ z : Vs, z = u2 r (0) 25 ((r 0 25) + (1)) := ⟨_, rfl⟩
            rw [← ev11] at hW
            have hO11 : OkM mr11 := by rw [ev11]; exact hO.fr (by omega)
            refine lv_aload_n hx hb d_M_fault_61 rfl (lv_at hl 1 rfl) ?_
            refine wg hx hb hts i_M hown hW (0) (by omega) mm_root rfl 8 (by decide) (hts _ kf_M_34) rfl d_M_fault_62 ?_
            refine lv_iload_n hx hb d_M_fault_65 rfl (lv_at hl 2 rfl) ?_
            refine lv_iconst (v := 2) hx hb d_M_fault_66 (by decide) ?_
            refine wis hx hb hW (9) (by omega) mm_9 0 rfl (pn) zx (by omega) (by decide) (x := 2) mm_9 d_M_fault_67 (fun H locs hW => ?_)
            obtain ⟨mr12, ev12⟩ : ∃ z : Vs, z = u2 mr11 (9) (pn) (2) := ⟨_, rfl⟩
            rw [← ev12] at hW
            have hO12 : OkM mr12 := by rw [ev12]; exact hO11.fr (by omega)
            refine lv_aload_n hx hb d_M_fault_68 rfl (lv_at hl 1 rfl) ?_
            refine wg hx hb hts i_M hown hW (0) (by omega) mm_root rfl 13 (by decide) (hts _ kf_M_49) rfl d_M_fault_69 ?_
            refine lv_iload_n hx hb d_M_fault_72 rfl (lv_at hl 2 rfl) ?_
            refine lv_iload_n hx hb d_M_fault_73 rfl (lv_at hl 4 rfl) ?_
            refine lv_iconst (v := 4) hx hb d_M_fault_74 (by decide) ?_
            refine lv_idiv hx hb d_M_fault_75 (by decide) ?_
            refine wis hx hb hW (14) (by omega) mm_14 0 rfl (pn) zx (by omega) (by decide) (x := (y) / (4)) mm_14 d_M_fault_76 (fun H locs hW => ?_)
            obtain ⟨mr13, ev13⟩ : ∃ z : Vs, z = u2 mr12 (14) (pn) ((y) / (4)) := ⟨_, rfl⟩
            rw [← ev13] at hW
            have hO13 : OkM mr13 := by rw [ev13]; exact hO12.fr (by omega)
            refine lv_aload_n hx hb d_M_fault_77 rfl (lv_at hl 1 rfl) ?_
            refine wg hx hb hts i_M hown hW (0) (by omega) mm_root rfl 15 (by decide) (hts _ kf_M_52) rfl d_M_fault_78 ?_
            refine lv_iload_n hx hb d_M_fault_81 rfl (lv_at hl 2 rfl) ?_
            refine lv_aload_n hx hb d_M_fault_82 rfl (lv_at hl 1 rfl) ?_
            refine wci hW hA (va_runV (As := []) (rest := [.int (x), .ref (am (15))]) ⟨hx, hb, hml, hown, hts⟩ (c_M_tick l hO13 _) (cv 0 hts kc_M_tick ki_M_tick ke_M_tick kn_M km_M_88 kh_M_tick rfl rfl ⟨by decide, by decide⟩) (preW hW rfl rfl (mw_get (by omega) mm_root)) rfl rfl hl.1 rfl (lv_room (Nat.le_of_ble_eq_true rfl)) d_M_fault_83 ⟨by decide, by decide⟩) (fun rr14 uu14 H locs hp14 hW => ?_)
            have hW : Wd D classes (tysA g) s A (wM g am (mTick mr13)) H locs := hW
            obtain ⟨mr15, ev15⟩ : ∃ z : Vs, z = mTick mr13 := ⟨_, rfl⟩
            rw [← ev15] at hW
            have hO15 : OkM mr15 := by rw [ev15]; exact hO13.tick
            have hp14 : rr14 = mTick mr13 0 23 := hp14
            subst hp14
            refine wis hx hb hW (15) (by omega) mm_15 0 rfl (pn) zx (by omega) (by decide) (x := mTick mr13 0 23) mm_15 d_M_fault_86 (fun H locs hW => ?_)
            obtain ⟨mr16, ev16⟩ : ∃ z : Vs, z = u2 mr15 (15) (pn) (mTick mr13 0 23) := ⟨_, rfl⟩
            rw [← ev16] at hW
            have hO16 : OkM mr16 := by rw [ev16]; exact hO15.fr (by omega)
            refine lv_aload_n hx hb d_M_fault_87 rfl (lv_at hl 1 rfl) ?_
            refine wg hx hb hts i_M hown hW (0) (by omega) mm_root rfl 16 (by decide) (hts _ kf_M_55) rfl d_M_fault_88 ?_
            refine lv_iload_n hx hb d_M_fault_91 rfl (lv_at hl 2 rfl) ?_
            refine lv_iload_n hx hb d_M_fault_92 rfl (lv_at hl 4 rfl) ?_
            refine lv_iconst (v := 4) hx hb d_M_fault_93 (by decide) ?_
            refine lv_idiv hx hb d_M_fault_94 (by decide) ?_
            refine wis hx hb hW (16) (by omega) mm_16 0 rfl (pn) zx (by omega) (by decide) (x := (y) / (4)) mm_16 d_M_fault_95 (fun H locs hW => ?_)
            obtain ⟨mr17, ev17⟩ : ∃ z : Vs, z = u2 mr16 (16) (pn) ((y) / (4)) := ⟨_, rfl⟩
            rw [← ev17] at hW
            have hO17 : OkM mr17 := by rw [ev17]; exact hO16.fr (by omega)
            refine lv_aload_n hx hb d_M_fault_96 rfl (lv_at hl 1 rfl) ?_
            refine wg hx hb hts i_M hown hW (0) (by omega) mm_root rfl 17 (by decide) (hts _ kf_M_58) rfl d_M_fault_97 ?_
            refine lv_iload_n hx hb d_M_fault_100 rfl (lv_at hl 2 rfl) ?_
            refine lv_iload_n hx hb d_M_fault_101 rfl (lv_at hl 3 rfl) ?_
            refine lv_iconst (v := 2) hx hb d_M_fault_102 (by decide) ?_
            refine lv_icmp_eq (tgt := 110) hx hb d_M_fault_103 (by decide) (fun c_103 => ?_) (fun c_103 => ?_)
            · refine lv_iconst (v := 0) hx hb d_M_fault_110 (by decide) ?_
              refine wzs hx hb hW (17) (by omega) mm_17 5 rfl (pn) zx (by omega) (by decide) (x := 0) mm_17 (by decide) d_M_fault_111 (fun H locs hW => ?_)
              obtain ⟨mr18, ev18⟩ : ∃ z : Vs, z = u2 mr17 (17) (pn) (0) := ⟨_, rfl⟩
              rw [← ev18] at hW
              have hO18 : OkM mr18 := by rw [ev18]; exact hO17.fr (by omega)
              refine lv_iconst (v := 1) hx hb d_M_fault_112 (by decide) ?_
              have hF : fltP r pn op t := ⟨⟨c_2, c_7⟩, c_35, fun h => c_46 h.2⟩
              have hfin : mFault r pn op y t = mr18 := by
                subst ev18 ev17 ev16 ev15 ev13 ev12 ev11; simp only [mFault, mFl0, if_pos hF, if_pos c_103]
              exact hret _ () _ _ _ _ _ _ (ite_t hF) (by show Wd D classes (tysA g) s A (wM g am (mFault r pn op y t)) _ _; rw [hfin]; exact hW) (by decide) (by decide) d_M_fault_113
            · refine lv_iconst (v := 1) hx hb d_M_fault_106 (by decide) ?_
              refine lv_goto (tgt := 111) hx hb d_M_fault_107 (by decide) ?_
              refine wzs hx hb hW (17) (by omega) mm_17 5 rfl (pn) zx (by omega) (by decide) (x := 1) mm_17 (by decide) d_M_fault_111 (fun H locs hW => ?_)
              obtain ⟨mr19, ev19⟩ : ∃ z : Vs, z = u2 mr17 (17) (pn) (1) := ⟨_, rfl⟩
              rw [← ev19] at hW
              have hO19 : OkM mr19 := by rw [ev19]; exact hO17.fr (by omega)
              refine lv_iconst (v := 1) hx hb d_M_fault_112 (by decide) ?_
              have hF : fltP r pn op t := ⟨⟨c_2, c_7⟩, c_35, fun h => c_46 h.2⟩
              have hfin : mFault r pn op y t = mr19 := by
                subst ev19 ev17 ev16 ev15 ev13 ev12 ev11; simp only [mFault, mFl0, if_pos hF, if_neg c_103]
              exact hret _ () _ _ _ _ _ _ (ite_t hF) (by show Wd D classes (tysA g) s A (wM g am (mFault r pn op y t)) _ _; rw [hfin]; exact hW) (by decide) (by decide) d_M_fault_113
          · refine lv_iconst (v := 0) hx hb d_M_fault_49 (by decide) ?_
            have hF : ¬ fltP r pn op t := (fun h => h.2.2 ⟨c_41, c_46⟩)
            have hfin : mFault r pn op y t = r := by
              skip; simp only [mFault, mFl0, if_neg hF]
            exact hret _ () _ _ _ _ _ _ (ite_f hF) (by show Wd D classes (tysA g) s A (wM g am (mFault r pn op y t)) _ _; rw [hfin]; exact hW) (by decide) (by decide) d_M_fault_50
    · refine lv_iconst (v := 0) hx hb d_M_fault_10 (by decide) ?_
      have hF : ¬ fltP r pn op t := (fun h => c_7 h.1.2)
      have hfin : mFault r pn op y t = r := by
        skip; simp only [mFault, mFl0, if_neg hF]
      exact hret _ () _ _ _ _ _ _ (ite_f hF) (by show Wd D classes (tysA g) s A (wM g am (mFault r pn op y t)) _ _; rw [hfin]; exact hW) (by decide) (by decide) d_M_fault_11
abbrev rm_M_touch : Room := { frames := 1, cells := 0, slots := 0, locals := 20 }
set_option maxHeartbeats 4000000 in
set_option maxRecDepth 100000 in
theorem c_M_touch (l : Launch) {D : va_G} {g : Nat → ClassId} {am : Nat → Nat} {r : Vs} (x : Int32) (pn : Nat) (zx : x = nI pn) (lpn : pn < 8) (op : Int32) (y : Int32) (a : Nat) (zy : y = nI a) (la : a < 32) (z : Int32) (t : Nat) (zz : z = nI t) (lt : t < 32) (hO : OkM r) : MtV l y_M_touch ws_M_touch rm_M_touch D classes (tysA g) [.ref (am (0)), .int (x), .int (op), .int (y), .int (z)] (wM g am (r)) (fun _ : Unit => True) (fun _ => wM g am (mTch r pn op a t)) 0 0 := by
  refine mt_v (by decide +kernel) rfl (Nat.le_of_ble_eq_true rfl) (fun p e s m args below meth c Q A C hnm hA hW hret ls hl => ?_)
  obtain ⟨hx, hb, hr, hml, hown, hts0, hlocks⟩ := C
  have hts : ∀ w ∈ bigw, w.before args s = true := fun w h => hts0 w (List.mem_cons_of_mem _ h)
  have hown : s.vm.findClass R_M = some m.cls := hown
  have hnp := hO.le
  have hl : lv_has ls 7 [(0, .ref (am (0))), (1, .int (x)), (2, .int (op)), (3, .int (y)), (4, .int (z))] := hl
  refine lv_iload_n hx hb d_M_touch_0 rfl (lv_at hl 2 rfl) ?_
  refine lv_iconst (v := 2) hx hb d_M_touch_1 (by decide) ?_
  refine lv_icmp_ne (tgt := 21) hx hb d_M_touch_2 (by decide) (fun c_2 => ?_) (fun c_2 => ?_)
  · refine lv_iload_n hx hb d_M_touch_21 rfl (lv_at hl 2 rfl) ?_
    refine lv_iconst (v := 3) hx hb d_M_touch_22 (by decide) ?_
    refine lv_icmp_ne (tgt := 42) hx hb d_M_touch_23 (by decide) (fun c_23 => ?_) (fun c_23 => ?_)
    · refine lv_iconst (v := 4) hx hb d_M_touch_42 (by decide) ?_
      refine lv_iload_n hx hb d_M_touch_43 rfl (lv_at hl 1 rfl) ?_
      refine lv_imul hx hb d_M_touch_44 ?_
      refine lv_iconst (v := 3) hx hb d_M_touch_45 (by decide) ?_
      refine lv_iadd hx hb d_M_touch_46 ?_
      refine lv_istore (lv' := [(5, .int (((4) * (x)) + (3))), (0, .ref (am (0))), (1, .int (x)), (2, .int (op)), (3, .int (y)), (4, .int (z))]) hx hb d_M_touch_47 hl (by decide) rfl (fun ls hl => ?_)
      refine lv_aload_n hx hb d_M_touch_49 rfl (lv_at hl 1 rfl) ?_
      refine wg hx hb hts i_M hown hW (0) (by omega) mm_root rfl 18 (by decide) (hts _ kf_M_62) rfl d_M_touch_50 ?_
      refine lv_iload hx hb d_M_touch_53 (lv_at hl 5 rfl) ?_
      refine wi hx hb hW (18) (by omega) mm_18 0 rfl (t) zz (by omega) (by decide) d_M_touch_55 ?_
      refine lv_aload_n hx hb d_M_touch_56 rfl (lv_at hl 1 rfl) ?_
      refine wg hx hb hts i_M hown hW (0) (by omega) mm_root rfl 5 (by decide) (hts _ kf_M_25) rfl d_M_touch_57 ?_
      refine lv_iload hx hb d_M_touch_60 (lv_at hl 0 rfl) ?_
      refine wi hx hb hW (6) (by omega) mm_6 0 rfl (4 * pn + 3) (ni_add (ni_mul rfl zx) rfl) (by omega) (by decide) d_M_touch_62 ?_
      refine lv_icmp_ne (tgt := 70) hx hb d_M_touch_63 (by decide) (fun c_63 => ?_) (fun c_63 => ?_)
      · refine lv_iconst (v := 0) hx hb d_M_touch_70 (by decide) ?_
        refine lv_istore (lv' := [(6, .int (0)), (5, .int (((4) * (x)) + (3))), (0, .ref (am (0))), (1, .int (x)), (2, .int (op)), (3, .int (y)), (4, .int (z))]) hx hb d_M_touch_71 hl (by decide) rfl (fun ls hl => ?_)
        refine lv_iload hx hb d_M_touch_73 (lv_at hl 0 rfl) ?_
        refine lv_if_eq (tgt := 91) hx hb d_M_touch_75 (by decide) (fun c_75 => ?_) (fun c_75 => absurd (by decide) c_75)
        refine lv_aload_n hx hb d_M_touch_91 rfl (lv_at hl 2 rfl) ?_
        refine wg hx hb hts i_M hown hW (0) (by omega) mm_root rfl 5 (by decide) (hts _ kf_M_25) rfl d_M_touch_92 ?_
        refine lv_iload hx hb d_M_touch_95 (lv_at hl 1 rfl) ?_
        refine lv_iload hx hb d_M_touch_97 (lv_at hl 0 rfl) ?_
        refine lv_if_eq (tgt := 106) hx hb d_M_touch_99 (by decide) (fun c_99 => ?_) (fun c_99 => absurd (by decide) c_99)
        refine lv_iconst (v := 0) hx hb d_M_touch_106 (by decide) ?_
        refine wis hx hb hW (6) (by omega) mm_6 0 rfl (4 * pn + 3) (ni_add (ni_mul rfl zx) rfl) (by omega) (by decide) (x := 0) mm_6 d_M_touch_107 (fun H locs hW => ?_)
        obtain ⟨mr1, ev1⟩ : ∃ z : Vs, z = u2 r (6) (4 * pn + 3) (0) := ⟨_, rfl⟩
        rw [← ev1] at hW
        have hO1 : OkM mr1 := by rw [ev1]; exact hO.fr (by omega)
        refine lv_aload_n hx hb d_M_touch_108 rfl (lv_at hl 2 rfl) ?_
        refine wg hx hb hts i_M hown hW (0) (by omega) mm_root rfl 20 (by decide) (hts _ kf_M_68) rfl d_M_touch_109 ?_
        refine lv_bipush (v := 8) hx hb d_M_touch_112 (by decide) ?_
        refine lv_aload_n hx hb d_M_touch_114 rfl (lv_at hl 2 rfl) ?_
        refine wg hx hb hts i_M hown hW (0) (by omega) mm_root rfl 7 (by decide) (hts _ kf_M_31) rfl d_M_touch_115 ?_
        refine lv_iload_n hx hb d_M_touch_118 rfl (lv_at hl 3 rfl) ?_
        refine wi hx hb hW (8) (by omega) mm_8 0 rfl (pn) zx (by omega) (by decide) d_M_touch_119 ?_
        obtain ⟨e2, b2⟩ := hO1.c8 (pn)
        refine lv_imul hx hb d_M_touch_120 ?_
        refine lv_iload hx hb d_M_touch_121 (lv_at hl 6 rfl) ?_
        refine lv_iconst (v := 4) hx hb d_M_touch_123 (by decide) ?_
        refine lv_idiv hx hb d_M_touch_124 (by decide) ?_
        refine lv_iadd hx hb d_M_touch_125 ?_
        refine lv_aload_n hx hb d_M_touch_126 rfl (lv_at hl 2 rfl) ?_
        refine wci hW hA (va_runV (As := []) (rest := [.int (((8) * (mr1 (8) (pn))) + ((z) / (4))), .ref (am (20))]) ⟨hx, hb, hml, hown, hts⟩ (c_M_tick l hO1 _) (cv 0 hts kc_M_tick ki_M_tick ke_M_tick kn_M km_M_88 kh_M_tick rfl rfl ⟨by decide, by decide⟩) (preW hW rfl rfl (mw_get (by omega) mm_root)) rfl rfl hl.1 rfl (lv_room (Nat.le_of_ble_eq_true rfl)) d_M_touch_127 ⟨by decide, by decide⟩) (fun rr3 uu3 H locs hp3 hW => ?_)
        have hW : Wd D classes (tysA g) s A (wM g am (mTick mr1)) H locs := hW
        obtain ⟨mr4, ev4⟩ : ∃ z : Vs, z = mTick mr1 := ⟨_, rfl⟩
        rw [← ev4] at hW
        have hO4 : OkM mr4 := by rw [ev4]; exact hO1.tick
        have hp3 : rr3 = mTick mr1 0 23 := hp3
        subst hp3
        refine wis hx hb hW (20) (by omega) mm_20 0 rfl (8 * (nv mr1 (8) (pn)) + t / 4) (ni_add (ni_mul rfl e2) (ni_div zz rfl (by omega) (by decide) (by decide))) (by omega) (by decide) (x := mTick mr1 0 23) mm_20 d_M_touch_130 (fun H locs hW => ?_)
        obtain ⟨mr5, ev5⟩ : ∃ z : Vs, z = u2 mr4 (20) (8 * (nv mr1 (8) (pn)) + t / 4) (mTick mr1 0 23) := ⟨_, rfl⟩
        rw [← ev5] at hW
        have hO5 : OkM mr5 := by rw [ev5]; exact hO4.fr (by omega)
        have hfin : mTch r pn op a t = mr5 := by
          subst ev5 ev4 ev1
          simp only [mTch, mTch0, if_neg c_2, if_neg c_23, if_neg c_63]
        exact hret () _ _ _ _ _ _ trivial (by show Wd D classes (tysA g) s A (wM g am (mTch r pn op a t)) _ _; rw [hfin]; exact hW) (by decide) (by decide) d_M_touch_131
      · refine lv_iconst (v := 1) hx hb d_M_touch_66 (by decide) ?_
        refine lv_goto (tgt := 71) hx hb d_M_touch_67 (by decide) ?_
        refine lv_istore (lv' := [(6, .int (1)), (5, .int (((4) * (x)) + (3))), (0, .ref (am (0))), (1, .int (x)), (2, .int (op)), (3, .int (y)), (4, .int (z))]) hx hb d_M_touch_71 hl (by decide) rfl (fun ls hl => ?_)
        refine lv_iload hx hb d_M_touch_73 (lv_at hl 0 rfl) ?_
        refine lv_if_eq (tgt := 91) hx hb d_M_touch_75 (by decide) (fun c_75 => absurd c_75 (by decide)) (fun c_75 => ?_)
        refine lv_aload_n hx hb d_M_touch_78 rfl (lv_at hl 2 rfl) ?_
        refine wg hx hb hts i_M hown hW (0) (by omega) mm_root rfl 18 (by decide) (hts _ kf_M_62) rfl d_M_touch_79 ?_
        refine lv_iload hx hb d_M_touch_82 (lv_at hl 6 rfl) ?_
        refine lv_aload_n hx hb d_M_touch_84 rfl (lv_at hl 2 rfl) ?_
        refine wg hx hb hts i_M hown hW (0) (by omega) mm_root rfl 5 (by decide) (hts _ kf_M_25) rfl d_M_touch_85 ?_
        refine lv_iload_n hx hb d_M_touch_88 rfl (lv_at hl 5 rfl) ?_
        refine wi hx hb hW (6) (by omega) mm_6 0 rfl (a) zy (by omega) (by decide) d_M_touch_89 ?_
        refine wis hx hb hW (18) (by omega) mm_18 0 rfl (t) zz (by omega) (by decide) (x := r (6) (a)) mm_18 d_M_touch_90 (fun H locs hW => ?_)
        obtain ⟨mr6, ev6⟩ : ∃ z : Vs, z = u2 r (18) (t) (r (6) (a)) := ⟨_, rfl⟩
        rw [← ev6] at hW
        have hO6 : OkM mr6 := by rw [ev6]; exact hO.fr (by omega)
        refine lv_aload_n hx hb d_M_touch_91 rfl (lv_at hl 2 rfl) ?_
        refine wg hx hb hts i_M hown hW (0) (by omega) mm_root rfl 5 (by decide) (hts _ kf_M_25) rfl d_M_touch_92 ?_
        refine lv_iload hx hb d_M_touch_95 (lv_at hl 1 rfl) ?_
        refine lv_iload hx hb d_M_touch_97 (lv_at hl 0 rfl) ?_
        refine lv_if_eq (tgt := 106) hx hb d_M_touch_99 (by decide) (fun c_99 => absurd c_99 (by decide)) (fun c_99 => ?_)
        refine lv_iconst (v := 1) hx hb d_M_touch_102 (by decide) ?_
        refine lv_goto (tgt := 107) hx hb d_M_touch_103 (by decide) ?_
        refine wis hx hb hW (6) (by omega) mm_6 0 rfl (4 * pn + 3) (ni_add (ni_mul rfl zx) rfl) (by omega) (by decide) (x := 1) mm_6 d_M_touch_107 (fun H locs hW => ?_)
        obtain ⟨mr7, ev7⟩ : ∃ z : Vs, z = u2 mr6 (6) (4 * pn + 3) (1) := ⟨_, rfl⟩
        rw [← ev7] at hW
        have hO7 : OkM mr7 := by rw [ev7]; exact hO6.fr (by omega)
        refine lv_aload_n hx hb d_M_touch_108 rfl (lv_at hl 2 rfl) ?_
        refine wg hx hb hts i_M hown hW (0) (by omega) mm_root rfl 20 (by decide) (hts _ kf_M_68) rfl d_M_touch_109 ?_
        refine lv_bipush (v := 8) hx hb d_M_touch_112 (by decide) ?_
        refine lv_aload_n hx hb d_M_touch_114 rfl (lv_at hl 2 rfl) ?_
        refine wg hx hb hts i_M hown hW (0) (by omega) mm_root rfl 7 (by decide) (hts _ kf_M_31) rfl d_M_touch_115 ?_
        refine lv_iload_n hx hb d_M_touch_118 rfl (lv_at hl 3 rfl) ?_
        refine wi hx hb hW (8) (by omega) mm_8 0 rfl (pn) zx (by omega) (by decide) d_M_touch_119 ?_
        obtain ⟨e8, b8⟩ := hO7.c8 (pn)
        refine lv_imul hx hb d_M_touch_120 ?_
        refine lv_iload hx hb d_M_touch_121 (lv_at hl 6 rfl) ?_
        refine lv_iconst (v := 4) hx hb d_M_touch_123 (by decide) ?_
        refine lv_idiv hx hb d_M_touch_124 (by decide) ?_
        refine lv_iadd hx hb d_M_touch_125 ?_
        refine lv_aload_n hx hb d_M_touch_126 rfl (lv_at hl 2 rfl) ?_
        refine wci hW hA (va_runV (As := []) (rest := [.int (((8) * (mr7 (8) (pn))) + ((z) / (4))), .ref (am (20))]) ⟨hx, hb, hml, hown, hts⟩ (c_M_tick l hO7 _) (cv 0 hts kc_M_tick ki_M_tick ke_M_tick kn_M km_M_88 kh_M_tick rfl rfl ⟨by decide, by decide⟩) (preW hW rfl rfl (mw_get (by omega) mm_root)) rfl rfl hl.1 rfl (lv_room (Nat.le_of_ble_eq_true rfl)) d_M_touch_127 ⟨by decide, by decide⟩) (fun rr9 uu9 H locs hp9 hW => ?_)
        have hW : Wd D classes (tysA g) s A (wM g am (mTick mr7)) H locs := hW
        obtain ⟨mr10, ev10⟩ : ∃ z : Vs, z = mTick mr7 := ⟨_, rfl⟩
        rw [← ev10] at hW
        have hO10 : OkM mr10 := by rw [ev10]; exact hO7.tick
        have hp9 : rr9 = mTick mr7 0 23 := hp9
        subst hp9
        refine wis hx hb hW (20) (by omega) mm_20 0 rfl (8 * (nv mr7 (8) (pn)) + t / 4) (ni_add (ni_mul rfl e8) (ni_div zz rfl (by omega) (by decide) (by decide))) (by omega) (by decide) (x := mTick mr7 0 23) mm_20 d_M_touch_130 (fun H locs hW => ?_)
        obtain ⟨mr11, ev11⟩ : ∃ z : Vs, z = u2 mr10 (20) (8 * (nv mr7 (8) (pn)) + t / 4) (mTick mr7 0 23) := ⟨_, rfl⟩
        rw [← ev11] at hW
        have hO11 : OkM mr11 := by rw [ev11]; exact hO10.fr (by omega)
        have hfin : mTch r pn op a t = mr11 := by
          subst ev11 ev10 ev7 ev6
          simp only [mTch, mTch0, if_neg c_2, if_neg c_23, if_pos c_63]
        exact hret () _ _ _ _ _ _ trivial (by show Wd D classes (tysA g) s A (wM g am (mTch r pn op a t)) _ _; rw [hfin]; exact hW) (by decide) (by decide) d_M_touch_131
    · refine lv_aload_n hx hb d_M_touch_26 rfl (lv_at hl 0 rfl) ?_
      refine wg hx hb hts i_M hown hW (0) (by omega) mm_root rfl 18 (by decide) (hts _ kf_M_62) rfl d_M_touch_27 ?_
      refine lv_iload hx hb d_M_touch_30 (lv_at hl 4 rfl) ?_
      refine lv_aload_n hx hb d_M_touch_32 rfl (lv_at hl 0 rfl) ?_
      refine wg hx hb hts i_M hown hW (0) (by omega) mm_root rfl 5 (by decide) (hts _ kf_M_25) rfl d_M_touch_33 ?_
      refine lv_iload_n hx hb d_M_touch_36 rfl (lv_at hl 3 rfl) ?_
      refine wi hx hb hW (6) (by omega) mm_6 0 rfl (a) zy (by omega) (by decide) d_M_touch_37 ?_
      refine wis hx hb hW (18) (by omega) mm_18 0 rfl (t) zz (by omega) (by decide) (x := r (6) (a)) mm_18 d_M_touch_38 (fun H locs hW => ?_)
      obtain ⟨mr12, ev12⟩ : ∃ z : Vs, z = u2 r (18) (t) (r (6) (a)) := ⟨_, rfl⟩
      rw [← ev12] at hW
      have hO12 : OkM mr12 := by rw [ev12]; exact hO.fr (by omega)
      refine lv_goto (tgt := 108) hx hb d_M_touch_39 (by decide) ?_
      refine lv_aload_n hx hb d_M_touch_108 rfl (lv_at hl 0 rfl) ?_
      refine wg hx hb hts i_M hown hW (0) (by omega) mm_root rfl 20 (by decide) (hts _ kf_M_68) rfl d_M_touch_109 ?_
      refine lv_bipush (v := 8) hx hb d_M_touch_112 (by decide) ?_
      refine lv_aload_n hx hb d_M_touch_114 rfl (lv_at hl 0 rfl) ?_
      refine wg hx hb hts i_M hown hW (0) (by omega) mm_root rfl 7 (by decide) (hts _ kf_M_31) rfl d_M_touch_115 ?_
      refine lv_iload_n hx hb d_M_touch_118 rfl (lv_at hl 1 rfl) ?_
      refine wi hx hb hW (8) (by omega) mm_8 0 rfl (pn) zx (by omega) (by decide) d_M_touch_119 ?_
      obtain ⟨e13, b13⟩ := hO12.c8 (pn)
      refine lv_imul hx hb d_M_touch_120 ?_
      refine lv_iload hx hb d_M_touch_121 (lv_at hl 4 rfl) ?_
      refine lv_iconst (v := 4) hx hb d_M_touch_123 (by decide) ?_
      refine lv_idiv hx hb d_M_touch_124 (by decide) ?_
      refine lv_iadd hx hb d_M_touch_125 ?_
      refine lv_aload_n hx hb d_M_touch_126 rfl (lv_at hl 0 rfl) ?_
      refine wci hW hA (va_runV (As := []) (rest := [.int (((8) * (mr12 (8) (pn))) + ((z) / (4))), .ref (am (20))]) ⟨hx, hb, hml, hown, hts⟩ (c_M_tick l hO12 _) (cv 0 hts kc_M_tick ki_M_tick ke_M_tick kn_M km_M_88 kh_M_tick rfl rfl ⟨by decide, by decide⟩) (preW hW rfl rfl (mw_get (by omega) mm_root)) rfl rfl hl.1 rfl (lv_room (Nat.le_of_ble_eq_true rfl)) d_M_touch_127 ⟨by decide, by decide⟩) (fun rr14 uu14 H locs hp14 hW => ?_)
      have hW : Wd D classes (tysA g) s A (wM g am (mTick mr12)) H locs := hW
      obtain ⟨mr15, ev15⟩ : ∃ z : Vs, z = mTick mr12 := ⟨_, rfl⟩
      rw [← ev15] at hW
      have hO15 : OkM mr15 := by rw [ev15]; exact hO12.tick
      have hp14 : rr14 = mTick mr12 0 23 := hp14
      subst hp14
      refine wis hx hb hW (20) (by omega) mm_20 0 rfl (8 * (nv mr12 (8) (pn)) + t / 4) (ni_add (ni_mul rfl e13) (ni_div zz rfl (by omega) (by decide) (by decide))) (by omega) (by decide) (x := mTick mr12 0 23) mm_20 d_M_touch_130 (fun H locs hW => ?_)
      obtain ⟨mr16, ev16⟩ : ∃ z : Vs, z = u2 mr15 (20) (8 * (nv mr12 (8) (pn)) + t / 4) (mTick mr12 0 23) := ⟨_, rfl⟩
      rw [← ev16] at hW
      have hO16 : OkM mr16 := by rw [ev16]; exact hO15.fr (by omega)
      have hfin : mTch r pn op a t = mr16 := by
        subst ev16 ev15 ev12
        simp only [mTch, mTch0, if_neg c_2, if_pos c_23]
      exact hret () _ _ _ _ _ _ trivial (by show Wd D classes (tysA g) s A (wM g am (mTch r pn op a t)) _ _; rw [hfin]; exact hW) (by decide) (by decide) d_M_touch_131
  · refine lv_aload_n hx hb d_M_touch_5 rfl (lv_at hl 0 rfl) ?_
    refine wg hx hb hts i_M hown hW (0) (by omega) mm_root rfl 5 (by decide) (hts _ kf_M_25) rfl d_M_touch_6 ?_
    refine lv_iload_n hx hb d_M_touch_9 rfl (lv_at hl 3 rfl) ?_
    refine lv_aload_n hx hb d_M_touch_10 rfl (lv_at hl 0 rfl) ?_
    refine wg hx hb hts i_M hown hW (0) (by omega) mm_root rfl 18 (by decide) (hts _ kf_M_62) rfl d_M_touch_11 ?_
    refine lv_iload hx hb d_M_touch_14 (lv_at hl 4 rfl) ?_
    refine wi hx hb hW (18) (by omega) mm_18 0 rfl (t) zz (by omega) (by decide) d_M_touch_16 ?_
    refine wis hx hb hW (6) (by omega) mm_6 0 rfl (a) zy (by omega) (by decide) (x := r (18) (t)) mm_6 d_M_touch_17 (fun H locs hW => ?_)
    obtain ⟨mr17, ev17⟩ : ∃ z : Vs, z = u2 r (6) (a) (r (18) (t)) := ⟨_, rfl⟩
    rw [← ev17] at hW
    have hO17 : OkM mr17 := by rw [ev17]; exact hO.fr (by omega)
    refine lv_goto (tgt := 108) hx hb d_M_touch_18 (by decide) ?_
    refine lv_aload_n hx hb d_M_touch_108 rfl (lv_at hl 0 rfl) ?_
    refine wg hx hb hts i_M hown hW (0) (by omega) mm_root rfl 20 (by decide) (hts _ kf_M_68) rfl d_M_touch_109 ?_
    refine lv_bipush (v := 8) hx hb d_M_touch_112 (by decide) ?_
    refine lv_aload_n hx hb d_M_touch_114 rfl (lv_at hl 0 rfl) ?_
    refine wg hx hb hts i_M hown hW (0) (by omega) mm_root rfl 7 (by decide) (hts _ kf_M_31) rfl d_M_touch_115 ?_
    refine lv_iload_n hx hb d_M_touch_118 rfl (lv_at hl 1 rfl) ?_
    refine wi hx hb hW (8) (by omega) mm_8 0 rfl (pn) zx (by omega) (by decide) d_M_touch_119 ?_
    obtain ⟨e18, b18⟩ := hO17.c8 (pn)
    refine lv_imul hx hb d_M_touch_120 ?_
    refine lv_iload hx hb d_M_touch_121 (lv_at hl 4 rfl) ?_
    refine lv_iconst (v := 4) hx hb d_M_touch_123 (by decide) ?_
    refine lv_idiv hx hb d_M_touch_124 (by decide) ?_
    refine lv_iadd hx hb d_M_touch_125 ?_
    refine lv_aload_n hx hb d_M_touch_126 rfl (lv_at hl 0 rfl) ?_
    refine wci hW hA (va_runV (As := []) (rest := [.int (((8) * (mr17 (8) (pn))) + ((z) / (4))), .ref (am (20))]) ⟨hx, hb, hml, hown, hts⟩ (c_M_tick l hO17 _) (cv 0 hts kc_M_tick ki_M_tick ke_M_tick kn_M km_M_88 kh_M_tick rfl rfl ⟨by decide, by decide⟩) (preW hW rfl rfl (mw_get (by omega) mm_root)) rfl rfl hl.1 rfl (lv_room (Nat.le_of_ble_eq_true rfl)) d_M_touch_127 ⟨by decide, by decide⟩) (fun rr19 uu19 H locs hp19 hW => ?_)
    have hW : Wd D classes (tysA g) s A (wM g am (mTick mr17)) H locs := hW
    obtain ⟨mr20, ev20⟩ : ∃ z : Vs, z = mTick mr17 := ⟨_, rfl⟩
    rw [← ev20] at hW
    have hO20 : OkM mr20 := by rw [ev20]; exact hO17.tick
    have hp19 : rr19 = mTick mr17 0 23 := hp19
    subst hp19
    refine wis hx hb hW (20) (by omega) mm_20 0 rfl (8 * (nv mr17 (8) (pn)) + t / 4) (ni_add (ni_mul rfl e18) (ni_div zz rfl (by omega) (by decide) (by decide))) (by omega) (by decide) (x := mTick mr17 0 23) mm_20 d_M_touch_130 (fun H locs hW => ?_)
    obtain ⟨mr21, ev21⟩ : ∃ z : Vs, z = u2 mr20 (20) (8 * (nv mr17 (8) (pn)) + t / 4) (mTick mr17 0 23) := ⟨_, rfl⟩
    rw [← ev21] at hW
    have hO21 : OkM mr21 := by rw [ev21]; exact hO20.fr (by omega)
    have hfin : mTch r pn op a t = mr21 := by
      subst ev21 ev20 ev17
      simp only [mTch, mTch0, if_pos c_2]
    exact hret () _ _ _ _ _ _ trivial (by show Wd D classes (tysA g) s A (wM g am (mTch r pn op a t)) _ _; rw [hfin]; exact hW) (by decide) (by decide) d_M_touch_131
end
