section
-- ===== PART A: goes FIRST, ahead of the names: the tables' words, and 'selects' of the private methods out of them =====
/-- a private method of a class that the tables say can be made, by its rows of tables_1 -/
def lw_okq (q : MethodName × Nat) : Prop := (q.1.cls ≠ "java/lang/invoke/MethodHandle" ∧ q.1.cls ≠ "java/lang/invoke/VarHandle") ∧ Cond.instantiable q.1.cls q.2 ∈ tables_1 ∧ Cond.privateMethod q.1 ∈ tables_1 ∧ Cond.instanceMethod q.1 ∈ tables_1
theorem lw_p0 : lw_okq (⟨"DriveRing", "lostDrives", "()I"⟩, 6) := ⟨⟨by decide +kernel, by decide +kernel⟩, List.mem_of_getElem? (i := 13) (by decide +kernel), List.mem_of_getElem? (i := 131) (by decide +kernel), List.mem_of_getElem? (i := 132) (by decide +kernel)⟩
theorem lw_p1 : lw_okq (⟨"DriveRing", "incompleteDrives", "()I"⟩, 6) := ⟨⟨by decide +kernel, by decide +kernel⟩, List.mem_of_getElem? (i := 13) (by decide +kernel), List.mem_of_getElem? (i := 135) (by decide +kernel), List.mem_of_getElem? (i := 136) (by decide +kernel)⟩
theorem lw_p2 : lw_okq (⟨"DriveRing", "missesSomeStripe", "(I)Z"⟩, 6) := ⟨⟨by decide +kernel, by decide +kernel⟩, List.mem_of_getElem? (i := 13) (by decide +kernel), List.mem_of_getElem? (i := 139) (by decide +kernel), List.mem_of_getElem? (i := 140) (by decide +kernel)⟩
theorem lw_p3 : lw_okq (⟨"DriveRing", "isBlock", "(I)Z"⟩, 6) := ⟨⟨by decide +kernel, by decide +kernel⟩, List.mem_of_getElem? (i := 13) (by decide +kernel), List.mem_of_getElem? (i := 147) (by decide +kernel), List.mem_of_getElem? (i := 148) (by decide +kernel)⟩
theorem lw_p4 : lw_okq (⟨"DriveRing", "valueOf", "(LDriveRing$Stripe;II)I"⟩, 6) := ⟨⟨by decide +kernel, by decide +kernel⟩, List.mem_of_getElem? (i := 13) (by decide +kernel), List.mem_of_getElem? (i := 168) (by decide +kernel), List.mem_of_getElem? (i := 169) (by decide +kernel)⟩
theorem lw_p5 : lw_okq (⟨"DriveRing$Teller", "load", "(LDriveRing$Stripe;)V"⟩, 4) := ⟨⟨by decide +kernel, by decide +kernel⟩, List.mem_of_getElem? (i := 88) (by decide +kernel), List.mem_of_getElem? (i := 180) (by decide +kernel), List.mem_of_getElem? (i := 181) (by decide +kernel)⟩
theorem lw_p6 : lw_okq (⟨"DriveRing$Teller", "settle", "(II)V"⟩, 4) := ⟨⟨by decide +kernel, by decide +kernel⟩, List.mem_of_getElem? (i := 88) (by decide +kernel), List.mem_of_getElem? (i := 185) (by decide +kernel), List.mem_of_getElem? (i := 186) (by decide +kernel)⟩
theorem lw_p7 : lw_okq (⟨"DriveRing$Shape", "step", "(II)I"⟩, 4) := ⟨⟨by decide +kernel, by decide +kernel⟩, List.mem_of_getElem? (i := 21) (by decide +kernel), List.mem_of_getElem? (i := 193) (by decide +kernel), List.mem_of_getElem? (i := 194) (by decide +kernel)⟩
theorem lw_p8 : lw_okq (⟨"DriveRing", "putIfPresent", "(LDriveRing$Stripe;III)Z"⟩, 6) := ⟨⟨by decide +kernel, by decide +kernel⟩, List.mem_of_getElem? (i := 13) (by decide +kernel), List.mem_of_getElem? (i := 200) (by decide +kernel), List.mem_of_getElem? (i := 201) (by decide +kernel)⟩
theorem lw_p9 : lw_okq (⟨"DriveRing", "put", "(LDriveRing$Stripe;III)Z"⟩, 6) := ⟨⟨by decide +kernel, by decide +kernel⟩, List.mem_of_getElem? (i := 13) (by decide +kernel), List.mem_of_getElem? (i := 204) (by decide +kernel), List.mem_of_getElem? (i := 205) (by decide +kernel)⟩
theorem lw_p10 : lw_okq (⟨"DriveRing", "takeTurn", "()Z"⟩, 6) := ⟨⟨by decide +kernel, by decide +kernel⟩, List.mem_of_getElem? (i := 13) (by decide +kernel), List.mem_of_getElem? (i := 208) (by decide +kernel), List.mem_of_getElem? (i := 209) (by decide +kernel)⟩
theorem lw_p11 : lw_okq (⟨"DriveRing", "changeParity", "(LDriveRing$Stripe;IIII)Z"⟩, 6) := ⟨⟨by decide +kernel, by decide +kernel⟩, List.mem_of_getElem? (i := 13) (by decide +kernel), List.mem_of_getElem? (i := 212) (by decide +kernel), List.mem_of_getElem? (i := 213) (by decide +kernel)⟩
theorem lw_p12 : lw_okq (⟨"DriveRing", "isDrive", "(I)Z"⟩, 6) := ⟨⟨by decide +kernel, by decide +kernel⟩, List.mem_of_getElem? (i := 13) (by decide +kernel), List.mem_of_getElem? (i := 224) (by decide +kernel), List.mem_of_getElem? (i := 225) (by decide +kernel)⟩
theorem lw_p13 : lw_okq (⟨"DriveRing", "hasNewDrive", "(LDriveRing$Stripe;)Z"⟩, 6) := ⟨⟨by decide +kernel, by decide +kernel⟩, List.mem_of_getElem? (i := 13) (by decide +kernel), List.mem_of_getElem? (i := 241) (by decide +kernel), List.mem_of_getElem? (i := 242) (by decide +kernel)⟩
theorem lw_p14 : lw_okq (⟨"DriveRing", "isNewIn", "(LDriveRing$Stripe;I)Z"⟩, 6) := ⟨⟨by decide +kernel, by decide +kernel⟩, List.mem_of_getElem? (i := 13) (by decide +kernel), List.mem_of_getElem? (i := 245) (by decide +kernel), List.mem_of_getElem? (i := 246) (by decide +kernel)⟩
theorem lw_p15 : lw_okq (⟨"DriveRing", "rebuildStripe", "(LDriveRing$Stripe;)Z"⟩, 6) := ⟨⟨by decide +kernel, by decide +kernel⟩, List.mem_of_getElem? (i := 13) (by decide +kernel), List.mem_of_getElem? (i := 253) (by decide +kernel), List.mem_of_getElem? (i := 254) (by decide +kernel)⟩
def lw_privs_1 : List (MethodName × Nat) := [(⟨"DriveRing", "lostDrives", "()I"⟩, 6), (⟨"DriveRing", "incompleteDrives", "()I"⟩, 6), (⟨"DriveRing", "missesSomeStripe", "(I)Z"⟩, 6), (⟨"DriveRing", "isBlock", "(I)Z"⟩, 6), (⟨"DriveRing", "valueOf", "(LDriveRing$Stripe;II)I"⟩, 6), (⟨"DriveRing$Teller", "load", "(LDriveRing$Stripe;)V"⟩, 4), (⟨"DriveRing$Teller", "settle", "(II)V"⟩, 4), (⟨"DriveRing$Shape", "step", "(II)I"⟩, 4), (⟨"DriveRing", "putIfPresent", "(LDriveRing$Stripe;III)Z"⟩, 6), (⟨"DriveRing", "put", "(LDriveRing$Stripe;III)Z"⟩, 6), (⟨"DriveRing", "takeTurn", "()Z"⟩, 6), (⟨"DriveRing", "changeParity", "(LDriveRing$Stripe;IIII)Z"⟩, 6), (⟨"DriveRing", "isDrive", "(I)Z"⟩, 6), (⟨"DriveRing", "hasNewDrive", "(LDriveRing$Stripe;)Z"⟩, 6), (⟨"DriveRing", "isNewIn", "(LDriveRing$Stripe;I)Z"⟩, 6), (⟨"DriveRing", "rebuildStripe", "(LDriveRing$Stripe;)Z"⟩, 6)]
theorem lw_r1 : ∀ q ∈ lw_privs_1, lw_okq q := List.forall_mem_cons.mpr ⟨lw_p0, List.forall_mem_cons.mpr ⟨lw_p1, List.forall_mem_cons.mpr ⟨lw_p2, List.forall_mem_cons.mpr ⟨lw_p3, List.forall_mem_cons.mpr ⟨lw_p4, List.forall_mem_cons.mpr ⟨lw_p5, List.forall_mem_cons.mpr ⟨lw_p6, List.forall_mem_cons.mpr ⟨lw_p7, List.forall_mem_cons.mpr ⟨lw_p8, List.forall_mem_cons.mpr ⟨lw_p9, List.forall_mem_cons.mpr ⟨lw_p10, List.forall_mem_cons.mpr ⟨lw_p11, List.forall_mem_cons.mpr ⟨lw_p12, List.forall_mem_cons.mpr ⟨lw_p13, List.forall_mem_cons.mpr ⟨lw_p14, List.forall_mem_cons.mpr ⟨lw_p15, fun _ h => absurd h List.not_mem_nil⟩⟩⟩⟩⟩⟩⟩⟩⟩⟩⟩⟩⟩⟩⟩⟩
theorem lw_p16 : lw_okq (⟨"DriveRing", "putDrive", "(LDriveRing$Stripe;I)Z"⟩, 6) := ⟨⟨by decide +kernel, by decide +kernel⟩, List.mem_of_getElem? (i := 13) (by decide +kernel), List.mem_of_getElem? (i := 257) (by decide +kernel), List.mem_of_getElem? (i := 258) (by decide +kernel)⟩
theorem lw_p17 : lw_okq (⟨"DriveRing$Stripe", "dataSum", "(II)I"⟩, 4) := ⟨⟨by decide +kernel, by decide +kernel⟩, List.mem_of_getElem? (i := 62) (by decide +kernel), List.mem_of_getElem? (i := 273) (by decide +kernel), List.mem_of_getElem? (i := 274) (by decide +kernel)⟩
theorem lw_p18 : lw_okq (⟨"DriveRing", "isStripe", "(I)Z"⟩, 6) := ⟨⟨by decide +kernel, by decide +kernel⟩, List.mem_of_getElem? (i := 13) (by decide +kernel), List.mem_of_getElem? (i := 290) (by decide +kernel), List.mem_of_getElem? (i := 291) (by decide +kernel)⟩
theorem lw_p19 : lw_okq (⟨"DriveRing$Stripe", "agrees", "(II)Z"⟩, 4) := ⟨⟨by decide +kernel, by decide +kernel⟩, List.mem_of_getElem? (i := 62) (by decide +kernel), List.mem_of_getElem? (i := 306) (by decide +kernel), List.mem_of_getElem? (i := 307) (by decide +kernel)⟩
theorem lw_p20 : lw_okq (⟨"DriveRing$Stripe", "isWhole", "(II)Z"⟩, 4) := ⟨⟨by decide +kernel, by decide +kernel⟩, List.mem_of_getElem? (i := 62) (by decide +kernel), List.mem_of_getElem? (i := 310) (by decide +kernel), List.mem_of_getElem? (i := 311) (by decide +kernel)⟩
theorem lw_p21 : lw_okq (⟨"java/lang/Throwable", "fillInStackTrace", "(I)Ljava/lang/Throwable;"⟩, 6) := ⟨⟨by decide +kernel, by decide +kernel⟩, List.mem_of_getElem? (i := 363) (by decide +kernel), List.mem_of_getElem? (i := 361) (by decide +kernel), List.mem_of_getElem? (i := 362) (by decide +kernel)⟩
theorem lw_p22 : lw_okq (⟨"DriveRingModel", "missing", "(I)I"⟩, 14) := ⟨⟨by decide +kernel, by decide +kernel⟩, List.mem_of_getElem? (i := 410) (by decide +kernel), List.mem_of_getElem? (i := 471) (by decide +kernel), List.mem_of_getElem? (i := 472) (by decide +kernel)⟩
theorem lw_p23 : lw_okq (⟨"DriveRingModel", "isMissing", "(II)Z"⟩, 14) := ⟨⟨by decide +kernel, by decide +kernel⟩, List.mem_of_getElem? (i := 410) (by decide +kernel), List.mem_of_getElem? (i := 475) (by decide +kernel), List.mem_of_getElem? (i := 476) (by decide +kernel)⟩
theorem lw_p24 : lw_okq (⟨"DriveRingModel", "parity", "(IIZ)I"⟩, 14) := ⟨⟨by decide +kernel, by decide +kernel⟩, List.mem_of_getElem? (i := 410) (by decide +kernel), List.mem_of_getElem? (i := 482) (by decide +kernel), List.mem_of_getElem? (i := 483) (by decide +kernel)⟩
theorem lw_p25 : lw_okq (⟨"DriveRingModel", "partner", "(IIZ)I"⟩, 14) := ⟨⟨by decide +kernel, by decide +kernel⟩, List.mem_of_getElem? (i := 410) (by decide +kernel), List.mem_of_getElem? (i := 486) (by decide +kernel), List.mem_of_getElem? (i := 487) (by decide +kernel)⟩
theorem lw_p26 : lw_okq (⟨"DriveRingModel", "isBlock", "(I)Z"⟩, 14) := ⟨⟨by decide +kernel, by decide +kernel⟩, List.mem_of_getElem? (i := 410) (by decide +kernel), List.mem_of_getElem? (i := 498) (by decide +kernel), List.mem_of_getElem? (i := 499) (by decide +kernel)⟩
theorem lw_p27 : lw_okq (⟨"DriveRingModel", "solve", "(I)V"⟩, 14) := ⟨⟨by decide +kernel, by decide +kernel⟩, List.mem_of_getElem? (i := 410) (by decide +kernel), List.mem_of_getElem? (i := 502) (by decide +kernel), List.mem_of_getElem? (i := 503) (by decide +kernel)⟩
theorem lw_p28 : lw_okq (⟨"DriveRingModel", "joins", "(IIII)V"⟩, 14) := ⟨⟨by decide +kernel, by decide +kernel⟩, List.mem_of_getElem? (i := 410) (by decide +kernel), List.mem_of_getElem? (i := 506) (by decide +kernel), List.mem_of_getElem? (i := 507) (by decide +kernel)⟩
theorem lw_p29 : lw_okq (⟨"DriveRingModel", "told", "(II)I"⟩, 14) := ⟨⟨by decide +kernel, by decide +kernel⟩, List.mem_of_getElem? (i := 410) (by decide +kernel), List.mem_of_getElem? (i := 510) (by decide +kernel), List.mem_of_getElem? (i := 511) (by decide +kernel)⟩
theorem lw_p30 : lw_okq (⟨"DriveRingModel", "puts", "(IIII)Z"⟩, 14) := ⟨⟨by decide +kernel, by decide +kernel⟩, List.mem_of_getElem? (i := 410) (by decide +kernel), List.mem_of_getElem? (i := 514) (by decide +kernel), List.mem_of_getElem? (i := 515) (by decide +kernel)⟩
theorem lw_p31 : lw_okq (⟨"DriveRingModel", "isDrive", "(I)Z"⟩, 14) := ⟨⟨by decide +kernel, by decide +kernel⟩, List.mem_of_getElem? (i := 410) (by decide +kernel), List.mem_of_getElem? (i := 526) (by decide +kernel), List.mem_of_getElem? (i := 527) (by decide +kernel)⟩
def lw_privs_2 : List (MethodName × Nat) := [(⟨"DriveRing", "putDrive", "(LDriveRing$Stripe;I)Z"⟩, 6), (⟨"DriveRing$Stripe", "dataSum", "(II)I"⟩, 4), (⟨"DriveRing", "isStripe", "(I)Z"⟩, 6), (⟨"DriveRing$Stripe", "agrees", "(II)Z"⟩, 4), (⟨"DriveRing$Stripe", "isWhole", "(II)Z"⟩, 4), (⟨"java/lang/Throwable", "fillInStackTrace", "(I)Ljava/lang/Throwable;"⟩, 6), (⟨"DriveRingModel", "missing", "(I)I"⟩, 14), (⟨"DriveRingModel", "isMissing", "(II)Z"⟩, 14), (⟨"DriveRingModel", "parity", "(IIZ)I"⟩, 14), (⟨"DriveRingModel", "partner", "(IIZ)I"⟩, 14), (⟨"DriveRingModel", "isBlock", "(I)Z"⟩, 14), (⟨"DriveRingModel", "solve", "(I)V"⟩, 14), (⟨"DriveRingModel", "joins", "(IIII)V"⟩, 14), (⟨"DriveRingModel", "told", "(II)I"⟩, 14), (⟨"DriveRingModel", "puts", "(IIII)Z"⟩, 14), (⟨"DriveRingModel", "isDrive", "(I)Z"⟩, 14)]
theorem lw_r2 : ∀ q ∈ lw_privs_2, lw_okq q := List.forall_mem_cons.mpr ⟨lw_p16, List.forall_mem_cons.mpr ⟨lw_p17, List.forall_mem_cons.mpr ⟨lw_p18, List.forall_mem_cons.mpr ⟨lw_p19, List.forall_mem_cons.mpr ⟨lw_p20, List.forall_mem_cons.mpr ⟨lw_p21, List.forall_mem_cons.mpr ⟨lw_p22, List.forall_mem_cons.mpr ⟨lw_p23, List.forall_mem_cons.mpr ⟨lw_p24, List.forall_mem_cons.mpr ⟨lw_p25, List.forall_mem_cons.mpr ⟨lw_p26, List.forall_mem_cons.mpr ⟨lw_p27, List.forall_mem_cons.mpr ⟨lw_p28, List.forall_mem_cons.mpr ⟨lw_p29, List.forall_mem_cons.mpr ⟨lw_p30, List.forall_mem_cons.mpr ⟨lw_p31, fun _ h => absurd h List.not_mem_nil⟩⟩⟩⟩⟩⟩⟩⟩⟩⟩⟩⟩⟩⟩⟩⟩
theorem lw_p32 : lw_okq (⟨"DriveRingModel", "isNew", "(I)Z"⟩, 14) := ⟨⟨by decide +kernel, by decide +kernel⟩, List.mem_of_getElem? (i := 410) (by decide +kernel), List.mem_of_getElem? (i := 538) (by decide +kernel), List.mem_of_getElem? (i := 539) (by decide +kernel)⟩
theorem lw_p33 : lw_okq (⟨"DriveRingModel", "isStripe", "(I)Z"⟩, 14) := ⟨⟨by decide +kernel, by decide +kernel⟩, List.mem_of_getElem? (i := 410) (by decide +kernel), List.mem_of_getElem? (i := 555) (by decide +kernel), List.mem_of_getElem? (i := 556) (by decide +kernel)⟩
def lw_privs_3 : List (MethodName × Nat) := [(⟨"DriveRingModel", "isNew", "(I)Z"⟩, 14), (⟨"DriveRingModel", "isStripe", "(I)Z"⟩, 14)]
theorem lw_r3 : ∀ q ∈ lw_privs_3, lw_okq q := List.forall_mem_cons.mpr ⟨lw_p32, List.forall_mem_cons.mpr ⟨lw_p33, fun _ h => absurd h List.not_mem_nil⟩⟩
def lw_privs : List (MethodName × Nat) := lw_privs_1 ++ (lw_privs_2 ++ (lw_privs_3))
def lw_tbl : List Cond := k2_sels lw_privs ++ tables_1
theorem lw_privs_ok : ∀ q ∈ lw_privs, lw_okq q := by
  show ∀ q ∈ lw_privs_1 ++ (lw_privs_2 ++ (lw_privs_3)), lw_okq q
  exact List.forall_mem_append.mpr ⟨lw_r1, List.forall_mem_append.mpr ⟨lw_r2, lw_r3⟩⟩
end
section
abbrev RX0 : String := "DriveRing$Shape"
def TX0 : u_T := fun k => match k with
  | 0 => ("DriveRing$Shape", "p", "I", true)
  | 1 => ("DriveRing$Shape", "first", "I", true)
  | 2 => ("DriveRing$Shape", "second", "I", true)
  | _ => ("DriveRing$Shape", "blocks", "I", true)
def tyX0 : Nat → FieldType := fun k => match k with
  | 0 => .int
  | 1 => .int
  | 2 => .int
  | _ => .int
theorem nmX0 : ∀ a, a < 4 → ∀ b, b < 4 → a ≠ b → (TX0 a).2.1 ≠ (TX0 b).2.1 := by decide +kernel
theorem tyX0_ok : ∀ k, k < 4 → parseFieldDescriptor (TX0 k).2.2.1 = some (tyX0 k) := by decide +kernel
abbrev RX1 : String := "DriveRing$Stripe"
def TX1 : u_T := fun k => match k with
  | 0 => ("DriveRing$Stripe", "shape", "LDriveRing$Shape;", true)
  | 1 => ("DriveRing$Stripe", "words", "[I", true)
  | 2 => ("DriveRing$Stripe", "missing", "[Z", true)
  | _ => ("DriveRing$Stripe", "marked", "Z", false)
def tyX1 : Nat → FieldType := fun k => match k with
  | 0 => .object "DriveRing$Shape"
  | 1 => .array .int
  | 2 => .array .boolean
  | _ => .boolean
theorem nmX1 : ∀ a, a < 4 → ∀ b, b < 4 → a ≠ b → (TX1 a).2.1 ≠ (TX1 b).2.1 := by decide +kernel
theorem tyX1_ok : ∀ k, k < 4 → parseFieldDescriptor (TX1 k).2.2.1 = some (tyX1 k) := by decide +kernel
abbrev RX2 : String := "DriveRing$Teller"
def TX2 : u_T := fun k => match k with
  | 0 => ("DriveRing$Teller", "shape", "LDriveRing$Shape;", true)
  | 1 => ("DriveRing$Teller", "words", "[I", true)
  | 2 => ("DriveRing$Teller", "known", "[Z", true)
  | _ => ("DriveRing$Teller", "unknown", "I", false)
def tyX2 : Nat → FieldType := fun k => match k with
  | 0 => .object "DriveRing$Shape"
  | 1 => .array .int
  | 2 => .array .boolean
  | _ => .int
theorem nmX2 : ∀ a, a < 4 → ∀ b, b < 4 → a ≠ b → (TX2 a).2.1 ≠ (TX2 b).2.1 := by decide +kernel
theorem tyX2_ok : ∀ k, k < 4 → parseFieldDescriptor (TX2 k).2.2.1 = some (tyX2 k) := by decide +kernel
abbrev RX3 : String := "DriveRing"
def TX3 : u_T := fun k => match k with
  | 0 => ("DriveRing", "shape", "LDriveRing$Shape;", true)
  | 1 => ("DriveRing", "stripes", "[LDriveRing$Stripe;", true)
  | 2 => ("DriveRing", "lost", "[Z", true)
  | 3 => ("DriveRing", "teller", "LDriveRing$Teller;", true)
  | 4 => ("DriveRing", "powered", "Z", false)
  | _ => ("DriveRing", "turnsLeft", "I", false)
def tyX3 : Nat → FieldType := fun k => match k with
  | 0 => .object "DriveRing$Shape"
  | 1 => .array (.object "DriveRing$Stripe")
  | 2 => .array .boolean
  | 3 => .object "DriveRing$Teller"
  | 4 => .boolean
  | _ => .int
theorem nmX3 : ∀ a, a < 6 → ∀ b, b < 6 → a ≠ b → (TX3 a).2.1 ≠ (TX3 b).2.1 := by decide +kernel
theorem tyX3_ok : ∀ k, k < 6 → parseFieldDescriptor (TX3 k).2.2.1 = some (tyX3 k) := by decide +kernel
abbrev RX4 : String := "DriveRingModel"
def TX4 : u_T := fun k => match k with
  | 0 => ("DriveRingModel", "thrown", "I", false)
  | 1 => ("DriveRingModel", "p", "I", true)
  | 2 => ("DriveRingModel", "stripes", "I", true)
  | 3 => ("DriveRingModel", "words", "[I", true)
  | 4 => ("DriveRingModel", "lost", "[Z", true)
  | 5 => ("DriveRingModel", "fresh", "[Z", true)
  | 6 => ("DriveRingModel", "marked", "[Z", true)
  | 7 => ("DriveRingModel", "power", "Z", false)
  | 8 => ("DriveRingModel", "left", "I", false)
  | 9 => ("DriveRingModel", "bits", "[I", true)
  | 10 => ("DriveRingModel", "sums", "[I", true)
  | 11 => ("DriveRingModel", "known", "[I", true)
  | 12 => ("DriveRingModel", "missing", "[I", true)
  | _ => ("DriveRingModel", "misses", "I", false)
def tyX4 : Nat → FieldType := fun k => match k with
  | 0 => .int
  | 1 => .int
  | 2 => .int
  | 3 => .array .int
  | 4 => .array .boolean
  | 5 => .array .boolean
  | 6 => .array .boolean
  | 7 => .boolean
  | 8 => .int
  | 9 => .array .int
  | 10 => .array .int
  | 11 => .array .int
  | 12 => .array .int
  | _ => .int
theorem nmX4 : ∀ a, a < 14 → ∀ b, b < 14 → a ≠ b → (TX4 a).2.1 ≠ (TX4 b).2.1 := by decide +kernel
theorem tyX4_ok : ∀ k, k < 14 → parseFieldDescriptor (TX4 k).2.2.1 = some (tyX4 k) := by decide +kernel
abbrev RL : String := "DriveRingLaw"
abbrev RJ9 : String := "java/lang/Math"
abbrev vwCl : List vw_C := [(RX0, TX0, 4), (RX1, TX1, 4), (RX2, TX2, 4), (RX3, TX3, 6), (RX4, TX4, 14)]
/-- all words that may be carried to any method -/
def TB : List Cond := lw_tbl.filter goodWord
theorem tb {w : Cond} (i : Nat) (h : lw_tbl[i]? = some w) (g : goodWord w = true) : w ∈ TB := List.mem_filter.mpr ⟨List.mem_of_getElem? h, g⟩
theorem TB_in {w : Cond} (h : w ∈ TB) : w ∈ lw_tbl := (List.mem_filter.mp h).1
theorem TB_good {w : Cond} (h : w ∈ TB) : (w.onTables && w.keeps) = true ∨ ∃ ty, w = .arrayClass ty := good_of_word (List.mem_filter.mp h).2
abbrev cX3_init : ByteArray := prog_1_method_1_code
abbrev yX3_init : MethodName := ⟨RX3, "<init>", "(II)V"⟩
abbrev cX3_nearestSize : ByteArray := prog_1_method_15_code
abbrev yX3_nearestSize : MethodName := ⟨RX3, "nearestSize", "(I)I"⟩
abbrev cX0_init : ByteArray := prog_2_method_1_code
abbrev yX0_init : MethodName := ⟨RX0, "<init>", "(I)V"⟩
abbrev cJ9_min : ByteArray := prog_9_method_69_code
abbrev yJ9_min : MethodName := ⟨RJ9, "min", "(II)I"⟩
abbrev cJ9_max : ByteArray := prog_9_method_65_code
abbrev yJ9_max : MethodName := ⟨RJ9, "max", "(II)I"⟩
abbrev cX1_init : ByteArray := prog_3_method_1_code
abbrev yX1_init : MethodName := ⟨RX1, "<init>", "(LDriveRing$Shape;)V"⟩
abbrev cX2_init : ByteArray := prog_4_method_1_code
abbrev yX2_init : MethodName := ⟨RX2, "<init>", "(LDriveRing$Shape;)V"⟩
abbrev cX3_count : ByteArray := prog_1_method_2_code
abbrev yX3_count : MethodName := ⟨RX3, "count", "(I)I"⟩
abbrev cX3_lostDrives : ByteArray := prog_1_method_19_code
abbrev yX3_lostDrives : MethodName := ⟨RX3, "lostDrives", "()I"⟩
abbrev cX3_incompleteDrives : ByteArray := prog_1_method_20_code
abbrev yX3_incompleteDrives : MethodName := ⟨RX3, "incompleteDrives", "()I"⟩
abbrev cX3_missesSomeStripe : ByteArray := prog_1_method_21_code
abbrev yX3_missesSomeStripe : MethodName := ⟨RX3, "missesSomeStripe", "(I)Z"⟩
abbrev cX3_write : ByteArray := prog_1_method_3_code
abbrev yX3_write : MethodName := ⟨RX3, "write", "(II)I"⟩
abbrev cX3_isBlock : ByteArray := prog_1_method_16_code
abbrev yX3_isBlock : MethodName := ⟨RX3, "isBlock", "(I)Z"⟩
abbrev cX1_isUnsure : ByteArray := prog_3_method_3_code
abbrev yX1_isUnsure : MethodName := ⟨RX1, "isUnsure", "()Z"⟩
abbrev cX1_missingDrives : ByteArray := prog_3_method_2_code
abbrev yX1_missingDrives : MethodName := ⟨RX1, "missingDrives", "()I"⟩
abbrev cX0_wordOfBlock : ByteArray := prog_2_method_4_code
abbrev yX0_wordOfBlock : MethodName := ⟨RX0, "wordOfBlock", "(I)I"⟩
abbrev cX0_driveOfBlock : ByteArray := prog_2_method_3_code
abbrev yX0_driveOfBlock : MethodName := ⟨RX0, "driveOfBlock", "(I)I"⟩
abbrev cX3_valueOf : ByteArray := prog_1_method_24_code
abbrev yX3_valueOf : MethodName := ⟨RX3, "valueOf", "(LDriveRing$Stripe;II)I"⟩
abbrev cX0_place : ByteArray := prog_2_method_2_code
abbrev yX0_place : MethodName := ⟨RX0, "place", "(II)I"⟩
abbrev cX2_tell : ByteArray := prog_4_method_2_code
abbrev yX2_tell : MethodName := ⟨RX2, "tell", "(LDriveRing$Stripe;)V"⟩
abbrev cX2_load : ByteArray := prog_4_method_3_code
abbrev yX2_load : MethodName := ⟨RX2, "load", "(LDriveRing$Stripe;)V"⟩
abbrev cX2_settle : ByteArray := prog_4_method_4_code
abbrev yX2_settle : MethodName := ⟨RX2, "settle", "(II)V"⟩
abbrev cX0_dataDrive : ByteArray := prog_2_method_5_code
abbrev yX0_dataDrive : MethodName := ⟨RX0, "dataDrive", "(III)I"⟩
abbrev cX0_step : ByteArray := prog_2_method_7_code
abbrev yX0_step : MethodName := ⟨RX0, "step", "(II)I"⟩
abbrev cJ9_floorMod : ByteArray := prog_9_method_50_code
abbrev yJ9_floorMod : MethodName := ⟨RJ9, "floorMod", "(II)I"⟩
abbrev cX3_putIfPresent : ByteArray := prog_1_method_27_code
abbrev yX3_putIfPresent : MethodName := ⟨RX3, "putIfPresent", "(LDriveRing$Stripe;III)Z"⟩
abbrev cX3_put : ByteArray := prog_1_method_26_code
abbrev yX3_put : MethodName := ⟨RX3, "put", "(LDriveRing$Stripe;III)Z"⟩
abbrev cX3_takeTurn : ByteArray := prog_1_method_25_code
abbrev yX3_takeTurn : MethodName := ⟨RX3, "takeTurn", "()Z"⟩
abbrev cX3_changeParity : ByteArray := prog_1_method_28_code
abbrev yX3_changeParity : MethodName := ⟨RX3, "changeParity", "(LDriveRing$Stripe;IIII)Z"⟩
abbrev cX0_parityDrive : ByteArray := prog_2_method_6_code
abbrev yX0_parityDrive : MethodName := ⟨RX0, "parityDrive", "(III)I"⟩
abbrev cX3_lose : ByteArray := prog_1_method_5_code
abbrev yX3_lose : MethodName := ⟨RX3, "lose", "(I)Z"⟩
abbrev cX3_isDrive : ByteArray := prog_1_method_17_code
abbrev yX3_isDrive : MethodName := ⟨RX3, "isDrive", "(I)Z"⟩
abbrev cX1_drop : ByteArray := prog_3_method_5_code
abbrev yX1_drop : MethodName := ⟨RX1, "drop", "(I)V"⟩
abbrev cX3_replace : ByteArray := prog_1_method_6_code
abbrev yX3_replace : MethodName := ⟨RX3, "replace", "(I)Z"⟩
abbrev cX3_rebuild : ByteArray := prog_1_method_7_code
abbrev yX3_rebuild : MethodName := ⟨RX3, "rebuild", "(I)I"⟩
abbrev cX3_hasNewDrive : ByteArray := prog_1_method_23_code
abbrev yX3_hasNewDrive : MethodName := ⟨RX3, "hasNewDrive", "(LDriveRing$Stripe;)Z"⟩
abbrev cX3_isNewIn : ByteArray := prog_1_method_22_code
abbrev yX3_isNewIn : MethodName := ⟨RX3, "isNewIn", "(LDriveRing$Stripe;I)Z"⟩
abbrev cX1_isTold : ByteArray := prog_3_method_4_code
abbrev yX1_isTold : MethodName := ⟨RX1, "isTold", "()Z"⟩
abbrev cX3_rebuildStripe : ByteArray := prog_1_method_29_code
abbrev yX3_rebuildStripe : MethodName := ⟨RX3, "rebuildStripe", "(LDriveRing$Stripe;)Z"⟩
abbrev cX3_putDrive : ByteArray := prog_1_method_30_code
abbrev yX3_putDrive : MethodName := ⟨RX3, "putDrive", "(LDriveRing$Stripe;I)Z"⟩
abbrev cX3_cut : ByteArray := prog_1_method_8_code
abbrev yX3_cut : MethodName := ⟨RX3, "cut", "(I)Z"⟩
abbrev cX3_start : ByteArray := prog_1_method_9_code
abbrev yX3_start : MethodName := ⟨RX3, "start", "()I"⟩
abbrev cX1_renewParities : ByteArray := prog_3_method_6_code
abbrev yX1_renewParities : MethodName := ⟨RX1, "renewParities", "()V"⟩
abbrev cX1_dataSum : ByteArray := prog_3_method_10_code
abbrev yX1_dataSum : MethodName := ⟨RX1, "dataSum", "(II)I"⟩
abbrev cX3_on : ByteArray := prog_1_method_10_code
abbrev yX3_on : MethodName := ⟨RX3, "on", "()Z"⟩
abbrev cX3_drive : ByteArray := prog_1_method_11_code
abbrev yX3_drive : MethodName := ⟨RX3, "drive", "(I)I"⟩
abbrev cX3_stripe : ByteArray := prog_1_method_12_code
abbrev yX3_stripe : MethodName := ⟨RX3, "stripe", "(I)I"⟩
abbrev cX3_isStripe : ByteArray := prog_1_method_18_code
abbrev yX3_isStripe : MethodName := ⟨RX3, "isStripe", "(I)Z"⟩
abbrev cX3_word : ByteArray := prog_1_method_13_code
abbrev yX3_word : MethodName := ⟨RX3, "word", "(III)I"⟩
abbrev cX3_agree : ByteArray := prog_1_method_14_code
abbrev yX3_agree : MethodName := ⟨RX3, "agree", "(I)I"⟩
abbrev cX1_agreeingParities : ByteArray := prog_3_method_7_code
abbrev yX1_agreeingParities : MethodName := ⟨RX1, "agreeingParities", "()I"⟩
abbrev cX1_agrees : ByteArray := prog_3_method_8_code
abbrev yX1_agrees : MethodName := ⟨RX1, "agrees", "(II)Z"⟩
abbrev cX1_isWhole : ByteArray := prog_3_method_9_code
abbrev yX1_isWhole : MethodName := ⟨RX1, "isWhole", "(II)Z"⟩
abbrev cL_cell : ByteArray := method_2_code
abbrev yL_cell : MethodName := ⟨RL, "cell", "([II)I"⟩
abbrev cL_read : ByteArray := method_3_code
abbrev yL_read : MethodName := ⟨RL, "read", "(LDriveRing;I[J)I"⟩
abbrev cX3_read : ByteArray := prog_1_method_4_code
abbrev yX3_read : MethodName := ⟨RX3, "read", "(I)I"⟩
abbrev cX4_init : ByteArray := prog_6_method_1_code
abbrev yX4_init : MethodName := ⟨RX4, "<init>", "(II)V"⟩
abbrev cX4_thrown : ByteArray := prog_6_method_2_code
abbrev yX4_thrown : MethodName := ⟨RX4, "thrown", "()I"⟩
abbrev cX4_cut : ByteArray := prog_6_method_14_code
abbrev yX4_cut : MethodName := ⟨RX4, "cut", "(I)Z"⟩
abbrev cX4_start : ByteArray := prog_6_method_15_code
abbrev yX4_start : MethodName := ⟨RX4, "start", "()I"⟩
abbrev cX4_missing : ByteArray := prog_6_method_8_code
abbrev yX4_missing : MethodName := ⟨RX4, "missing", "(I)I"⟩
abbrev cX4_isMissing : ByteArray := prog_6_method_6_code
abbrev yX4_isMissing : MethodName := ⟨RX4, "isMissing", "(II)Z"⟩
abbrev cX4_at : ByteArray := prog_6_method_7_code
abbrev yX4_at : MethodName := ⟨RX4, "at", "(III)I"⟩
abbrev cX4_parity : ByteArray := prog_6_method_17_code
abbrev yX4_parity : MethodName := ⟨RX4, "parity", "(IIZ)I"⟩
abbrev cX4_partner : ByteArray := prog_6_method_9_code
abbrev yX4_partner : MethodName := ⟨RX4, "partner", "(IIZ)I"⟩
abbrev cX4_on : ByteArray := prog_6_method_16_code
abbrev yX4_on : MethodName := ⟨RX4, "on", "()Z"⟩
abbrev cX4_write : ByteArray := prog_6_method_18_code
abbrev yX4_write : MethodName := ⟨RX4, "write", "(II)I"⟩
abbrev cX4_isBlock : ByteArray := prog_6_method_5_code
abbrev yX4_isBlock : MethodName := ⟨RX4, "isBlock", "(I)Z"⟩
abbrev cX4_solve : ByteArray := prog_6_method_11_code
abbrev yX4_solve : MethodName := ⟨RX4, "solve", "(I)V"⟩
abbrev cX4_joins : ByteArray := prog_6_method_10_code
abbrev yX4_joins : MethodName := ⟨RX4, "joins", "(IIII)V"⟩
abbrev cX4_told : ByteArray := prog_6_method_12_code
abbrev yX4_told : MethodName := ⟨RX4, "told", "(II)I"⟩
abbrev cX4_puts : ByteArray := prog_6_method_13_code
abbrev yX4_puts : MethodName := ⟨RX4, "puts", "(IIII)Z"⟩
abbrev cX4_read : ByteArray := prog_6_method_19_code
abbrev yX4_read : MethodName := ⟨RX4, "read", "(I)I"⟩
abbrev cX4_lose : ByteArray := prog_6_method_20_code
abbrev yX4_lose : MethodName := ⟨RX4, "lose", "(I)Z"⟩
abbrev cX4_isDrive : ByteArray := prog_6_method_3_code
abbrev yX4_isDrive : MethodName := ⟨RX4, "isDrive", "(I)Z"⟩
abbrev cX4_replace : ByteArray := prog_6_method_21_code
abbrev yX4_replace : MethodName := ⟨RX4, "replace", "(I)Z"⟩
abbrev cX4_rebuild : ByteArray := prog_6_method_23_code
abbrev yX4_rebuild : MethodName := ⟨RX4, "rebuild", "(I)I"⟩
abbrev cX4_isNew : ByteArray := prog_6_method_22_code
abbrev yX4_isNew : MethodName := ⟨RX4, "isNew", "(I)Z"⟩
abbrev cX4_count : ByteArray := prog_6_method_24_code
abbrev yX4_count : MethodName := ⟨RX4, "count", "(I)I"⟩
abbrev cX4_drive : ByteArray := prog_6_method_25_code
abbrev yX4_drive : MethodName := ⟨RX4, "drive", "(I)I"⟩
abbrev cX4_stripe : ByteArray := prog_6_method_26_code
abbrev yX4_stripe : MethodName := ⟨RX4, "stripe", "(I)I"⟩
abbrev cX4_isStripe : ByteArray := prog_6_method_4_code
abbrev yX4_isStripe : MethodName := ⟨RX4, "isStripe", "(I)Z"⟩
abbrev cX4_word : ByteArray := prog_6_method_27_code
abbrev yX4_word : MethodName := ⟨RX4, "word", "(III)I"⟩
abbrev cX4_agree : ByteArray := prog_6_method_28_code
abbrev yX4_agree : MethodName := ⟨RX4, "agree", "(I)I"⟩
theorem t_sel_X3_lostDrives : Cond.selects RX3 yX3_lostDrives yX3_lostDrives ∈ TB := tb 0 (by decide +kernel) (by decide +kernel)
theorem t_sel_X3_incompleteDrives : Cond.selects RX3 yX3_incompleteDrives yX3_incompleteDrives ∈ TB := tb 1 (by decide +kernel) (by decide +kernel)
theorem t_sel_X3_missesSomeStripe : Cond.selects RX3 yX3_missesSomeStripe yX3_missesSomeStripe ∈ TB := tb 2 (by decide +kernel) (by decide +kernel)
theorem t_sel_X3_isBlock : Cond.selects RX3 yX3_isBlock yX3_isBlock ∈ TB := tb 3 (by decide +kernel) (by decide +kernel)
theorem t_sel_X3_valueOf : Cond.selects RX3 yX3_valueOf yX3_valueOf ∈ TB := tb 4 (by decide +kernel) (by decide +kernel)
theorem t_sel_X2_load : Cond.selects RX2 yX2_load yX2_load ∈ TB := tb 5 (by decide +kernel) (by decide +kernel)
theorem t_sel_X2_settle : Cond.selects RX2 yX2_settle yX2_settle ∈ TB := tb 6 (by decide +kernel) (by decide +kernel)
theorem t_sel_X0_step : Cond.selects RX0 yX0_step yX0_step ∈ TB := tb 7 (by decide +kernel) (by decide +kernel)
theorem t_sel_X3_putIfPresent : Cond.selects RX3 yX3_putIfPresent yX3_putIfPresent ∈ TB := tb 8 (by decide +kernel) (by decide +kernel)
theorem t_sel_X3_put : Cond.selects RX3 yX3_put yX3_put ∈ TB := tb 9 (by decide +kernel) (by decide +kernel)
theorem t_sel_X3_takeTurn : Cond.selects RX3 yX3_takeTurn yX3_takeTurn ∈ TB := tb 10 (by decide +kernel) (by decide +kernel)
theorem t_sel_X3_changeParity : Cond.selects RX3 yX3_changeParity yX3_changeParity ∈ TB := tb 11 (by decide +kernel) (by decide +kernel)
theorem t_sel_X3_isDrive : Cond.selects RX3 yX3_isDrive yX3_isDrive ∈ TB := tb 12 (by decide +kernel) (by decide +kernel)
theorem t_sel_X3_hasNewDrive : Cond.selects RX3 yX3_hasNewDrive yX3_hasNewDrive ∈ TB := tb 13 (by decide +kernel) (by decide +kernel)
theorem t_sel_X3_isNewIn : Cond.selects RX3 yX3_isNewIn yX3_isNewIn ∈ TB := tb 14 (by decide +kernel) (by decide +kernel)
theorem t_sel_X3_rebuildStripe : Cond.selects RX3 yX3_rebuildStripe yX3_rebuildStripe ∈ TB := tb 15 (by decide +kernel) (by decide +kernel)
theorem t_sel_X3_putDrive : Cond.selects RX3 yX3_putDrive yX3_putDrive ∈ TB := tb 16 (by decide +kernel) (by decide +kernel)
theorem t_sel_X1_dataSum : Cond.selects RX1 yX1_dataSum yX1_dataSum ∈ TB := tb 17 (by decide +kernel) (by decide +kernel)
theorem t_sel_X3_isStripe : Cond.selects RX3 yX3_isStripe yX3_isStripe ∈ TB := tb 18 (by decide +kernel) (by decide +kernel)
theorem t_sel_X1_agrees : Cond.selects RX1 yX1_agrees yX1_agrees ∈ TB := tb 19 (by decide +kernel) (by decide +kernel)
theorem t_sel_X1_isWhole : Cond.selects RX1 yX1_isWhole yX1_isWhole ∈ TB := tb 20 (by decide +kernel) (by decide +kernel)
theorem t_sel_X4_missing : Cond.selects RX4 yX4_missing yX4_missing ∈ TB := tb 22 (by decide +kernel) (by decide +kernel)
theorem t_sel_X4_isMissing : Cond.selects RX4 yX4_isMissing yX4_isMissing ∈ TB := tb 23 (by decide +kernel) (by decide +kernel)
theorem t_sel_X4_parity : Cond.selects RX4 yX4_parity yX4_parity ∈ TB := tb 24 (by decide +kernel) (by decide +kernel)
theorem t_sel_X4_partner : Cond.selects RX4 yX4_partner yX4_partner ∈ TB := tb 25 (by decide +kernel) (by decide +kernel)
theorem t_sel_X4_isBlock : Cond.selects RX4 yX4_isBlock yX4_isBlock ∈ TB := tb 26 (by decide +kernel) (by decide +kernel)
theorem t_sel_X4_solve : Cond.selects RX4 yX4_solve yX4_solve ∈ TB := tb 27 (by decide +kernel) (by decide +kernel)
theorem t_sel_X4_joins : Cond.selects RX4 yX4_joins yX4_joins ∈ TB := tb 28 (by decide +kernel) (by decide +kernel)
theorem t_sel_X4_told : Cond.selects RX4 yX4_told yX4_told ∈ TB := tb 29 (by decide +kernel) (by decide +kernel)
theorem t_sel_X4_puts : Cond.selects RX4 yX4_puts yX4_puts ∈ TB := tb 30 (by decide +kernel) (by decide +kernel)
theorem t_sel_X4_isDrive : Cond.selects RX4 yX4_isDrive yX4_isDrive ∈ TB := tb 31 (by decide +kernel) (by decide +kernel)
theorem t_sel_X4_isNew : Cond.selects RX4 yX4_isNew yX4_isNew ∈ TB := tb 32 (by decide +kernel) (by decide +kernel)
theorem t_sel_X4_isStripe : Cond.selects RX4 yX4_isStripe yX4_isStripe ∈ TB := tb 33 (by decide +kernel) (by decide +kernel)
theorem t_ini_L : Cond.initialized "DriveRingLaw" ∈ TB := tb 34 (by decide +kernel) (by decide +kernel)
theorem t_ini_X3 : Cond.initialized "DriveRing" ∈ TB := tb 35 (by decide +kernel) (by decide +kernel)
theorem t_ini_X0 : Cond.initialized "DriveRing$Shape" ∈ TB := tb 36 (by decide +kernel) (by decide +kernel)
theorem t_ini_J9 : Cond.initialized "java/lang/Math" ∈ TB := tb 37 (by decide +kernel) (by decide +kernel)
theorem t_ini_X1 : Cond.initialized "DriveRing$Stripe" ∈ TB := tb 38 (by decide +kernel) (by decide +kernel)
theorem t_ini_X2 : Cond.initialized "DriveRing$Teller" ∈ TB := tb 39 (by decide +kernel) (by decide +kernel)
theorem t_ini_X4 : Cond.initialized "DriveRingModel" ∈ TB := tb 40 (by decide +kernel) (by decide +kernel)
theorem t_cL_8 : Cond.classLink "DriveRingLaw" 8 "DriveRing" ∈ TB := tb 46 (by decide +kernel) (by decide +kernel)
theorem t_new_X3 : Cond.instantiable "DriveRing" 6 ∈ TB := tb 47 (by decide +kernel) (by decide +kernel)
theorem t_mL_23 : Cond.methodLink "DriveRingLaw" 23 yX3_init ∈ TB := tb 48 (by decide +kernel) (by decide +kernel)
theorem t_inst_X3_init : Cond.instanceMethod yX3_init ∈ TB := tb 49 (by decide +kernel) (by decide +kernel)
theorem t_code_X3_init : Cond.code yX3_init cX3_init 6 none ∈ TB := tb 50 (by decide +kernel) (by decide +kernel)
theorem t_mX3_1 : Cond.methodLink "DriveRing" 1 ⟨"java/lang/Object", "<init>", "()V"⟩ ∈ TB := tb 51 (by decide +kernel) (by decide +kernel)
theorem t_obj_instanceMethod : Cond.instanceMethod objectInit ∈ TB := tb 52 (by decide +kernel) (by decide +kernel)
theorem t_obj_code : Cond.code objectInit ⟨#[0xb1]⟩ 1 none ∈ TB := tb 53 (by decide +kernel) (by decide +kernel)
theorem t_cX3_7 : Cond.classLink "DriveRing" 7 "DriveRing$Shape" ∈ TB := tb 54 (by decide +kernel) (by decide +kernel)
theorem t_new_X0 : Cond.instantiable "DriveRing$Shape" 4 ∈ TB := tb 55 (by decide +kernel) (by decide +kernel)
theorem t_mX3_9 : Cond.methodLink "DriveRing" 9 yX3_nearestSize ∈ TB := tb 56 (by decide +kernel) (by decide +kernel)
theorem t_stat_X3_nearestSize : Cond.static yX3_nearestSize ∈ TB := tb 57 (by decide +kernel) (by decide +kernel)
theorem t_code_X3_nearestSize : Cond.code yX3_nearestSize cX3_nearestSize 2 (some .int) ∈ TB := tb 58 (by decide +kernel) (by decide +kernel)
theorem t_fX3_162 : Cond.fieldLink "DriveRing" 162 "DriveRing" "SIZES" "[I" ∈ TB := tb 59 (by decide +kernel) (by decide +kernel)
theorem t_mX3_15 : Cond.methodLink "DriveRing" 15 yX0_init ∈ TB := tb 61 (by decide +kernel) (by decide +kernel)
theorem t_inst_X0_init : Cond.instanceMethod yX0_init ∈ TB := tb 62 (by decide +kernel) (by decide +kernel)
theorem t_code_X0_init : Cond.code yX0_init cX0_init 2 none ∈ TB := tb 63 (by decide +kernel) (by decide +kernel)
theorem t_mX0_1 : Cond.methodLink "DriveRing$Shape" 1 ⟨"java/lang/Object", "<init>", "()V"⟩ ∈ TB := tb 64 (by decide +kernel) (by decide +kernel)
theorem t_fX0_7 : Cond.fieldLink "DriveRing$Shape" 7 "DriveRing$Shape" "p" "I" ∈ TB := tb 65 (by decide +kernel) (by decide +kernel)
theorem t_fX1_15 : Cond.fieldLink "DriveRing$Stripe" 15 "DriveRing$Shape" "p" "I" ∈ TB := tb 66 (by decide +kernel) (by decide +kernel)
theorem t_fX2_13 : Cond.fieldLink "DriveRing$Teller" 13 "DriveRing$Shape" "p" "I" ∈ TB := tb 67 (by decide +kernel) (by decide +kernel)
theorem t_fX3_40 : Cond.fieldLink "DriveRing" 40 "DriveRing$Shape" "p" "I" ∈ TB := tb 68 (by decide +kernel) (by decide +kernel)
theorem t_fX0_13 : Cond.fieldLink "DriveRing$Shape" 13 "DriveRing$Shape" "first" "I" ∈ TB := tb 69 (by decide +kernel) (by decide +kernel)
theorem t_fX2_34 : Cond.fieldLink "DriveRing$Teller" 34 "DriveRing$Shape" "first" "I" ∈ TB := tb 70 (by decide +kernel) (by decide +kernel)
theorem t_fX3_100 : Cond.fieldLink "DriveRing" 100 "DriveRing$Shape" "first" "I" ∈ TB := tb 71 (by decide +kernel) (by decide +kernel)
theorem t_fX1_41 : Cond.fieldLink "DriveRing$Stripe" 41 "DriveRing$Shape" "first" "I" ∈ TB := tb 72 (by decide +kernel) (by decide +kernel)
theorem t_fX0_16 : Cond.fieldLink "DriveRing$Shape" 16 "DriveRing$Shape" "second" "I" ∈ TB := tb 73 (by decide +kernel) (by decide +kernel)
theorem t_fX2_41 : Cond.fieldLink "DriveRing$Teller" 41 "DriveRing$Shape" "second" "I" ∈ TB := tb 74 (by decide +kernel) (by decide +kernel)
theorem t_fX3_107 : Cond.fieldLink "DriveRing" 107 "DriveRing$Shape" "second" "I" ∈ TB := tb 75 (by decide +kernel) (by decide +kernel)
theorem t_fX1_47 : Cond.fieldLink "DriveRing$Stripe" 47 "DriveRing$Shape" "second" "I" ∈ TB := tb 76 (by decide +kernel) (by decide +kernel)
theorem t_fX0_19 : Cond.fieldLink "DriveRing$Shape" 19 "DriveRing$Shape" "blocks" "I" ∈ TB := tb 77 (by decide +kernel) (by decide +kernel)
theorem t_fX3_62 : Cond.fieldLink "DriveRing" 62 "DriveRing$Shape" "blocks" "I" ∈ TB := tb 78 (by decide +kernel) (by decide +kernel)
theorem t_mX3_18 : Cond.methodLink "DriveRing" 18 yJ9_min ∈ TB := tb 88 (by decide +kernel) (by decide +kernel)
theorem t_stat_J9_min : Cond.static yJ9_min ∈ TB := tb 89 (by decide +kernel) (by decide +kernel)
theorem t_code_J9_min : Cond.code yJ9_min cJ9_min 2 (some .int) ∈ TB := tb 90 (by decide +kernel) (by decide +kernel)
theorem t_mX3_24 : Cond.methodLink "DriveRing" 24 yJ9_max ∈ TB := tb 91 (by decide +kernel) (by decide +kernel)
theorem t_stat_J9_max : Cond.static yJ9_max ∈ TB := tb 92 (by decide +kernel) (by decide +kernel)
theorem t_code_J9_max : Cond.code yJ9_max cJ9_max 2 (some .int) ∈ TB := tb 93 (by decide +kernel) (by decide +kernel)
theorem t_cX3_27 : Cond.classLink "DriveRing" 27 "DriveRing$Stripe" ∈ TB := tb 94 (by decide +kernel) (by decide +kernel)
theorem t_new_X1 : Cond.instantiable "DriveRing$Stripe" 4 ∈ TB := tb 96 (by decide +kernel) (by decide +kernel)
theorem t_mX3_29 : Cond.methodLink "DriveRing" 29 yX1_init ∈ TB := tb 97 (by decide +kernel) (by decide +kernel)
theorem t_inst_X1_init : Cond.instanceMethod yX1_init ∈ TB := tb 98 (by decide +kernel) (by decide +kernel)
theorem t_code_X1_init : Cond.code yX1_init cX1_init 2 none ∈ TB := tb 99 (by decide +kernel) (by decide +kernel)
theorem t_mX1_3 : Cond.methodLink "DriveRing$Stripe" 3 ⟨"java/lang/Object", "<init>", "()V"⟩ ∈ TB := tb 100 (by decide +kernel) (by decide +kernel)
theorem t_fX1_9 : Cond.fieldLink "DriveRing$Stripe" 9 "DriveRing$Stripe" "shape" "LDriveRing$Shape;" ∈ TB := tb 101 (by decide +kernel) (by decide +kernel)
theorem t_fX1_21 : Cond.fieldLink "DriveRing$Stripe" 21 "DriveRing$Stripe" "words" "[I" ∈ TB := tb 102 (by decide +kernel) (by decide +kernel)
theorem t_fX2_53 : Cond.fieldLink "DriveRing$Teller" 53 "DriveRing$Stripe" "words" "[I" ∈ TB := tb 103 (by decide +kernel) (by decide +kernel)
theorem t_fX3_152 : Cond.fieldLink "DriveRing" 152 "DriveRing$Stripe" "words" "[I" ∈ TB := tb 104 (by decide +kernel) (by decide +kernel)
theorem t_fX1_25 : Cond.fieldLink "DriveRing$Stripe" 25 "DriveRing$Stripe" "missing" "[Z" ∈ TB := tb 105 (by decide +kernel) (by decide +kernel)
theorem t_fX2_48 : Cond.fieldLink "DriveRing$Teller" 48 "DriveRing$Stripe" "missing" "[Z" ∈ TB := tb 106 (by decide +kernel) (by decide +kernel)
theorem t_fX3_122 : Cond.fieldLink "DriveRing" 122 "DriveRing$Stripe" "missing" "[Z" ∈ TB := tb 107 (by decide +kernel) (by decide +kernel)
theorem t_fX1_29 : Cond.fieldLink "DriveRing$Stripe" 29 "DriveRing$Stripe" "marked" "Z" ∈ TB := tb 108 (by decide +kernel) (by decide +kernel)
theorem t_fX3_93 : Cond.fieldLink "DriveRing" 93 "DriveRing$Stripe" "marked" "Z" ∈ TB := tb 109 (by decide +kernel) (by decide +kernel)
theorem t_arr_int : Cond.arrayClass .int ∈ TB := tb 119 (by decide +kernel) (by decide +kernel)
theorem t_arr_boolean : Cond.arrayClass .boolean ∈ TB := tb 120 (by decide +kernel) (by decide +kernel)
theorem t_cX3_48 : Cond.classLink "DriveRing" 48 "DriveRing$Teller" ∈ TB := tb 121 (by decide +kernel) (by decide +kernel)
theorem t_new_X2 : Cond.instantiable "DriveRing$Teller" 4 ∈ TB := tb 122 (by decide +kernel) (by decide +kernel)
theorem t_mX3_50 : Cond.methodLink "DriveRing" 50 yX2_init ∈ TB := tb 123 (by decide +kernel) (by decide +kernel)
theorem t_inst_X2_init : Cond.instanceMethod yX2_init ∈ TB := tb 124 (by decide +kernel) (by decide +kernel)
theorem t_code_X2_init : Cond.code yX2_init cX2_init 2 none ∈ TB := tb 125 (by decide +kernel) (by decide +kernel)
theorem t_mX2_1 : Cond.methodLink "DriveRing$Teller" 1 ⟨"java/lang/Object", "<init>", "()V"⟩ ∈ TB := tb 126 (by decide +kernel) (by decide +kernel)
theorem t_fX2_7 : Cond.fieldLink "DriveRing$Teller" 7 "DriveRing$Teller" "shape" "LDriveRing$Shape;" ∈ TB := tb 127 (by decide +kernel) (by decide +kernel)
theorem t_fX2_19 : Cond.fieldLink "DriveRing$Teller" 19 "DriveRing$Teller" "words" "[I" ∈ TB := tb 128 (by decide +kernel) (by decide +kernel)
theorem t_fX3_173 : Cond.fieldLink "DriveRing" 173 "DriveRing$Teller" "words" "[I" ∈ TB := tb 129 (by decide +kernel) (by decide +kernel)
theorem t_fX2_23 : Cond.fieldLink "DriveRing$Teller" 23 "DriveRing$Teller" "known" "[Z" ∈ TB := tb 130 (by decide +kernel) (by decide +kernel)
theorem t_fX2_31 : Cond.fieldLink "DriveRing$Teller" 31 "DriveRing$Teller" "unknown" "I" ∈ TB := tb 131 (by decide +kernel) (by decide +kernel)
theorem t_fX3_32 : Cond.fieldLink "DriveRing" 32 "DriveRing" "shape" "LDriveRing$Shape;" ∈ TB := tb 141 (by decide +kernel) (by decide +kernel)
theorem t_fX3_36 : Cond.fieldLink "DriveRing" 36 "DriveRing" "stripes" "[LDriveRing$Stripe;" ∈ TB := tb 142 (by decide +kernel) (by decide +kernel)
theorem t_fX3_44 : Cond.fieldLink "DriveRing" 44 "DriveRing" "lost" "[Z" ∈ TB := tb 143 (by decide +kernel) (by decide +kernel)
theorem t_fX3_51 : Cond.fieldLink "DriveRing" 51 "DriveRing" "teller" "LDriveRing$Teller;" ∈ TB := tb 144 (by decide +kernel) (by decide +kernel)
theorem t_fX3_55 : Cond.fieldLink "DriveRing" 55 "DriveRing" "powered" "Z" ∈ TB := tb 145 (by decide +kernel) (by decide +kernel)
theorem t_fX3_59 : Cond.fieldLink "DriveRing" 59 "DriveRing" "turnsLeft" "I" ∈ TB := tb 146 (by decide +kernel) (by decide +kernel)
theorem t_mL_29 : Cond.methodLink "DriveRingLaw" 29 yX3_count ∈ TB := tb 160 (by decide +kernel) (by decide +kernel)
theorem t_inst_X3_count : Cond.instanceMethod yX3_count ∈ TB := tb 161 (by decide +kernel) (by decide +kernel)
theorem t_sel_X3_count : Cond.selects RX3 yX3_count yX3_count ∈ TB := tb 162 (by decide +kernel) (by decide +kernel)
theorem t_code_X3_count : Cond.code yX3_count cX3_count 2 (some .int) ∈ TB := tb 163 (by decide +kernel) (by decide +kernel)
theorem t_mX3_65 : Cond.methodLink "DriveRing" 65 yX3_lostDrives ∈ TB := tb 164 (by decide +kernel) (by decide +kernel)
theorem t_inst_X3_lostDrives : Cond.instanceMethod yX3_lostDrives ∈ TB := tb 166 (by decide +kernel) (by decide +kernel)
theorem t_code_X3_lostDrives : Cond.code yX3_lostDrives cX3_lostDrives 3 (some .int) ∈ TB := tb 167 (by decide +kernel) (by decide +kernel)
theorem t_mX3_69 : Cond.methodLink "DriveRing" 69 yX3_incompleteDrives ∈ TB := tb 168 (by decide +kernel) (by decide +kernel)
theorem t_inst_X3_incompleteDrives : Cond.instanceMethod yX3_incompleteDrives ∈ TB := tb 170 (by decide +kernel) (by decide +kernel)
theorem t_code_X3_incompleteDrives : Cond.code yX3_incompleteDrives cX3_incompleteDrives 3 (some .int) ∈ TB := tb 171 (by decide +kernel) (by decide +kernel)
theorem t_mX3_146 : Cond.methodLink "DriveRing" 146 yX3_missesSomeStripe ∈ TB := tb 172 (by decide +kernel) (by decide +kernel)
theorem t_inst_X3_missesSomeStripe : Cond.instanceMethod yX3_missesSomeStripe ∈ TB := tb 174 (by decide +kernel) (by decide +kernel)
theorem t_code_X3_missesSomeStripe : Cond.code yX3_missesSomeStripe cX3_missesSomeStripe 3 (some .boolean) ∈ TB := tb 175 (by decide +kernel) (by decide +kernel)
theorem t_mL_33 : Cond.methodLink "DriveRingLaw" 33 yX3_write ∈ TB := tb 176 (by decide +kernel) (by decide +kernel)
theorem t_inst_X3_write : Cond.instanceMethod yX3_write ∈ TB := tb 177 (by decide +kernel) (by decide +kernel)
theorem t_sel_X3_write : Cond.selects RX3 yX3_write yX3_write ∈ TB := tb 178 (by decide +kernel) (by decide +kernel)
theorem t_code_X3_write : Cond.code yX3_write cX3_write 8 (some .int) ∈ TB := tb 179 (by decide +kernel) (by decide +kernel)
theorem t_mX3_72 : Cond.methodLink "DriveRing" 72 yX3_isBlock ∈ TB := tb 180 (by decide +kernel) (by decide +kernel)
theorem t_inst_X3_isBlock : Cond.instanceMethod yX3_isBlock ∈ TB := tb 182 (by decide +kernel) (by decide +kernel)
theorem t_code_X3_isBlock : Cond.code yX3_isBlock cX3_isBlock 2 (some .boolean) ∈ TB := tb 183 (by decide +kernel) (by decide +kernel)
theorem t_mX3_76 : Cond.methodLink "DriveRing" 76 yX1_isUnsure ∈ TB := tb 184 (by decide +kernel) (by decide +kernel)
theorem t_inst_X1_isUnsure : Cond.instanceMethod yX1_isUnsure ∈ TB := tb 185 (by decide +kernel) (by decide +kernel)
theorem t_sel_X1_isUnsure : Cond.selects RX1 yX1_isUnsure yX1_isUnsure ∈ TB := tb 186 (by decide +kernel) (by decide +kernel)
theorem t_code_X1_isUnsure : Cond.code yX1_isUnsure cX1_isUnsure 1 (some .boolean) ∈ TB := tb 187 (by decide +kernel) (by decide +kernel)
theorem t_mX1_33 : Cond.methodLink "DriveRing$Stripe" 33 yX1_missingDrives ∈ TB := tb 188 (by decide +kernel) (by decide +kernel)
theorem t_inst_X1_missingDrives : Cond.instanceMethod yX1_missingDrives ∈ TB := tb 189 (by decide +kernel) (by decide +kernel)
theorem t_sel_X1_missingDrives : Cond.selects RX1 yX1_missingDrives yX1_missingDrives ∈ TB := tb 190 (by decide +kernel) (by decide +kernel)
theorem t_code_X1_missingDrives : Cond.code yX1_missingDrives cX1_missingDrives 3 (some .int) ∈ TB := tb 191 (by decide +kernel) (by decide +kernel)
theorem t_mX3_80 : Cond.methodLink "DriveRing" 80 yX1_missingDrives ∈ TB := tb 192 (by decide +kernel) (by decide +kernel)
theorem t_mX3_83 : Cond.methodLink "DriveRing" 83 yX0_wordOfBlock ∈ TB := tb 193 (by decide +kernel) (by decide +kernel)
theorem t_inst_X0_wordOfBlock : Cond.instanceMethod yX0_wordOfBlock ∈ TB := tb 194 (by decide +kernel) (by decide +kernel)
theorem t_sel_X0_wordOfBlock : Cond.selects RX0 yX0_wordOfBlock yX0_wordOfBlock ∈ TB := tb 195 (by decide +kernel) (by decide +kernel)
theorem t_code_X0_wordOfBlock : Cond.code yX0_wordOfBlock cX0_wordOfBlock 2 (some .int) ∈ TB := tb 196 (by decide +kernel) (by decide +kernel)
theorem t_mX3_86 : Cond.methodLink "DriveRing" 86 yX0_driveOfBlock ∈ TB := tb 197 (by decide +kernel) (by decide +kernel)
theorem t_inst_X0_driveOfBlock : Cond.instanceMethod yX0_driveOfBlock ∈ TB := tb 198 (by decide +kernel) (by decide +kernel)
theorem t_sel_X0_driveOfBlock : Cond.selects RX0 yX0_driveOfBlock yX0_driveOfBlock ∈ TB := tb 199 (by decide +kernel) (by decide +kernel)
theorem t_code_X0_driveOfBlock : Cond.code yX0_driveOfBlock cX0_driveOfBlock 2 (some .int) ∈ TB := tb 200 (by decide +kernel) (by decide +kernel)
theorem t_mX3_89 : Cond.methodLink "DriveRing" 89 yX3_valueOf ∈ TB := tb 201 (by decide +kernel) (by decide +kernel)
theorem t_inst_X3_valueOf : Cond.instanceMethod yX3_valueOf ∈ TB := tb 203 (by decide +kernel) (by decide +kernel)
theorem t_code_X3_valueOf : Cond.code yX3_valueOf cX3_valueOf 5 (some .int) ∈ TB := tb 204 (by decide +kernel) (by decide +kernel)
theorem t_mX3_156 : Cond.methodLink "DriveRing" 156 yX0_place ∈ TB := tb 205 (by decide +kernel) (by decide +kernel)
theorem t_inst_X0_place : Cond.instanceMethod yX0_place ∈ TB := tb 206 (by decide +kernel) (by decide +kernel)
theorem t_sel_X0_place : Cond.selects RX0 yX0_place yX0_place ∈ TB := tb 207 (by decide +kernel) (by decide +kernel)
theorem t_code_X0_place : Cond.code yX0_place cX0_place 3 (some .int) ∈ TB := tb 208 (by decide +kernel) (by decide +kernel)
theorem t_mX3_169 : Cond.methodLink "DriveRing" 169 yX2_tell ∈ TB := tb 209 (by decide +kernel) (by decide +kernel)
theorem t_inst_X2_tell : Cond.instanceMethod yX2_tell ∈ TB := tb 210 (by decide +kernel) (by decide +kernel)
theorem t_sel_X2_tell : Cond.selects RX2 yX2_tell yX2_tell ∈ TB := tb 211 (by decide +kernel) (by decide +kernel)
theorem t_code_X2_tell : Cond.code yX2_tell cX2_tell 5 none ∈ TB := tb 212 (by decide +kernel) (by decide +kernel)
theorem t_mX2_27 : Cond.methodLink "DriveRing$Teller" 27 yX2_load ∈ TB := tb 213 (by decide +kernel) (by decide +kernel)
theorem t_inst_X2_load : Cond.instanceMethod yX2_load ∈ TB := tb 215 (by decide +kernel) (by decide +kernel)
theorem t_code_X2_load : Cond.code yX2_load cX2_load 5 none ∈ TB := tb 216 (by decide +kernel) (by decide +kernel)
theorem t_mX2_44 : Cond.methodLink "DriveRing$Teller" 44 yX0_place ∈ TB := tb 217 (by decide +kernel) (by decide +kernel)
theorem t_mX2_37 : Cond.methodLink "DriveRing$Teller" 37 yX2_settle ∈ TB := tb 218 (by decide +kernel) (by decide +kernel)
theorem t_inst_X2_settle : Cond.instanceMethod yX2_settle ∈ TB := tb 220 (by decide +kernel) (by decide +kernel)
theorem t_code_X2_settle : Cond.code yX2_settle cX2_settle 9 none ∈ TB := tb 221 (by decide +kernel) (by decide +kernel)
theorem t_mX2_54 : Cond.methodLink "DriveRing$Teller" 54 yX0_dataDrive ∈ TB := tb 222 (by decide +kernel) (by decide +kernel)
theorem t_inst_X0_dataDrive : Cond.instanceMethod yX0_dataDrive ∈ TB := tb 223 (by decide +kernel) (by decide +kernel)
theorem t_sel_X0_dataDrive : Cond.selects RX0 yX0_dataDrive yX0_dataDrive ∈ TB := tb 224 (by decide +kernel) (by decide +kernel)
theorem t_code_X0_dataDrive : Cond.code yX0_dataDrive cX0_dataDrive 4 (some .int) ∈ TB := tb 225 (by decide +kernel) (by decide +kernel)
theorem t_mX0_22 : Cond.methodLink "DriveRing$Shape" 22 yX0_step ∈ TB := tb 226 (by decide +kernel) (by decide +kernel)
theorem t_inst_X0_step : Cond.instanceMethod yX0_step ∈ TB := tb 228 (by decide +kernel) (by decide +kernel)
theorem t_code_X0_step : Cond.code yX0_step cX0_step 3 (some .int) ∈ TB := tb 229 (by decide +kernel) (by decide +kernel)
theorem t_mX0_26 : Cond.methodLink "DriveRing$Shape" 26 yJ9_floorMod ∈ TB := tb 230 (by decide +kernel) (by decide +kernel)
theorem t_stat_J9_floorMod : Cond.static yJ9_floorMod ∈ TB := tb 231 (by decide +kernel) (by decide +kernel)
theorem t_code_J9_floorMod : Cond.code yJ9_floorMod cJ9_floorMod 3 (some .int) ∈ TB := tb 232 (by decide +kernel) (by decide +kernel)
theorem t_mX3_96 : Cond.methodLink "DriveRing" 96 yX3_putIfPresent ∈ TB := tb 233 (by decide +kernel) (by decide +kernel)
theorem t_inst_X3_putIfPresent : Cond.instanceMethod yX3_putIfPresent ∈ TB := tb 235 (by decide +kernel) (by decide +kernel)
theorem t_code_X3_putIfPresent : Cond.code yX3_putIfPresent cX3_putIfPresent 5 (some .boolean) ∈ TB := tb 236 (by decide +kernel) (by decide +kernel)
theorem t_mX3_177 : Cond.methodLink "DriveRing" 177 yX3_put ∈ TB := tb 237 (by decide +kernel) (by decide +kernel)
theorem t_inst_X3_put : Cond.instanceMethod yX3_put ∈ TB := tb 239 (by decide +kernel) (by decide +kernel)
theorem t_code_X3_put : Cond.code yX3_put cX3_put 5 (some .boolean) ∈ TB := tb 240 (by decide +kernel) (by decide +kernel)
theorem t_mX3_174 : Cond.methodLink "DriveRing" 174 yX3_takeTurn ∈ TB := tb 241 (by decide +kernel) (by decide +kernel)
theorem t_inst_X3_takeTurn : Cond.instanceMethod yX3_takeTurn ∈ TB := tb 243 (by decide +kernel) (by decide +kernel)
theorem t_code_X3_takeTurn : Cond.code yX3_takeTurn cX3_takeTurn 1 (some .boolean) ∈ TB := tb 244 (by decide +kernel) (by decide +kernel)
theorem t_mX3_103 : Cond.methodLink "DriveRing" 103 yX3_changeParity ∈ TB := tb 245 (by decide +kernel) (by decide +kernel)
theorem t_inst_X3_changeParity : Cond.instanceMethod yX3_changeParity ∈ TB := tb 247 (by decide +kernel) (by decide +kernel)
theorem t_code_X3_changeParity : Cond.code yX3_changeParity cX3_changeParity 7 (some .boolean) ∈ TB := tb 248 (by decide +kernel) (by decide +kernel)
theorem t_mX3_180 : Cond.methodLink "DriveRing" 180 yX0_parityDrive ∈ TB := tb 249 (by decide +kernel) (by decide +kernel)
theorem t_inst_X0_parityDrive : Cond.instanceMethod yX0_parityDrive ∈ TB := tb 250 (by decide +kernel) (by decide +kernel)
theorem t_sel_X0_parityDrive : Cond.selects RX0 yX0_parityDrive yX0_parityDrive ∈ TB := tb 251 (by decide +kernel) (by decide +kernel)
theorem t_code_X0_parityDrive : Cond.code yX0_parityDrive cX0_parityDrive 4 (some .int) ∈ TB := tb 252 (by decide +kernel) (by decide +kernel)
theorem t_mL_46 : Cond.methodLink "DriveRingLaw" 46 yX3_lose ∈ TB := tb 253 (by decide +kernel) (by decide +kernel)
theorem t_inst_X3_lose : Cond.instanceMethod yX3_lose ∈ TB := tb 254 (by decide +kernel) (by decide +kernel)
theorem t_sel_X3_lose : Cond.selects RX3 yX3_lose yX3_lose ∈ TB := tb 255 (by decide +kernel) (by decide +kernel)
theorem t_code_X3_lose : Cond.code yX3_lose cX3_lose 3 (some .boolean) ∈ TB := tb 256 (by decide +kernel) (by decide +kernel)
theorem t_mX3_130 : Cond.methodLink "DriveRing" 130 yX3_isDrive ∈ TB := tb 257 (by decide +kernel) (by decide +kernel)
theorem t_inst_X3_isDrive : Cond.instanceMethod yX3_isDrive ∈ TB := tb 259 (by decide +kernel) (by decide +kernel)
theorem t_code_X3_isDrive : Cond.code yX3_isDrive cX3_isDrive 2 (some .boolean) ∈ TB := tb 260 (by decide +kernel) (by decide +kernel)
theorem t_mX3_133 : Cond.methodLink "DriveRing" 133 yX1_drop ∈ TB := tb 261 (by decide +kernel) (by decide +kernel)
theorem t_inst_X1_drop : Cond.instanceMethod yX1_drop ∈ TB := tb 262 (by decide +kernel) (by decide +kernel)
theorem t_sel_X1_drop : Cond.selects RX1 yX1_drop yX1_drop ∈ TB := tb 263 (by decide +kernel) (by decide +kernel)
theorem t_code_X1_drop : Cond.code yX1_drop cX1_drop 3 none ∈ TB := tb 264 (by decide +kernel) (by decide +kernel)
theorem t_mX1_37 : Cond.methodLink "DriveRing$Stripe" 37 yX0_place ∈ TB := tb 265 (by decide +kernel) (by decide +kernel)
theorem t_mL_51 : Cond.methodLink "DriveRingLaw" 51 yX3_replace ∈ TB := tb 266 (by decide +kernel) (by decide +kernel)
theorem t_inst_X3_replace : Cond.instanceMethod yX3_replace ∈ TB := tb 267 (by decide +kernel) (by decide +kernel)
theorem t_sel_X3_replace : Cond.selects RX3 yX3_replace yX3_replace ∈ TB := tb 268 (by decide +kernel) (by decide +kernel)
theorem t_code_X3_replace : Cond.code yX3_replace cX3_replace 2 (some .boolean) ∈ TB := tb 269 (by decide +kernel) (by decide +kernel)
theorem t_mL_55 : Cond.methodLink "DriveRingLaw" 55 yX3_rebuild ∈ TB := tb 270 (by decide +kernel) (by decide +kernel)
theorem t_inst_X3_rebuild : Cond.instanceMethod yX3_rebuild ∈ TB := tb 271 (by decide +kernel) (by decide +kernel)
theorem t_sel_X3_rebuild : Cond.selects RX3 yX3_rebuild yX3_rebuild ∈ TB := tb 272 (by decide +kernel) (by decide +kernel)
theorem t_code_X3_rebuild : Cond.code yX3_rebuild cX3_rebuild 4 (some .int) ∈ TB := tb 273 (by decide +kernel) (by decide +kernel)
theorem t_mX3_136 : Cond.methodLink "DriveRing" 136 yX3_hasNewDrive ∈ TB := tb 274 (by decide +kernel) (by decide +kernel)
theorem t_inst_X3_hasNewDrive : Cond.instanceMethod yX3_hasNewDrive ∈ TB := tb 276 (by decide +kernel) (by decide +kernel)
theorem t_code_X3_hasNewDrive : Cond.code yX3_hasNewDrive cX3_hasNewDrive 3 (some .boolean) ∈ TB := tb 277 (by decide +kernel) (by decide +kernel)
theorem t_mX3_165 : Cond.methodLink "DriveRing" 165 yX3_isNewIn ∈ TB := tb 278 (by decide +kernel) (by decide +kernel)
theorem t_inst_X3_isNewIn : Cond.instanceMethod yX3_isNewIn ∈ TB := tb 280 (by decide +kernel) (by decide +kernel)
theorem t_code_X3_isNewIn : Cond.code yX3_isNewIn cX3_isNewIn 3 (some .boolean) ∈ TB := tb 281 (by decide +kernel) (by decide +kernel)
theorem t_mX3_125 : Cond.methodLink "DriveRing" 125 yX1_isTold ∈ TB := tb 282 (by decide +kernel) (by decide +kernel)
theorem t_inst_X1_isTold : Cond.instanceMethod yX1_isTold ∈ TB := tb 283 (by decide +kernel) (by decide +kernel)
theorem t_sel_X1_isTold : Cond.selects RX1 yX1_isTold yX1_isTold ∈ TB := tb 284 (by decide +kernel) (by decide +kernel)
theorem t_code_X1_isTold : Cond.code yX1_isTold cX1_isTold 1 (some .boolean) ∈ TB := tb 285 (by decide +kernel) (by decide +kernel)
theorem t_mX3_140 : Cond.methodLink "DriveRing" 140 yX3_rebuildStripe ∈ TB := tb 286 (by decide +kernel) (by decide +kernel)
theorem t_inst_X3_rebuildStripe : Cond.instanceMethod yX3_rebuildStripe ∈ TB := tb 288 (by decide +kernel) (by decide +kernel)
theorem t_code_X3_rebuildStripe : Cond.code yX3_rebuildStripe cX3_rebuildStripe 3 (some .boolean) ∈ TB := tb 289 (by decide +kernel) (by decide +kernel)
theorem t_mX3_184 : Cond.methodLink "DriveRing" 184 yX3_putDrive ∈ TB := tb 290 (by decide +kernel) (by decide +kernel)
theorem t_inst_X3_putDrive : Cond.instanceMethod yX3_putDrive ∈ TB := tb 292 (by decide +kernel) (by decide +kernel)
theorem t_code_X3_putDrive : Cond.code yX3_putDrive cX3_putDrive 4 (some .boolean) ∈ TB := tb 293 (by decide +kernel) (by decide +kernel)
theorem t_mL_59 : Cond.methodLink "DriveRingLaw" 59 yX3_cut ∈ TB := tb 294 (by decide +kernel) (by decide +kernel)
theorem t_inst_X3_cut : Cond.instanceMethod yX3_cut ∈ TB := tb 295 (by decide +kernel) (by decide +kernel)
theorem t_sel_X3_cut : Cond.selects RX3 yX3_cut yX3_cut ∈ TB := tb 296 (by decide +kernel) (by decide +kernel)
theorem t_code_X3_cut : Cond.code yX3_cut cX3_cut 2 (some .boolean) ∈ TB := tb 297 (by decide +kernel) (by decide +kernel)
theorem t_mL_63 : Cond.methodLink "DriveRingLaw" 63 yX3_start ∈ TB := tb 298 (by decide +kernel) (by decide +kernel)
theorem t_inst_X3_start : Cond.instanceMethod yX3_start ∈ TB := tb 299 (by decide +kernel) (by decide +kernel)
theorem t_sel_X3_start : Cond.selects RX3 yX3_start yX3_start ∈ TB := tb 300 (by decide +kernel) (by decide +kernel)
theorem t_code_X3_start : Cond.code yX3_start cX3_start 4 (some .int) ∈ TB := tb 301 (by decide +kernel) (by decide +kernel)
theorem t_mX3_143 : Cond.methodLink "DriveRing" 143 yX1_renewParities ∈ TB := tb 302 (by decide +kernel) (by decide +kernel)
theorem t_inst_X1_renewParities : Cond.instanceMethod yX1_renewParities ∈ TB := tb 303 (by decide +kernel) (by decide +kernel)
theorem t_sel_X1_renewParities : Cond.selects RX1 yX1_renewParities yX1_renewParities ∈ TB := tb 304 (by decide +kernel) (by decide +kernel)
theorem t_code_X1_renewParities : Cond.code yX1_renewParities cX1_renewParities 2 none ∈ TB := tb 305 (by decide +kernel) (by decide +kernel)
theorem t_mX1_44 : Cond.methodLink "DriveRing$Stripe" 44 yX1_dataSum ∈ TB := tb 306 (by decide +kernel) (by decide +kernel)
theorem t_inst_X1_dataSum : Cond.instanceMethod yX1_dataSum ∈ TB := tb 308 (by decide +kernel) (by decide +kernel)
theorem t_code_X1_dataSum : Cond.code yX1_dataSum cX1_dataSum 5 (some .int) ∈ TB := tb 309 (by decide +kernel) (by decide +kernel)
theorem t_mX1_57 : Cond.methodLink "DriveRing$Stripe" 57 yX0_dataDrive ∈ TB := tb 310 (by decide +kernel) (by decide +kernel)
theorem t_mL_67 : Cond.methodLink "DriveRingLaw" 67 yX3_on ∈ TB := tb 311 (by decide +kernel) (by decide +kernel)
theorem t_inst_X3_on : Cond.instanceMethod yX3_on ∈ TB := tb 312 (by decide +kernel) (by decide +kernel)
theorem t_sel_X3_on : Cond.selects RX3 yX3_on yX3_on ∈ TB := tb 313 (by decide +kernel) (by decide +kernel)
theorem t_code_X3_on : Cond.code yX3_on cX3_on 1 (some .boolean) ∈ TB := tb 314 (by decide +kernel) (by decide +kernel)
theorem t_mL_72 : Cond.methodLink "DriveRingLaw" 72 yX3_drive ∈ TB := tb 315 (by decide +kernel) (by decide +kernel)
theorem t_inst_X3_drive : Cond.instanceMethod yX3_drive ∈ TB := tb 316 (by decide +kernel) (by decide +kernel)
theorem t_sel_X3_drive : Cond.selects RX3 yX3_drive yX3_drive ∈ TB := tb 317 (by decide +kernel) (by decide +kernel)
theorem t_code_X3_drive : Cond.code yX3_drive cX3_drive 2 (some .int) ∈ TB := tb 318 (by decide +kernel) (by decide +kernel)
theorem t_mL_76 : Cond.methodLink "DriveRingLaw" 76 yX3_stripe ∈ TB := tb 319 (by decide +kernel) (by decide +kernel)
theorem t_inst_X3_stripe : Cond.instanceMethod yX3_stripe ∈ TB := tb 320 (by decide +kernel) (by decide +kernel)
theorem t_sel_X3_stripe : Cond.selects RX3 yX3_stripe yX3_stripe ∈ TB := tb 321 (by decide +kernel) (by decide +kernel)
theorem t_code_X3_stripe : Cond.code yX3_stripe cX3_stripe 2 (some .int) ∈ TB := tb 322 (by decide +kernel) (by decide +kernel)
theorem t_mX3_149 : Cond.methodLink "DriveRing" 149 yX3_isStripe ∈ TB := tb 323 (by decide +kernel) (by decide +kernel)
theorem t_inst_X3_isStripe : Cond.instanceMethod yX3_isStripe ∈ TB := tb 325 (by decide +kernel) (by decide +kernel)
theorem t_code_X3_isStripe : Cond.code yX3_isStripe cX3_isStripe 2 (some .boolean) ∈ TB := tb 326 (by decide +kernel) (by decide +kernel)
theorem t_mL_80 : Cond.methodLink "DriveRingLaw" 80 yX3_word ∈ TB := tb 327 (by decide +kernel) (by decide +kernel)
theorem t_inst_X3_word : Cond.instanceMethod yX3_word ∈ TB := tb 328 (by decide +kernel) (by decide +kernel)
theorem t_sel_X3_word : Cond.selects RX3 yX3_word yX3_word ∈ TB := tb 329 (by decide +kernel) (by decide +kernel)
theorem t_code_X3_word : Cond.code yX3_word cX3_word 4 (some .int) ∈ TB := tb 330 (by decide +kernel) (by decide +kernel)
theorem t_mL_85 : Cond.methodLink "DriveRingLaw" 85 yX3_agree ∈ TB := tb 331 (by decide +kernel) (by decide +kernel)
theorem t_inst_X3_agree : Cond.instanceMethod yX3_agree ∈ TB := tb 332 (by decide +kernel) (by decide +kernel)
theorem t_sel_X3_agree : Cond.selects RX3 yX3_agree yX3_agree ∈ TB := tb 333 (by decide +kernel) (by decide +kernel)
theorem t_code_X3_agree : Cond.code yX3_agree cX3_agree 2 (some .int) ∈ TB := tb 334 (by decide +kernel) (by decide +kernel)
theorem t_mX3_159 : Cond.methodLink "DriveRing" 159 yX1_agreeingParities ∈ TB := tb 335 (by decide +kernel) (by decide +kernel)
theorem t_inst_X1_agreeingParities : Cond.instanceMethod yX1_agreeingParities ∈ TB := tb 336 (by decide +kernel) (by decide +kernel)
theorem t_sel_X1_agreeingParities : Cond.selects RX1 yX1_agreeingParities yX1_agreeingParities ∈ TB := tb 337 (by decide +kernel) (by decide +kernel)
theorem t_code_X1_agreeingParities : Cond.code yX1_agreeingParities cX1_agreeingParities 3 (some .int) ∈ TB := tb 338 (by decide +kernel) (by decide +kernel)
theorem t_mX1_50 : Cond.methodLink "DriveRing$Stripe" 50 yX1_agrees ∈ TB := tb 339 (by decide +kernel) (by decide +kernel)
theorem t_inst_X1_agrees : Cond.instanceMethod yX1_agrees ∈ TB := tb 341 (by decide +kernel) (by decide +kernel)
theorem t_code_X1_agrees : Cond.code yX1_agrees cX1_agrees 3 (some .boolean) ∈ TB := tb 342 (by decide +kernel) (by decide +kernel)
theorem t_mX1_54 : Cond.methodLink "DriveRing$Stripe" 54 yX1_isWhole ∈ TB := tb 343 (by decide +kernel) (by decide +kernel)
theorem t_inst_X1_isWhole : Cond.instanceMethod yX1_isWhole ∈ TB := tb 345 (by decide +kernel) (by decide +kernel)
theorem t_code_X1_isWhole : Cond.code yX1_isWhole cX1_isWhole 4 (some .boolean) ∈ TB := tb 346 (by decide +kernel) (by decide +kernel)
theorem t_mL_17 : Cond.methodLink "DriveRingLaw" 17 yL_cell ∈ TB := tb 347 (by decide +kernel) (by decide +kernel)
theorem t_stat_L_cell : Cond.static yL_cell ∈ TB := tb 348 (by decide +kernel) (by decide +kernel)
theorem t_code_L_cell : Cond.code yL_cell cL_cell 2 (some .int) ∈ TB := tb 349 (by decide +kernel) (by decide +kernel)
theorem t_mL_38 : Cond.methodLink "DriveRingLaw" 38 yL_read ∈ TB := tb 350 (by decide +kernel) (by decide +kernel)
theorem t_stat_L_read : Cond.static yL_read ∈ TB := tb 351 (by decide +kernel) (by decide +kernel)
theorem t_cL_13 : Cond.classLink "DriveRingLaw" 13 "java/util/NoSuchElementException" ∈ TB := tb 353 (by decide +kernel) (by decide +kernel)
theorem t_cL_15 : Cond.classLink "DriveRingLaw" 15 "java/lang/IllegalStateException" ∈ TB := tb 354 (by decide +kernel) (by decide +kernel)
theorem t_mL_7 : Cond.methodLink "DriveRingLaw" 7 yX3_read ∈ TB := tb 355 (by decide +kernel) (by decide +kernel)
theorem t_inst_X3_read : Cond.instanceMethod yX3_read ∈ TB := tb 356 (by decide +kernel) (by decide +kernel)
theorem t_sel_X3_read : Cond.selects RX3 yX3_read yX3_read ∈ TB := tb 357 (by decide +kernel) (by decide +kernel)
theorem t_code_X3_read : Cond.code yX3_read cX3_read 4 (some .int) ∈ TB := tb 358 (by decide +kernel) (by decide +kernel)
theorem t_cX3_110 : Cond.classLink "DriveRing" 110 "java/util/NoSuchElementException" ∈ TB := tb 359 (by decide +kernel) (by decide +kernel)
theorem t_mX3_114 : Cond.methodLink "DriveRing" 114 ⟨"java/util/NoSuchElementException", "<init>", "(Ljava/lang/String;)V"⟩ ∈ TB := tb 400 (by decide +kernel) (by decide +kernel)
theorem t_cX3_117 : Cond.classLink "DriveRing" 117 "java/lang/IllegalStateException" ∈ TB := tb 426 (by decide +kernel) (by decide +kernel)
theorem t_mX3_121 : Cond.methodLink "DriveRing" 121 ⟨"java/lang/IllegalStateException", "<init>", "(Ljava/lang/String;)V"⟩ ∈ TB := tb 436 (by decide +kernel) (by decide +kernel)
theorem t_cL_26 : Cond.classLink "DriveRingLaw" 26 "DriveRingModel" ∈ TB := tb 443 (by decide +kernel) (by decide +kernel)
theorem t_new_X4 : Cond.instantiable "DriveRingModel" 14 ∈ TB := tb 444 (by decide +kernel) (by decide +kernel)
theorem t_mL_28 : Cond.methodLink "DriveRingLaw" 28 yX4_init ∈ TB := tb 445 (by decide +kernel) (by decide +kernel)
theorem t_inst_X4_init : Cond.instanceMethod yX4_init ∈ TB := tb 446 (by decide +kernel) (by decide +kernel)
theorem t_code_X4_init : Cond.code yX4_init cX4_init 3 none ∈ TB := tb 447 (by decide +kernel) (by decide +kernel)
theorem t_mX4_1 : Cond.methodLink "DriveRingModel" 1 ⟨"java/lang/Object", "<init>", "()V"⟩ ∈ TB := tb 448 (by decide +kernel) (by decide +kernel)
theorem t_fX4_49 : Cond.fieldLink "DriveRingModel" 49 "DriveRingModel" "thrown" "I" ∈ TB := tb 449 (by decide +kernel) (by decide +kernel)
theorem t_fX4_43 : Cond.fieldLink "DriveRingModel" 43 "DriveRingModel" "p" "I" ∈ TB := tb 450 (by decide +kernel) (by decide +kernel)
theorem t_fX4_46 : Cond.fieldLink "DriveRingModel" 46 "DriveRingModel" "stripes" "I" ∈ TB := tb 451 (by decide +kernel) (by decide +kernel)
theorem t_fX4_7 : Cond.fieldLink "DriveRingModel" 7 "DriveRingModel" "words" "[I" ∈ TB := tb 452 (by decide +kernel) (by decide +kernel)
theorem t_fX4_13 : Cond.fieldLink "DriveRingModel" 13 "DriveRingModel" "lost" "[Z" ∈ TB := tb 453 (by decide +kernel) (by decide +kernel)
theorem t_fX4_17 : Cond.fieldLink "DriveRingModel" 17 "DriveRingModel" "fresh" "[Z" ∈ TB := tb 454 (by decide +kernel) (by decide +kernel)
theorem t_fX4_20 : Cond.fieldLink "DriveRingModel" 20 "DriveRingModel" "marked" "[Z" ∈ TB := tb 455 (by decide +kernel) (by decide +kernel)
theorem t_fX4_23 : Cond.fieldLink "DriveRingModel" 23 "DriveRingModel" "power" "Z" ∈ TB := tb 456 (by decide +kernel) (by decide +kernel)
theorem t_fX4_27 : Cond.fieldLink "DriveRingModel" 27 "DriveRingModel" "left" "I" ∈ TB := tb 457 (by decide +kernel) (by decide +kernel)
theorem t_fX4_31 : Cond.fieldLink "DriveRingModel" 31 "DriveRingModel" "bits" "[I" ∈ TB := tb 458 (by decide +kernel) (by decide +kernel)
theorem t_fX4_34 : Cond.fieldLink "DriveRingModel" 34 "DriveRingModel" "sums" "[I" ∈ TB := tb 459 (by decide +kernel) (by decide +kernel)
theorem t_fX4_37 : Cond.fieldLink "DriveRingModel" 37 "DriveRingModel" "known" "[I" ∈ TB := tb 460 (by decide +kernel) (by decide +kernel)
theorem t_fX4_40 : Cond.fieldLink "DriveRingModel" 40 "DriveRingModel" "missing" "[I" ∈ TB := tb 461 (by decide +kernel) (by decide +kernel)
theorem t_fX4_52 : Cond.fieldLink "DriveRingModel" 52 "DriveRingModel" "misses" "I" ∈ TB := tb 462 (by decide +kernel) (by decide +kernel)
theorem t_mL_42 : Cond.methodLink "DriveRingLaw" 42 yX4_thrown ∈ TB := tb 492 (by decide +kernel) (by decide +kernel)
theorem t_inst_X4_thrown : Cond.instanceMethod yX4_thrown ∈ TB := tb 493 (by decide +kernel) (by decide +kernel)
theorem t_sel_X4_thrown : Cond.selects RX4 yX4_thrown yX4_thrown ∈ TB := tb 494 (by decide +kernel) (by decide +kernel)
theorem t_code_X4_thrown : Cond.code yX4_thrown cX4_thrown 1 (some .int) ∈ TB := tb 495 (by decide +kernel) (by decide +kernel)
theorem t_mL_62 : Cond.methodLink "DriveRingLaw" 62 yX4_cut ∈ TB := tb 496 (by decide +kernel) (by decide +kernel)
theorem t_inst_X4_cut : Cond.instanceMethod yX4_cut ∈ TB := tb 497 (by decide +kernel) (by decide +kernel)
theorem t_sel_X4_cut : Cond.selects RX4 yX4_cut yX4_cut ∈ TB := tb 498 (by decide +kernel) (by decide +kernel)
theorem t_code_X4_cut : Cond.code yX4_cut cX4_cut 2 (some .boolean) ∈ TB := tb 499 (by decide +kernel) (by decide +kernel)
theorem t_mL_66 : Cond.methodLink "DriveRingLaw" 66 yX4_start ∈ TB := tb 500 (by decide +kernel) (by decide +kernel)
theorem t_inst_X4_start : Cond.instanceMethod yX4_start ∈ TB := tb 501 (by decide +kernel) (by decide +kernel)
theorem t_sel_X4_start : Cond.selects RX4 yX4_start yX4_start ∈ TB := tb 502 (by decide +kernel) (by decide +kernel)
theorem t_code_X4_start : Cond.code yX4_start cX4_start 4 (some .int) ∈ TB := tb 503 (by decide +kernel) (by decide +kernel)
theorem t_mX4_63 : Cond.methodLink "DriveRingModel" 63 yX4_missing ∈ TB := tb 504 (by decide +kernel) (by decide +kernel)
theorem t_inst_X4_missing : Cond.instanceMethod yX4_missing ∈ TB := tb 506 (by decide +kernel) (by decide +kernel)
theorem t_code_X4_missing : Cond.code yX4_missing cX4_missing 3 (some .int) ∈ TB := tb 507 (by decide +kernel) (by decide +kernel)
theorem t_mX4_55 : Cond.methodLink "DriveRingModel" 55 yX4_isMissing ∈ TB := tb 508 (by decide +kernel) (by decide +kernel)
theorem t_inst_X4_isMissing : Cond.instanceMethod yX4_isMissing ∈ TB := tb 510 (by decide +kernel) (by decide +kernel)
theorem t_code_X4_isMissing : Cond.code yX4_isMissing cX4_isMissing 3 (some .boolean) ∈ TB := tb 511 (by decide +kernel) (by decide +kernel)
theorem t_mX4_59 : Cond.methodLink "DriveRingModel" 59 yX4_at ∈ TB := tb 512 (by decide +kernel) (by decide +kernel)
theorem t_stat_X4_at : Cond.static yX4_at ∈ TB := tb 513 (by decide +kernel) (by decide +kernel)
theorem t_code_X4_at : Cond.code yX4_at cX4_at 3 (some .int) ∈ TB := tb 514 (by decide +kernel) (by decide +kernel)
theorem t_mX4_74 : Cond.methodLink "DriveRingModel" 74 yX4_parity ∈ TB := tb 515 (by decide +kernel) (by decide +kernel)
theorem t_inst_X4_parity : Cond.instanceMethod yX4_parity ∈ TB := tb 517 (by decide +kernel) (by decide +kernel)
theorem t_code_X4_parity : Cond.code yX4_parity cX4_parity 6 (some .int) ∈ TB := tb 518 (by decide +kernel) (by decide +kernel)
theorem t_mX4_70 : Cond.methodLink "DriveRingModel" 70 yX4_partner ∈ TB := tb 519 (by decide +kernel) (by decide +kernel)
theorem t_inst_X4_partner : Cond.instanceMethod yX4_partner ∈ TB := tb 521 (by decide +kernel) (by decide +kernel)
theorem t_code_X4_partner : Cond.code yX4_partner cX4_partner 4 (some .int) ∈ TB := tb 522 (by decide +kernel) (by decide +kernel)
theorem t_mL_71 : Cond.methodLink "DriveRingLaw" 71 yX4_on ∈ TB := tb 523 (by decide +kernel) (by decide +kernel)
theorem t_inst_X4_on : Cond.instanceMethod yX4_on ∈ TB := tb 524 (by decide +kernel) (by decide +kernel)
theorem t_sel_X4_on : Cond.selects RX4 yX4_on yX4_on ∈ TB := tb 525 (by decide +kernel) (by decide +kernel)
theorem t_code_X4_on : Cond.code yX4_on cX4_on 1 (some .boolean) ∈ TB := tb 526 (by decide +kernel) (by decide +kernel)
theorem t_mL_37 : Cond.methodLink "DriveRingLaw" 37 yX4_write ∈ TB := tb 527 (by decide +kernel) (by decide +kernel)
theorem t_inst_X4_write : Cond.instanceMethod yX4_write ∈ TB := tb 528 (by decide +kernel) (by decide +kernel)
theorem t_sel_X4_write : Cond.selects RX4 yX4_write yX4_write ∈ TB := tb 529 (by decide +kernel) (by decide +kernel)
theorem t_code_X4_write : Cond.code yX4_write cX4_write 10 (some .int) ∈ TB := tb 530 (by decide +kernel) (by decide +kernel)
theorem t_mX4_77 : Cond.methodLink "DriveRingModel" 77 yX4_isBlock ∈ TB := tb 531 (by decide +kernel) (by decide +kernel)
theorem t_inst_X4_isBlock : Cond.instanceMethod yX4_isBlock ∈ TB := tb 533 (by decide +kernel) (by decide +kernel)
theorem t_code_X4_isBlock : Cond.code yX4_isBlock cX4_isBlock 2 (some .boolean) ∈ TB := tb 534 (by decide +kernel) (by decide +kernel)
theorem t_mX4_81 : Cond.methodLink "DriveRingModel" 81 yX4_solve ∈ TB := tb 535 (by decide +kernel) (by decide +kernel)
theorem t_inst_X4_solve : Cond.instanceMethod yX4_solve ∈ TB := tb 537 (by decide +kernel) (by decide +kernel)
theorem t_code_X4_solve : Cond.code yX4_solve cX4_solve 9 none ∈ TB := tb 538 (by decide +kernel) (by decide +kernel)
theorem t_mX4_66 : Cond.methodLink "DriveRingModel" 66 yX4_joins ∈ TB := tb 539 (by decide +kernel) (by decide +kernel)
theorem t_inst_X4_joins : Cond.instanceMethod yX4_joins ∈ TB := tb 541 (by decide +kernel) (by decide +kernel)
theorem t_code_X4_joins : Cond.code yX4_joins cX4_joins 6 none ∈ TB := tb 542 (by decide +kernel) (by decide +kernel)
theorem t_mX4_85 : Cond.methodLink "DriveRingModel" 85 yX4_told ∈ TB := tb 543 (by decide +kernel) (by decide +kernel)
theorem t_inst_X4_told : Cond.instanceMethod yX4_told ∈ TB := tb 545 (by decide +kernel) (by decide +kernel)
theorem t_code_X4_told : Cond.code yX4_told cX4_told 4 (some .int) ∈ TB := tb 546 (by decide +kernel) (by decide +kernel)
theorem t_mX4_89 : Cond.methodLink "DriveRingModel" 89 yX4_puts ∈ TB := tb 547 (by decide +kernel) (by decide +kernel)
theorem t_inst_X4_puts : Cond.instanceMethod yX4_puts ∈ TB := tb 549 (by decide +kernel) (by decide +kernel)
theorem t_code_X4_puts : Cond.code yX4_puts cX4_puts 5 (some .boolean) ∈ TB := tb 550 (by decide +kernel) (by decide +kernel)
theorem t_mL_41 : Cond.methodLink "DriveRingLaw" 41 yX4_read ∈ TB := tb 551 (by decide +kernel) (by decide +kernel)
theorem t_inst_X4_read : Cond.instanceMethod yX4_read ∈ TB := tb 552 (by decide +kernel) (by decide +kernel)
theorem t_sel_X4_read : Cond.selects RX4 yX4_read yX4_read ∈ TB := tb 553 (by decide +kernel) (by decide +kernel)
theorem t_code_X4_read : Cond.code yX4_read cX4_read 6 (some .int) ∈ TB := tb 554 (by decide +kernel) (by decide +kernel)
theorem t_mL_50 : Cond.methodLink "DriveRingLaw" 50 yX4_lose ∈ TB := tb 555 (by decide +kernel) (by decide +kernel)
theorem t_inst_X4_lose : Cond.instanceMethod yX4_lose ∈ TB := tb 556 (by decide +kernel) (by decide +kernel)
theorem t_sel_X4_lose : Cond.selects RX4 yX4_lose yX4_lose ∈ TB := tb 557 (by decide +kernel) (by decide +kernel)
theorem t_code_X4_lose : Cond.code yX4_lose cX4_lose 4 (some .boolean) ∈ TB := tb 558 (by decide +kernel) (by decide +kernel)
theorem t_mX4_93 : Cond.methodLink "DriveRingModel" 93 yX4_isDrive ∈ TB := tb 559 (by decide +kernel) (by decide +kernel)
theorem t_inst_X4_isDrive : Cond.instanceMethod yX4_isDrive ∈ TB := tb 561 (by decide +kernel) (by decide +kernel)
theorem t_code_X4_isDrive : Cond.code yX4_isDrive cX4_isDrive 2 (some .boolean) ∈ TB := tb 562 (by decide +kernel) (by decide +kernel)
theorem t_mL_54 : Cond.methodLink "DriveRingLaw" 54 yX4_replace ∈ TB := tb 563 (by decide +kernel) (by decide +kernel)
theorem t_inst_X4_replace : Cond.instanceMethod yX4_replace ∈ TB := tb 564 (by decide +kernel) (by decide +kernel)
theorem t_sel_X4_replace : Cond.selects RX4 yX4_replace yX4_replace ∈ TB := tb 565 (by decide +kernel) (by decide +kernel)
theorem t_code_X4_replace : Cond.code yX4_replace cX4_replace 3 (some .boolean) ∈ TB := tb 566 (by decide +kernel) (by decide +kernel)
theorem t_mL_58 : Cond.methodLink "DriveRingLaw" 58 yX4_rebuild ∈ TB := tb 567 (by decide +kernel) (by decide +kernel)
theorem t_inst_X4_rebuild : Cond.instanceMethod yX4_rebuild ∈ TB := tb 568 (by decide +kernel) (by decide +kernel)
theorem t_sel_X4_rebuild : Cond.selects RX4 yX4_rebuild yX4_rebuild ∈ TB := tb 569 (by decide +kernel) (by decide +kernel)
theorem t_code_X4_rebuild : Cond.code yX4_rebuild cX4_rebuild 6 (some .int) ∈ TB := tb 570 (by decide +kernel) (by decide +kernel)
theorem t_mX4_96 : Cond.methodLink "DriveRingModel" 96 yX4_isNew ∈ TB := tb 571 (by decide +kernel) (by decide +kernel)
theorem t_inst_X4_isNew : Cond.instanceMethod yX4_isNew ∈ TB := tb 573 (by decide +kernel) (by decide +kernel)
theorem t_code_X4_isNew : Cond.code yX4_isNew cX4_isNew 4 (some .boolean) ∈ TB := tb 574 (by decide +kernel) (by decide +kernel)
theorem t_mL_32 : Cond.methodLink "DriveRingLaw" 32 yX4_count ∈ TB := tb 575 (by decide +kernel) (by decide +kernel)
theorem t_inst_X4_count : Cond.instanceMethod yX4_count ∈ TB := tb 576 (by decide +kernel) (by decide +kernel)
theorem t_sel_X4_count : Cond.selects RX4 yX4_count yX4_count ∈ TB := tb 577 (by decide +kernel) (by decide +kernel)
theorem t_code_X4_count : Cond.code yX4_count cX4_count 5 (some .int) ∈ TB := tb 578 (by decide +kernel) (by decide +kernel)
theorem t_mX4_99 : Cond.methodLink "DriveRingModel" 99 yX4_drive ∈ TB := tb 579 (by decide +kernel) (by decide +kernel)
theorem t_inst_X4_drive : Cond.instanceMethod yX4_drive ∈ TB := tb 580 (by decide +kernel) (by decide +kernel)
theorem t_sel_X4_drive : Cond.selects RX4 yX4_drive yX4_drive ∈ TB := tb 581 (by decide +kernel) (by decide +kernel)
theorem t_code_X4_drive : Cond.code yX4_drive cX4_drive 4 (some .int) ∈ TB := tb 582 (by decide +kernel) (by decide +kernel)
theorem t_mL_75 : Cond.methodLink "DriveRingLaw" 75 yX4_drive ∈ TB := tb 583 (by decide +kernel) (by decide +kernel)
theorem t_mL_79 : Cond.methodLink "DriveRingLaw" 79 yX4_stripe ∈ TB := tb 584 (by decide +kernel) (by decide +kernel)
theorem t_inst_X4_stripe : Cond.instanceMethod yX4_stripe ∈ TB := tb 585 (by decide +kernel) (by decide +kernel)
theorem t_sel_X4_stripe : Cond.selects RX4 yX4_stripe yX4_stripe ∈ TB := tb 586 (by decide +kernel) (by decide +kernel)
theorem t_code_X4_stripe : Cond.code yX4_stripe cX4_stripe 2 (some .int) ∈ TB := tb 587 (by decide +kernel) (by decide +kernel)
theorem t_mX4_102 : Cond.methodLink "DriveRingModel" 102 yX4_isStripe ∈ TB := tb 588 (by decide +kernel) (by decide +kernel)
theorem t_inst_X4_isStripe : Cond.instanceMethod yX4_isStripe ∈ TB := tb 590 (by decide +kernel) (by decide +kernel)
theorem t_code_X4_isStripe : Cond.code yX4_isStripe cX4_isStripe 2 (some .boolean) ∈ TB := tb 591 (by decide +kernel) (by decide +kernel)
theorem t_mL_84 : Cond.methodLink "DriveRingLaw" 84 yX4_word ∈ TB := tb 592 (by decide +kernel) (by decide +kernel)
theorem t_inst_X4_word : Cond.instanceMethod yX4_word ∈ TB := tb 593 (by decide +kernel) (by decide +kernel)
theorem t_sel_X4_word : Cond.selects RX4 yX4_word yX4_word ∈ TB := tb 594 (by decide +kernel) (by decide +kernel)
theorem t_code_X4_word : Cond.code yX4_word cX4_word 4 (some .int) ∈ TB := tb 595 (by decide +kernel) (by decide +kernel)
theorem t_mL_88 : Cond.methodLink "DriveRingLaw" 88 yX4_agree ∈ TB := tb 596 (by decide +kernel) (by decide +kernel)
theorem t_inst_X4_agree : Cond.instanceMethod yX4_agree ∈ TB := tb 597 (by decide +kernel) (by decide +kernel)
theorem t_sel_X4_agree : Cond.selects RX4 yX4_agree yX4_agree ∈ TB := tb 598 (by decide +kernel) (by decide +kernel)
theorem t_code_X4_agree : Cond.code yX4_agree cX4_agree 8 (some .int) ∈ TB := tb 599 (by decide +kernel) (by decide +kernel)
theorem t_arr_long : Cond.arrayClass .long ∈ TB := tb 600 (by decide +kernel) (by decide +kernel)
theorem inX0 : ∀ w ∈ u_ws RX0 TX0 4, w ∈ TB := by
  have e : u_ws RX0 TX0 4 = [79, 81, 83, 85].filterMap (fun i => lw_tbl[i]?) := by decide +kernel
  have g : (u_ws RX0 TX0 4).all goodWord = true := by decide +kernel
  intro w h
  refine List.mem_filter.mpr ⟨?_, List.all_eq_true.mp g w h⟩
  rw [e] at h
  obtain ⟨i, -, hi⟩ := List.mem_filterMap.mp h
  exact List.mem_of_getElem? hi
theorem inX1 : ∀ w ∈ u_ws RX1 TX1 4, w ∈ TB := by
  have e : u_ws RX1 TX1 4 = [110, 112, 114, 116].filterMap (fun i => lw_tbl[i]?) := by decide +kernel
  have g : (u_ws RX1 TX1 4).all goodWord = true := by decide +kernel
  intro w h
  refine List.mem_filter.mpr ⟨?_, List.all_eq_true.mp g w h⟩
  rw [e] at h
  obtain ⟨i, -, hi⟩ := List.mem_filterMap.mp h
  exact List.mem_of_getElem? hi
theorem inX2 : ∀ w ∈ u_ws RX2 TX2 4, w ∈ TB := by
  have e : u_ws RX2 TX2 4 = [132, 134, 136, 138].filterMap (fun i => lw_tbl[i]?) := by decide +kernel
  have g : (u_ws RX2 TX2 4).all goodWord = true := by decide +kernel
  intro w h
  refine List.mem_filter.mpr ⟨?_, List.all_eq_true.mp g w h⟩
  rw [e] at h
  obtain ⟨i, -, hi⟩ := List.mem_filterMap.mp h
  exact List.mem_of_getElem? hi
theorem inX3 : ∀ w ∈ u_ws RX3 TX3 6, w ∈ TB := by
  have e : u_ws RX3 TX3 6 = [147, 149, 151, 153, 155, 157].filterMap (fun i => lw_tbl[i]?) := by decide +kernel
  have g : (u_ws RX3 TX3 6).all goodWord = true := by decide +kernel
  intro w h
  refine List.mem_filter.mpr ⟨?_, List.all_eq_true.mp g w h⟩
  rw [e] at h
  obtain ⟨i, -, hi⟩ := List.mem_filterMap.mp h
  exact List.mem_of_getElem? hi
theorem inX4 : ∀ w ∈ u_ws RX4 TX4 14, w ∈ TB := by
  have e : u_ws RX4 TX4 14 = [463, 465, 467, 469, 471, 473, 475, 477, 479, 481, 483, 485, 487, 489].filterMap (fun i => lw_tbl[i]?) := by decide +kernel
  have g : (u_ws RX4 TX4 14).all goodWord = true := by decide +kernel
  intro w h
  refine List.mem_filter.mpr ⟨?_, List.all_eq_true.mp g w h⟩
  rw [e] at h
  obtain ⟨i, -, hi⟩ := List.mem_filterMap.mp h
  exact List.mem_of_getElem? hi
end
section
/-! my own rows: Nat and Bool views of ints, contracts without new cells, calls with a tail that stays -/
def bI (b : Bool) : Int32 := match b with
  | true => 1
  | false => 0
theorem bI_0 {b : Bool} : bI b = 0 ↔ b = false := by cases b <;> decide
theorem bI_n {b : Bool} : ¬ bI b = 0 ↔ b = true := by cases b <;> decide
theorem bI_nar (b : Bool) : vp_nar .boolean (bI b) = bI b := by cases b <;> decide
theorem bI_narrow (b : Bool) : narrow .boolean (.int (bI b)) = .int (bI b) := by cases b <;> decide
theorem bI_fits (b : Bool) : fits .boolean (.int (bI b)) = true := by cases b <;> decide
theorem up_map {α : Type} (φ : α → Int32) (g : Nat → α) (k : Nat) (x : α) : upd (fun j => φ (g j)) k (φ x) = fun j => φ (va_up g k x j) := by
  funext j
  by_cases h : j = k <;> simp [upd, va_up, h]
theorem upI (f : Nat → Int32) (k : Nat) (x : Int32) : upd f k x = va_up f k x := rfl
theorem va_up_s {α : Type} {f : Nat → α} {k : Nat} {x : α} : va_up f k x k = x := by simp [va_up]
theorem va_up_n {α : Type} {f : Nat → α} {k j : Nat} {x : α} (h : j ≠ k) : va_up f k x j = f j := by simp [va_up, h]
/-- worlds as sets: any order -/
theorem va_P.mem {D : va_G} {cl : List vw_C} {ws ws' : va_W} {H : Heap} (h : va_P D cl ws H) (hs : ∀ q ∈ ws', q ∈ ws) : va_P D cl ws' H := by
  intro k q hk
  obtain ⟨i, hi⟩ := List.getElem?_of_mem (hs q (List.mem_of_getElem? hk))
  exact h i q hi
theorem va_D.iff {A : Nat → Prop} {ws : va_W} : va_D A ws ↔ (ws.map Prod.fst).Nodup ∧ ∀ q ∈ ws, A q.1 := by
  constructor
  · rintro ⟨h1, h2⟩
    refine ⟨?_, fun q hq => ?_⟩
    · refine List.pairwise_iff_getElem.mpr (fun i j hi hj hij he => ?_)
      rw [List.length_map] at hi hj
      rw [List.getElem_map, List.getElem_map] at he
      have := h1 i j _ _ (List.getElem?_eq_getElem hi) (List.getElem?_eq_getElem hj) he
      omega
    · obtain ⟨i, hi⟩ := List.getElem?_of_mem hq
      exact h2 i q hi
  · rintro ⟨h1, h2⟩
    refine ⟨fun i j x y hi hj hxy => ?_, fun k q hk => h2 q (List.mem_of_getElem? hk)⟩
    obtain ⟨hi', ei⟩ := List.getElem?_eq_some_iff.mp hi
    obtain ⟨hj', ej⟩ := List.getElem?_eq_some_iff.mp hj
    have h3 := List.pairwise_iff_getElem.mp h1
    rcases Nat.lt_trichotomy i j with h | h | h
    · exact absurd (by rw [List.getElem_map, List.getElem_map, ei, ej, hxy]) (h3 i j (by rw [List.length_map]; exact hi') (by rw [List.length_map]; exact hj') h)
    · exact h
    · exact absurd (by rw [List.getElem_map, List.getElem_map, ei, ej, hxy]) (h3 j i (by rw [List.length_map]; exact hj') (by rw [List.length_map]; exact hi') h)
theorem va_P.perm {D : va_G} {cl : List vw_C} {ws ws' : va_W} {H : Heap} (h : va_P D cl ws H) (hp : ws'.Perm ws) : va_P D cl ws' H := h.mem (fun _ hq => hp.mem_iff.mp hq)
theorem va_D.perm {A : Nat → Prop} {ws ws' : va_W} (h : va_D A ws) (hp : ws'.Perm ws) : va_D A ws' := by
  rw [va_D.iff] at h ⊢
  exact ⟨(hp.map Prod.fst).nodup_iff.mpr h.1, fun q hq => h.2 q (hp.mem_iff.mp hq)⟩
/-- the part ahead of the tail, in another order -/
theorem va_P.pre {D : va_G} {cl : List vw_C} {pre pre' tl : va_W} {H : Heap} (h : va_P D cl (pre ++ tl) H) (is : List Nat) (hs : is.map (fun i => pre[i]?) = pre'.map some) : va_P D cl (pre' ++ tl) H := by
  refine h.mem (fun q hq => ?_)
  rcases List.mem_append.mp hq with h1 | h1
  · have h2 : some q ∈ is.map (fun i => pre[i]?) := by rw [hs]; exact List.mem_map.mpr ⟨q, h1, rfl⟩
    obtain ⟨i, -, hi⟩ := List.mem_map.mp h2
    exact List.mem_append_left _ (List.mem_of_getElem? hi)
  · exact List.mem_append_right _ h1
theorem va_D.preL {A : Nat → Prop} {pre tl : va_W} (h : va_D A (pre ++ tl)) : va_D A pre := by
  rw [va_D.iff] at h ⊢
  rw [List.map_append, List.nodup_append] at h
  exact ⟨h.1.1, fun q hq => h.2 q (List.mem_append_left _ hq)⟩
theorem va_D.pre {A : Nat → Prop} {pre pre' tl : va_W} (h : va_D A (pre ++ tl)) (is : List Nat) (hn : va_nd is = true) (hs : is.map (fun i => pre[i]?) = pre'.map some) : va_D A (pre' ++ tl) := by
  have h1 := (h.preL).sub is hn hs
  have hm : ∀ q ∈ pre', q ∈ pre := fun q hq => by
    have h2 : some q ∈ is.map (fun i => pre[i]?) := by rw [hs]; exact List.mem_map.mpr ⟨q, hq, rfl⟩
    obtain ⟨i, -, hi⟩ := List.mem_map.mp h2
    exact List.mem_of_getElem? hi
  rw [va_D.iff] at h h1 ⊢
  rw [List.map_append, List.nodup_append] at h ⊢
  refine ⟨⟨h1.1, h.1.2.1, fun a ha b hb => ?_⟩, fun q hq => ?_⟩
  · obtain ⟨x, hx, rfl⟩ := List.mem_map.mp ha
    exact h.1.2.2 _ (List.mem_map.mpr ⟨x, hm x hx, rfl⟩) b hb
  · rcases List.mem_append.mp hq with h2 | h2
    · exact h1.2 q h2
    · exact h.2 q (List.mem_append_right _ h2)
/-- behind a call that had the first part of the world: the rest stays -/
theorem va_joinA {A0 : Nat → Prop} {D : va_G} {cl : List vw_C} {wc wr w1 : va_W} {H H1 : Heap} (hP : va_P D cl (wc ++ wr) H) (hD : va_D A0 (wc ++ wr))
    (hk : ∀ q : Nat, q < H.size → ¬ va_A wc H.size q → H1[q]? = H[q]?) (hF : ∀ q, va_A wc H.size q → A0 q) (hP1 : va_P D cl w1 H1) (hD1 : va_D (va_A wc H.size) w1) : va_P D cl (w1 ++ wr) H1 ∧ va_D A0 (w1 ++ wr) := by
  have apart : ∀ q ∈ wr, q.1 < H.size ∧ ¬ va_A wc H.size q.1 := by
    intro q hq
    obtain ⟨i, hi⟩ := List.getElem?_of_mem (List.mem_append_right wc hq)
    have hl := (hP i q hi).lt
    refine ⟨hl, fun h => ?_⟩
    rcases h with ⟨k, e, h⟩ | h
    · rw [va_D.iff, List.map_append, List.nodup_append] at hD
      exact hD.1.2.2 q.1 (List.mem_map.mpr ⟨(q.1, e), List.mem_of_getElem? h, rfl⟩) q.1 (List.mem_map.mpr ⟨q, hq, rfl⟩) rfl
    · omega
  refine ⟨va_P.app hP1 (fun k q hk' => ?_), va_D.app (hD1.weaken (fun k q _ h => hF q.1 h)) ?_ (fun i j x y hx hy hxy => ?_)⟩
  · have hq := List.mem_of_getElem? hk'
    obtain ⟨i, hi⟩ := List.getElem?_of_mem (List.mem_append_right wc hq)
    exact (hP i q hi).kept (hk q.1 (apart q hq).1 (apart q hq).2)
  · have h2 := hD
    rw [va_D.iff, List.map_append, List.nodup_append] at h2
    rw [va_D.iff]
    exact ⟨h2.1.2.1, fun q hq => h2.2 q (List.mem_append_right _ hq)⟩
  · exact (apart y (List.mem_of_getElem? hy)).2 (by rw [← hxy]; exact hD1.2 i x hx)
/-- A CONTRACT that makes no cell: from the world ws, with these arguments, the method returns an int r, leaves the world F u, and post r u -/
def MG {σ : Type} (l : Launch) (y : MethodName) (wc : List Cond) (rm : Room) (D : va_G) (cl : List vw_C) (tys : List (ClassId × FieldType)) (av : List Value) (ws : va_W) (post : Int32 → σ → Prop) (F : σ → va_W) : Prop :=
  ∀ sz : Nat, Met l y wc rm (va_Pc av (fun U => U.heap.size = sz ∧ va_P D cl ws U.heap ∧ va_K D cl tys U ∧ va_D (fun _ => True) ws)) (va_Qi post (fun u t => va_P D cl (F u) t.heap ∧ va_D (va_A ws sz) (F u)) (va_A ws sz)) 0 0 (va_A ws sz)
/-- .. and one that returns nothing -/
def MV {σ : Type} (l : Launch) (y : MethodName) (wc : List Cond) (rm : Room) (D : va_G) (cl : List vw_C) (tys : List (ClassId × FieldType)) (av : List Value) (ws : va_W) (post : σ → Prop) (F : σ → va_W) : Prop :=
  ∀ sz : Nat, Met l y wc rm (va_Pc av (fun U => U.heap.size = sz ∧ va_P D cl ws U.heap ∧ va_K D cl tys U ∧ va_D (fun _ => True) ws)) (va_Qv post (fun u t => va_P D cl (F u) t.heap ∧ va_D (va_A ws sz) (F u)) (va_A ws sz)) 0 0 (va_A ws sz)
def QG {σ : Type} (below : List Frame) (D : va_G) (cl : List vw_C) (post : Int32 → σ → Prop) (F : σ → va_W) (A : Nat → Prop) (args : Array Value) (s : State) : State → Prop :=
  MQ below (va_Qi post (fun u t => va_P D cl (F u) t.heap ∧ va_D A (F u)) A) args s 0 0 A
def QV {σ : Type} (below : List Frame) (D : va_G) (cl : List vw_C) (post : σ → Prop) (F : σ → va_W) (A : Nat → Prop) (args : Array Value) (s : State) : State → Prop :=
  MQ below (va_Qv post (fun u t => va_P D cl (F u) t.heap ∧ va_D A (F u)) A) args s 0 0 A
section OFW
variable {l : Launch} {σ : Type} {y : MethodName} {wc wc' : List Cond} {rm : Room} {D : va_G} {cl : List vw_C} {tys : List (ClassId × FieldType)} {av : List Value} {ws : va_W} {F : σ → va_W} {cc : ByteArray} {maxL : Nat} {rt : FieldType}
theorem MG.ofW {post : Int32 → σ → Prop} (hy : plainName y.cls = true) (hw : wc = Cond.code y cc maxL (some rt) :: wc') (hav : (lg_sl av).length ≤ maxL)
    (body : ∀ (p : Program) (e : Env) (s : State) (m : MethodId) (args : Array Value) (below : List Frame) (meth : Method) (c : Code) (A : Nat → Prop) (ls : Array Slot) (Q : State → Prop) (H : Heap) (locs : List Loc), Q = QG below D cl post F A args s →
      p.tables.exec = Jvm.exec → c.code = cc → c.maxLocals = maxL → meth.sig.returnType = some rt → meth.locks = false → (∀ w ∈ wc, w.before args s = true) → s.vm.findClass y.cls = some m.cls → va_K D cl tys s → va_P D cl ws H → va_D A ws → va_S A s.heap H locs → (∀ q : Nat, s.heap.size ≤ q → A q) → lv_has ls maxL (lv_args 0 av) →
      W p l e rm s m args below meth c H locs 0 0 Q (F0 m 0 ls [])) : MG l y wc rm D cl tys av ws post F := by
  intro sz
  refine Met.ofW (cc := cc) (maxL := maxL) (ret := some rt) hy hw ?_
  intro p e s m args below meth c s₁ B hml hv
  obtain ⟨rfl, hsz, hP, hK, hD0⟩ := hv
  subst hsz
  have hl := lv_entry av (n := maxL) hav
  rw [lg_entry_eq]
  exact body p e s m _ below meth c (va_A ws s.heap.size) _ _ _ _ rfl B.exec B.bytes hml B.returns B.notSynchronized (atoms_spec (ws := wc) B.pre) (findClass_of_methodNamed B.named) hK hP (hD0.self (sz := s.heap.size)) va_S.rf (fun q h => Or.inr h) hl
theorem MG.ofWF {post : Int32 → σ → Prop} (hy : plainFor y = true) (hw : wc = Cond.code y cc maxL (some rt) :: wc') (hav : (lg_sl av).length ≤ maxL)
    (body : ∀ (p : Program) (e : Env) (s : State) (m : MethodId) (args : Array Value) (below : List Frame) (meth : Method) (c : Code) (A : Nat → Prop) (ls : Array Slot) (Q : State → Prop) (H : Heap) (locs : List Loc), Q = QG below D cl post F A args s →
      p.tables.exec = Jvm.exec → c.code = cc → c.maxLocals = maxL → meth.sig.returnType = some rt → meth.locks = false → (∀ w ∈ wc, w.before args s = true) → s.vm.findClass y.cls = some m.cls → va_K D cl tys s → va_P D cl ws H → va_D A ws → va_S A s.heap H locs → (∀ q : Nat, s.heap.size ≤ q → A q) → lv_has ls maxL (lv_args 0 av) →
      W p l e rm s m args below meth c H locs 0 0 Q (F0 m 0 ls [])) : MG l y wc rm D cl tys av ws post F := by
  intro sz
  refine va_MetF (cc := cc) (maxL := maxL) (ret := some rt) hy hw ?_
  intro p e s m args below meth c s₁ B hml hv
  obtain ⟨rfl, hsz, hP, hK, hD0⟩ := hv
  subst hsz
  have hl := lv_entry av (n := maxL) hav
  rw [lg_entry_eq]
  exact body p e s m _ below meth c (va_A ws s.heap.size) _ _ _ _ rfl B.exec B.bytes hml B.returns B.notSynchronized (atoms_spec (ws := wc) B.pre) (findClass_of_methodNamed B.named) hK hP (hD0.self (sz := s.heap.size)) va_S.rf (fun q h => Or.inr h) hl
theorem MV.ofW {post : σ → Prop} (hy : plainName y.cls = true) (hw : wc = Cond.code y cc maxL none :: wc') (hav : (lg_sl av).length ≤ maxL)
    (body : ∀ (p : Program) (e : Env) (s : State) (m : MethodId) (args : Array Value) (below : List Frame) (meth : Method) (c : Code) (A : Nat → Prop) (ls : Array Slot) (Q : State → Prop) (H : Heap) (locs : List Loc), Q = QV below D cl post F A args s →
      p.tables.exec = Jvm.exec → c.code = cc → c.maxLocals = maxL → meth.sig.returnType = none → meth.locks = false → (∀ w ∈ wc, w.before args s = true) → s.vm.findClass y.cls = some m.cls → va_K D cl tys s → va_P D cl ws H → va_D A ws → va_S A s.heap H locs → (∀ q : Nat, s.heap.size ≤ q → A q) → lv_has ls maxL (lv_args 0 av) →
      W p l e rm s m args below meth c H locs 0 0 Q (F0 m 0 ls [])) : MV l y wc rm D cl tys av ws post F := by
  intro sz
  refine Met.ofW (cc := cc) (maxL := maxL) (ret := none) hy hw ?_
  intro p e s m args below meth c s₁ B hml hv
  obtain ⟨rfl, hsz, hP, hK, hD0⟩ := hv
  subst hsz
  have hl := lv_entry av (n := maxL) hav
  rw [lg_entry_eq]
  exact body p e s m _ below meth c (va_A ws s.heap.size) _ _ _ _ rfl B.exec B.bytes hml B.returns B.notSynchronized (atoms_spec (ws := wc) B.pre) (findClass_of_methodNamed B.named) hK hP (hD0.self (sz := s.heap.size)) va_S.rf (fun q h => Or.inr h) hl
end OFW
section ROWS
variable {p : Program} {l : Launch} {e : Env} {R : Room} {s : State} {m : MethodId} {args : Array Value} {below : List Frame} {meth : Method} {c : Code} {H : Heap} {locs : List Loc} {cells slots : Nat} {Q : State → Prop}
variable {cc : ByteArray} {pc : Nat} {ls : Array Slot} {rest : List Value} {D : va_G} {cl : List vw_C} {A : Nat → Prop} {a : Nat} {tys : List (ClassId × FieldType)} {ws : va_W} {H0 : Heap}
/-- the top of the stack under another name -/
theorem x_top {x y : Int32} (h : x = y) (k : W p l e R s m args below meth c H locs cells slots Q (F0 m pc ls (.int y :: rest))) : W p l e R s m args below meth c H locs cells slots Q (F0 m pc ls (.int x :: rest)) := by rw [h]; exact k
/-- int return, boolean return, return -/
theorem x_iret {σ : Type} {post : Int32 → σ → Prop} {F : σ → va_W} (u : σ) {v : Int32} (hQ : Q = QG below D cl post F A args s) (hx : p.tables.exec = Jvm.exec) (hb : c.code = cc) (hr : meth.sig.returnType = some .int) (hlk : meth.locks = false) (hP : va_P D cl (F u) H) (hD : va_D A (F u)) (hS : va_S A s.heap H locs) (hd : decode cc pc = .ok (.ireturn, 1)) (hv : post v u) :
    W p l e R s m args below meth c H locs 0 0 Q (F0 m pc ls [.int v]) := by
  subst hQ
  exact W.iret hx hb hr (fun t ht _ => ⟨⟨v, u, rfl, hv, by rw [ht]; exact hP, hD⟩, hS.F ht⟩) hS.2.2 hd hlk
theorem x_zret {σ : Type} {post : Int32 → σ → Prop} {F : σ → va_W} (u : σ) {v : Bool} (hQ : Q = QG below D cl post F A args s) (hx : p.tables.exec = Jvm.exec) (hb : c.code = cc) (hr : meth.sig.returnType = some .boolean) (hlk : meth.locks = false) (hP : va_P D cl (F u) H) (hD : va_D A (F u)) (hS : va_S A s.heap H locs) (hd : decode cc pc = .ok (.ireturn, 1)) (hv : post (bI v) u) :
    W p l e R s m args below meth c H locs 0 0 Q (F0 m pc ls [.int (bI v)]) := by
  subst hQ
  exact W.zret hx hb hr (bI_narrow v) (fun t ht _ => ⟨⟨bI v, u, rfl, hv, by rw [ht]; exact hP, hD⟩, hS.F ht⟩) hS.2.2 hd hlk
theorem x_vret {σ : Type} {post : σ → Prop} {F : σ → va_W} (u : σ) (hQ : Q = QV below D cl post F A args s) (hx : p.tables.exec = Jvm.exec) (hb : c.code = cc) (hr : meth.sig.returnType = none) (hlk : meth.locks = false) (hP : va_P D cl (F u) H) (hD : va_D A (F u)) (hS : va_S A s.heap H locs) (hd : decode cc pc = .ok (.return_, 1)) (hv : post u) :
    W p l e R s m args below meth c H locs 0 0 Q (F0 m pc ls []) := by
  subst hQ
  exact W.vret hx hb hr (fun t ht _ => ⟨⟨u, rfl, hv, by rw [ht]; exact hP, hD⟩, hS.F ht⟩) hS.2.2 hd hlk
/-- arithmetic on numbers -/
theorem x_inc (n : Nat) : nI n + Int32.ofInt 1 = nI (n + 1) := nI_1 n
theorem x_add {x y : Nat} (hx : p.tables.exec = Jvm.exec) (hb : c.code = cc) (hd : decode cc pc = .ok (.iadd, 1)) (k : W p l e R s m args below meth c H locs cells slots Q (F0 m (pc + 1) ls (.int (nI (x + y)) :: rest))) : W p l e R s m args below meth c H locs cells slots Q (F0 m pc ls (.int (nI y) :: .int (nI x) :: rest)) :=
  lv_iadd hx hb hd (by rw [nI_add]; exact k)
theorem x_mul {x y : Nat} (hx : p.tables.exec = Jvm.exec) (hb : c.code = cc) (hd : decode cc pc = .ok (.imul, 1)) (k : W p l e R s m args below meth c H locs cells slots Q (F0 m (pc + 1) ls (.int (nI (x * y)) :: rest))) : W p l e R s m args below meth c H locs cells slots Q (F0 m pc ls (.int (nI y) :: .int (nI x) :: rest)) :=
  lv_imul hx hb hd (by rw [pk_mul]; exact k)
theorem x_sub {x y : Nat} (hx : p.tables.exec = Jvm.exec) (hb : c.code = cc) (hd : decode cc pc = .ok (.isub, 1)) (h : y ≤ x) (k : W p l e R s m args below meth c H locs cells slots Q (F0 m (pc + 1) ls (.int (nI (x - y)) :: rest))) : W p l e R s m args below meth c H locs cells slots Q (F0 m pc ls (.int (nI y) :: .int (nI x) :: rest)) :=
  lv_isub hx hb hd (by rw [pk_sub h]; exact k)
theorem x_div {x y : Nat} (hx : p.tables.exec = Jvm.exec) (hb : c.code = cc) (hd : decode cc pc = .ok (.idiv, 1)) (h0 : 0 < y) (h1 : x < 2 ^ 31) (h2 : y < 2 ^ 31) (k : W p l e R s m args below meth c H locs cells slots Q (F0 m (pc + 1) ls (.int (nI (x / y)) :: rest))) : W p l e R s m args below meth c H locs cells slots Q (F0 m pc ls (.int (nI y) :: .int (nI x) :: rest)) :=
  lv_idiv hx hb hd (nI_ne0 h0 h2) (by rw [pk_div h1 h0 h2]; exact k)
theorem x_rem {x y : Nat} (hx : p.tables.exec = Jvm.exec) (hb : c.code = cc) (hd : decode cc pc = .ok (.irem, 1)) (h0 : 0 < y) (h1 : x < 2 ^ 31) (h2 : y < 2 ^ 31) (k : W p l e R s m args below meth c H locs cells slots Q (F0 m (pc + 1) ls (.int (nI (x % y)) :: rest))) : W p l e R s m args below meth c H locs cells slots Q (F0 m pc ls (.int (nI y) :: .int (nI x) :: rest)) :=
  lv_irem hx hb hd (nI_ne0 h0 h2) (by rw [pk_rem h1 h0 h2]; exact k)
/-- branches on numbers -/
theorem x_cge {x y : Nat} {off : Int} {tgt : Nat} (hx : p.tables.exec = Jvm.exec) (hb : c.code = cc) (hd : decode cc pc = .ok (.if_icmp .ge off, 3)) (ht : (pc : Int) + off = (tgt : Int)) (h1 : x < 2 ^ 31) (h2 : y < 2 ^ 31) (kt : y ≤ x → W p l e R s m args below meth c H locs cells slots Q (F0 m tgt ls rest)) (kf : x < y → W p l e R s m args below meth c H locs cells slots Q (F0 m (pc + 3) ls rest)) : W p l e R s m args below meth c H locs cells slots Q (F0 m pc ls (.int (nI y) :: .int (nI x) :: rest)) :=
  lv_icmp_ge hx hb hd ht (fun h => kt ((nI_leI h2 h1).mp h)) (fun h => kf (Nat.lt_of_not_le (fun z => h ((nI_leI h2 h1).mpr z))))
theorem x_clt {x y : Nat} {off : Int} {tgt : Nat} (hx : p.tables.exec = Jvm.exec) (hb : c.code = cc) (hd : decode cc pc = .ok (.if_icmp .lt off, 3)) (ht : (pc : Int) + off = (tgt : Int)) (h1 : x < 2 ^ 31) (h2 : y < 2 ^ 31) (kt : x < y → W p l e R s m args below meth c H locs cells slots Q (F0 m tgt ls rest)) (kf : y ≤ x → W p l e R s m args below meth c H locs cells slots Q (F0 m (pc + 3) ls rest)) : W p l e R s m args below meth c H locs cells slots Q (F0 m pc ls (.int (nI y) :: .int (nI x) :: rest)) :=
  lv_icmp_lt hx hb hd ht (fun h => kt ((nI_ltI h1 h2).mp h)) (fun h => kf (Nat.le_of_not_lt (fun z => h ((nI_ltI h1 h2).mpr z))))
theorem x_cgt {x y : Nat} {off : Int} {tgt : Nat} (hx : p.tables.exec = Jvm.exec) (hb : c.code = cc) (hd : decode cc pc = .ok (.if_icmp .gt off, 3)) (ht : (pc : Int) + off = (tgt : Int)) (h1 : x < 2 ^ 31) (h2 : y < 2 ^ 31) (kt : y < x → W p l e R s m args below meth c H locs cells slots Q (F0 m tgt ls rest)) (kf : x ≤ y → W p l e R s m args below meth c H locs cells slots Q (F0 m (pc + 3) ls rest)) : W p l e R s m args below meth c H locs cells slots Q (F0 m pc ls (.int (nI y) :: .int (nI x) :: rest)) :=
  lv_icmp_gt hx hb hd ht (fun h => kt ((nI_ltI h2 h1).mp h)) (fun h => kf (Nat.le_of_not_lt (fun z => h ((nI_ltI h2 h1).mpr z))))
theorem x_cle {x y : Nat} {off : Int} {tgt : Nat} (hx : p.tables.exec = Jvm.exec) (hb : c.code = cc) (hd : decode cc pc = .ok (.if_icmp .le off, 3)) (ht : (pc : Int) + off = (tgt : Int)) (h1 : x < 2 ^ 31) (h2 : y < 2 ^ 31) (kt : x ≤ y → W p l e R s m args below meth c H locs cells slots Q (F0 m tgt ls rest)) (kf : y < x → W p l e R s m args below meth c H locs cells slots Q (F0 m (pc + 3) ls rest)) : W p l e R s m args below meth c H locs cells slots Q (F0 m pc ls (.int (nI y) :: .int (nI x) :: rest)) :=
  lv_icmp_le hx hb hd ht (fun h => kt ((nI_leI h1 h2).mp h)) (fun h => kf (Nat.lt_of_not_le (fun z => h ((nI_leI h1 h2).mpr z))))
theorem x_ceq {x y : Nat} {off : Int} {tgt : Nat} (hx : p.tables.exec = Jvm.exec) (hb : c.code = cc) (hd : decode cc pc = .ok (.if_icmp .eq off, 3)) (ht : (pc : Int) + off = (tgt : Int)) (h1 : x < 2 ^ 31) (h2 : y < 2 ^ 31) (kt : x = y → W p l e R s m args below meth c H locs cells slots Q (F0 m tgt ls rest)) (kf : x ≠ y → W p l e R s m args below meth c H locs cells slots Q (F0 m (pc + 3) ls rest)) : W p l e R s m args below meth c H locs cells slots Q (F0 m pc ls (.int (nI y) :: .int (nI x) :: rest)) :=
  lv_icmp_eq hx hb hd ht (fun h => kt ((nI_eq h1 h2).mp h)) (fun h => kf (fun z => h ((nI_eq h1 h2).mpr z)))
theorem x_cne {x y : Nat} {off : Int} {tgt : Nat} (hx : p.tables.exec = Jvm.exec) (hb : c.code = cc) (hd : decode cc pc = .ok (.if_icmp .ne off, 3)) (ht : (pc : Int) + off = (tgt : Int)) (h1 : x < 2 ^ 31) (h2 : y < 2 ^ 31) (kt : x ≠ y → W p l e R s m args below meth c H locs cells slots Q (F0 m tgt ls rest)) (kf : x = y → W p l e R s m args below meth c H locs cells slots Q (F0 m (pc + 3) ls rest)) : W p l e R s m args below meth c H locs cells slots Q (F0 m pc ls (.int (nI y) :: .int (nI x) :: rest)) :=
  lv_icmp_ne hx hb hd ht (fun h => kt (fun z => h ((nI_eq h1 h2).mpr z))) (fun h => kf ((nI_eq h1 h2).mp h))
theorem x_gtz {x : Nat} {off : Int} {tgt : Nat} (hx : p.tables.exec = Jvm.exec) (hb : c.code = cc) (hd : decode cc pc = .ok (.ifCond .gt off, 3)) (ht : (pc : Int) + off = (tgt : Int)) (h1 : x < 2 ^ 31) (kt : 0 < x → W p l e R s m args below meth c H locs cells slots Q (F0 m tgt ls rest)) (kf : x = 0 → W p l e R s m args below meth c H locs cells slots Q (F0 m (pc + 3) ls rest)) : W p l e R s m args below meth c H locs cells slots Q (F0 m pc ls (.int (nI x) :: rest)) :=
  lv_if_gt hx hb hd ht (fun h => kt ((nI_ltI (a := 0) (by decide) h1).mp h)) (fun h => kf (Nat.le_zero.mp (Nat.le_of_not_lt (fun z => h ((nI_ltI (a := 0) (by decide) h1).mpr z)))))
theorem x_lez {x : Nat} {off : Int} {tgt : Nat} (hx : p.tables.exec = Jvm.exec) (hb : c.code = cc) (hd : decode cc pc = .ok (.ifCond .le off, 3)) (ht : (pc : Int) + off = (tgt : Int)) (h1 : x < 2 ^ 31) (kt : x = 0 → W p l e R s m args below meth c H locs cells slots Q (F0 m tgt ls rest)) (kf : 0 < x → W p l e R s m args below meth c H locs cells slots Q (F0 m (pc + 3) ls rest)) : W p l e R s m args below meth c H locs cells slots Q (F0 m pc ls (.int (nI x) :: rest)) :=
  lv_if_le hx hb hd ht (fun h => kt (Nat.le_zero.mp ((nI_leI (b := 0) h1 (by decide)).mp h))) (fun h => kf (Nat.lt_of_not_le (fun z => h ((nI_leI (b := 0) h1 (by decide)).mpr z))))
theorem x_eqz {x : Nat} {off : Int} {tgt : Nat} (hx : p.tables.exec = Jvm.exec) (hb : c.code = cc) (hd : decode cc pc = .ok (.ifCond .eq off, 3)) (ht : (pc : Int) + off = (tgt : Int)) (h1 : x < 2 ^ 31) (kt : x = 0 → W p l e R s m args below meth c H locs cells slots Q (F0 m tgt ls rest)) (kf : x ≠ 0 → W p l e R s m args below meth c H locs cells slots Q (F0 m (pc + 3) ls rest)) : W p l e R s m args below meth c H locs cells slots Q (F0 m pc ls (.int (nI x) :: rest)) :=
  lv_if_eq hx hb hd ht (fun h => kt ((nI_eq (b := 0) h1 (by decide)).mp h)) (fun h => kf (fun z => h ((nI_eq (b := 0) h1 (by decide)).mpr z)))
theorem x_nez {x : Nat} {off : Int} {tgt : Nat} (hx : p.tables.exec = Jvm.exec) (hb : c.code = cc) (hd : decode cc pc = .ok (.ifCond .ne off, 3)) (ht : (pc : Int) + off = (tgt : Int)) (h1 : x < 2 ^ 31) (kt : x ≠ 0 → W p l e R s m args below meth c H locs cells slots Q (F0 m tgt ls rest)) (kf : x = 0 → W p l e R s m args below meth c H locs cells slots Q (F0 m (pc + 3) ls rest)) : W p l e R s m args below meth c H locs cells slots Q (F0 m pc ls (.int (nI x) :: rest)) :=
  lv_if_ne hx hb hd ht (fun h => kt (fun z => h ((nI_eq (b := 0) h1 (by decide)).mpr z))) (fun h => kf ((nI_eq (b := 0) h1 (by decide)).mp h))
/-- branches on booleans -/
theorem x_ifF {b : Bool} {off : Int} {tgt : Nat} (hx : p.tables.exec = Jvm.exec) (hb : c.code = cc) (hd : decode cc pc = .ok (.ifCond .eq off, 3)) (ht : (pc : Int) + off = (tgt : Int)) (kt : b = false → W p l e R s m args below meth c H locs cells slots Q (F0 m tgt ls rest)) (kf : b = true → W p l e R s m args below meth c H locs cells slots Q (F0 m (pc + 3) ls rest)) : W p l e R s m args below meth c H locs cells slots Q (F0 m pc ls (.int (bI b) :: rest)) :=
  lv_if_eq hx hb hd ht (fun h => kt (bI_0.mp h)) (fun h => kf (bI_n.mp h))
theorem x_ifT {b : Bool} {off : Int} {tgt : Nat} (hx : p.tables.exec = Jvm.exec) (hb : c.code = cc) (hd : decode cc pc = .ok (.ifCond .ne off, 3)) (ht : (pc : Int) + off = (tgt : Int)) (kt : b = true → W p l e R s m args below meth c H locs cells slots Q (F0 m tgt ls rest)) (kf : b = false → W p l e R s m args below meth c H locs cells slots Q (F0 m (pc + 3) ls rest)) : W p l e R s m args below meth c H locs cells slots Q (F0 m pc ls (.int (bI b) :: rest)) :=
  lv_if_ne hx hb hd ht (fun h => kt (bI_n.mp h)) (fun h => kf (bI_0.mp h))
/-- arrays at numbers -/
theorem x_iald {f : Nat → Int32} {cA : ClassId} {n i : Nat} (hx : p.tables.exec = Jvm.exec) (hb : c.code = cc) (hK : va_K D cl tys s) (hP : va_P D cl ws H) (q0 t0 : Nat) (ha : ws[q0]? = some (a, .inl (cA, n, .inl f))) (ht : tys[t0]? = some (cA, .int)) (hd : decode cc pc = .ok (.iaload, 1)) (hi : i < n) (hn : n < 2 ^ 31)
    (k : W p l e R s m args below meth c H locs cells slots Q (F0 m (pc + 1) ls (.int (f i) :: rest))) : W p l e R s m args below meth c H locs cells slots Q (F0 m pc ls (.int (nI i) :: .ref a :: rest)) :=
  va_iald hx hb hK hP q0 t0 ha ht (vp_in_nI hi hn) hd (by rw [nI_clamp (Nat.lt_trans hi hn)]; exact k)
theorem x_nald {g : Nat → Nat} {cA : ClassId} {n i : Nat} (hx : p.tables.exec = Jvm.exec) (hb : c.code = cc) (hK : va_K D cl tys s) (hP : va_P D cl ws H) (q0 t0 : Nat) (ha : ws[q0]? = some (a, .inl (cA, n, .inl (fun j => nI (g j))))) (ht : tys[t0]? = some (cA, .int)) (hd : decode cc pc = .ok (.iaload, 1)) (hi : i < n) (hn : n < 2 ^ 31)
    (k : W p l e R s m args below meth c H locs cells slots Q (F0 m (pc + 1) ls (.int (nI (g i)) :: rest))) : W p l e R s m args below meth c H locs cells slots Q (F0 m pc ls (.int (nI i) :: .ref a :: rest)) :=
  x_iald (f := fun j => nI (g j)) hx hb hK hP q0 t0 ha ht hd hi hn k
theorem x_zald {g : Nat → Bool} {cA : ClassId} {n i : Nat} (hx : p.tables.exec = Jvm.exec) (hb : c.code = cc) (hK : va_K D cl tys s) (hP : va_P D cl ws H) (q0 t0 : Nat) (ha : ws[q0]? = some (a, .inl (cA, n, .inl (fun j => bI (g j))))) (ht : tys[t0]? = some (cA, .boolean)) (hd : decode cc pc = .ok (.baload, 1)) (hi : i < n) (hn : n < 2 ^ 31)
    (k : W p l e R s m args below meth c H locs cells slots Q (F0 m (pc + 1) ls (.int (bI (g i)) :: rest))) : W p l e R s m args below meth c H locs cells slots Q (F0 m pc ls (.int (nI i) :: .ref a :: rest)) :=
  va_zald hx hb hK hP q0 t0 ha ht (vp_in_nI hi hn) hd (by rw [nI_clamp (Nat.lt_trans hi hn)]; exact k)
theorem x_iast {f : Nat → Int32} {cA : ClassId} {n i : Nat} {x : Int32} (hx : p.tables.exec = Jvm.exec) (hb : c.code = cc) (hK : va_K D cl tys s) (hP : va_P D cl ws H) (hD : va_D A ws) (hS : va_S A H0 H locs) (q0 t0 : Nat) (ha : ws[q0]? = some (a, .inl (cA, n, .inl f))) (ht : tys[t0]? = some (cA, .int)) (hd : decode cc pc = .ok (.iastore, 1)) (hi : i < n) (hn : n < 2 ^ 31)
    (kk : ∀ (H1 : Heap) (locs1 : List Loc), va_P D cl (ws.set q0 (a, .inl (cA, n, .inl (va_up f i x)))) H1 → va_D A (ws.set q0 (a, .inl (cA, n, .inl (va_up f i x)))) → va_S A H0 H1 locs1 → W p l e R s m args below meth c H1 locs1 cells slots Q (F0 m (pc + 1) ls rest)) : W p l e R s m args below meth c H locs cells slots Q (F0 m pc ls (.int x :: .int (nI i) :: .ref a :: rest)) :=
  va_iast hx hb hK hP hD hS q0 t0 ha ht (vp_in_nI hi hn) hd (by rw [nI_clamp (Nat.lt_trans hi hn)]; exact kk)
theorem x_nast {g : Nat → Nat} {cA : ClassId} {n i x : Nat} (hx : p.tables.exec = Jvm.exec) (hb : c.code = cc) (hK : va_K D cl tys s) (hP : va_P D cl ws H) (hD : va_D A ws) (hS : va_S A H0 H locs) (q0 t0 : Nat) (ha : ws[q0]? = some (a, .inl (cA, n, .inl (fun j => nI (g j))))) (ht : tys[t0]? = some (cA, .int)) (hd : decode cc pc = .ok (.iastore, 1)) (hi : i < n) (hn : n < 2 ^ 31)
    (kk : ∀ (H1 : Heap) (locs1 : List Loc), va_P D cl (ws.set q0 (a, .inl (cA, n, .inl (fun j => nI (va_up g i x j))))) H1 → va_D A (ws.set q0 (a, .inl (cA, n, .inl (fun j => nI (va_up g i x j))))) → va_S A H0 H1 locs1 → W p l e R s m args below meth c H1 locs1 cells slots Q (F0 m (pc + 1) ls rest)) : W p l e R s m args below meth c H locs cells slots Q (F0 m pc ls (.int (nI x) :: .int (nI i) :: .ref a :: rest)) :=
  va_iast hx hb hK hP hD hS q0 t0 ha ht (vp_in_nI hi hn) hd (by rw [nI_clamp (Nat.lt_trans hi hn), up_map nI]; exact kk)
theorem x_zast {g : Nat → Bool} {cA : ClassId} {n i : Nat} {x : Bool} (hx : p.tables.exec = Jvm.exec) (hb : c.code = cc) (hK : va_K D cl tys s) (hP : va_P D cl ws H) (hD : va_D A ws) (hS : va_S A H0 H locs) (q0 t0 : Nat) (ha : ws[q0]? = some (a, .inl (cA, n, .inl (fun j => bI (g j))))) (ht : tys[t0]? = some (cA, .boolean)) (hd : decode cc pc = .ok (.bastore, 1)) (hi : i < n) (hn : n < 2 ^ 31)
    (kk : ∀ (H1 : Heap) (locs1 : List Loc), va_P D cl (ws.set q0 (a, .inl (cA, n, .inl (fun j => bI (va_up g i x j))))) H1 → va_D A (ws.set q0 (a, .inl (cA, n, .inl (fun j => bI (va_up g i x j))))) → va_S A H0 H1 locs1 → W p l e R s m args below meth c H1 locs1 cells slots Q (F0 m (pc + 1) ls rest)) : W p l e R s m args below meth c H locs cells slots Q (F0 m pc ls (.int (bI x) :: .int (nI i) :: .ref a :: rest)) :=
  va_zast hx hb hK hP hD hS q0 t0 ha ht (vp_in_nI hi hn) hd (by rw [nI_clamp (Nat.lt_trans hi hn), bI_nar, up_map bI]; exact kk)
theorem x_aald {f : Nat → Option Nat} {cA : ClassId} {C : String} {n i q : Nat} (hx : p.tables.exec = Jvm.exec) (hb : c.code = cc) (hK : va_K D cl tys s) (hP : va_P D cl ws H) (q0 t0 : Nat) (ha : ws[q0]? = some (a, .inl (cA, n, .inr (.inr (.inr (.inr f)))))) (ht : tys[t0]? = some (cA, .object C)) (hd : decode cc pc = .ok (.aaload, 1)) (hi : i < n) (hn : n < 2 ^ 31) (hq : f i = some q)
    (k : W p l e R s m args below meth c H locs cells slots Q (F0 m (pc + 1) ls (.ref q :: rest))) : W p l e R s m args below meth c H locs cells slots Q (F0 m pc ls (.int (nI i) :: .ref a :: rest)) :=
  va_aldq hx hb hK hP q0 t0 ha ht (vp_in_nI hi hn) hd (by rw [nI_clamp (Nat.lt_trans hi hn), hq]; exact k)
end ROWS
abbrev TY (cI cB cQ cJ : ClassId) : List (ClassId × FieldType) := [(cI, .int), (cB, .boolean), (cQ, .object "DriveRing$Stripe"), (cJ, .long)]
end
section
section CALLS
variable {p : Program} {l : Launch} {e : Env} {R : Room} {s : State} {m : MethodId} {args : Array Value} {below : List Frame} {meth : Method} {c : Code} {H : Heap} {locs : List Loc} {cells slots : Nat} {Q : State → Prop}
variable {pc : Nat} {ls : Array Slot} {D : va_G} {cl : List vw_C} {A : Nat → Prop} {tys : List (ClassId × FieldType)} {H0 : Heap} {st0 rst : List Value} {av : Array Value} {σ : Type} {F G : σ → va_W} {wc wr pre tl : va_W}
theorem x_free (hD : va_D A (wc ++ wr)) (hS : va_S A H0 H locs) (hA : ∀ q : Nat, H0.size ≤ q → A q) : ∀ q : Nat, va_A wc H.size q → A q := by
  intro q h
  rcases h with ⟨k, x, h⟩ | h
  · exact hD.2 k (q, x) (by rw [List.getElem?_append_left (List.getElem?_eq_some_iff.mp h).1]; exact h)
  · exact hA q (Nat.le_trans hS.1 h)
theorem x_goI {post : Int32 → σ → Prop} (hr : va_Run p l e R s m args below meth c H locs cells slots 0 0 (F0 m pc ls st0) rst (va_Qi post (fun u t => va_P D cl (F u) t.heap ∧ va_D (va_A wc H.size) (F u)) (va_A wc H.size) av) (va_A wc H.size))
    (hP : va_P D cl (wc ++ wr) H) (hD : va_D A (wc ++ wr)) (hS : va_S A H0 H locs) (hA : ∀ q : Nat, H0.size ≤ q → A q)
    (kk : ∀ (r : Int32) (u : σ) (H1 : Heap) (locs1 : List Loc), post r u → va_P D cl (F u ++ wr) H1 → va_D A (F u ++ wr) → va_S A H0 H1 locs1 → W p l e R s m args below meth c H1 locs1 cells slots Q (F0 m (pc + 3) ls (.int r :: rst))) : W p l e R s m args below meth c H locs cells slots Q (F0 m pc ls st0) := by
  have hF := x_free hD hS hA
  refine va_calli hr hS (fun q _ h => hF q h) hF (fun r u t H1 locs1 ht hvm hp hB hz hk hS1 => ?_)
  obtain ⟨b1, b2⟩ := hB
  rw [ht] at b1
  obtain ⟨h1, h2⟩ := va_joinA hP hD hk hF b1 b2
  exact kk r u H1 locs1 hp h1 h2 hS1
theorem x_goV {post : σ → Prop} (hr : va_Run p l e R s m args below meth c H locs cells slots 0 0 (F0 m pc ls st0) rst (va_Qv post (fun u t => va_P D cl (F u) t.heap ∧ va_D (va_A wc H.size) (F u)) (va_A wc H.size) av) (va_A wc H.size))
    (hP : va_P D cl (wc ++ wr) H) (hD : va_D A (wc ++ wr)) (hS : va_S A H0 H locs) (hA : ∀ q : Nat, H0.size ≤ q → A q)
    (kk : ∀ (u : σ) (H1 : Heap) (locs1 : List Loc), post u → va_P D cl (F u ++ wr) H1 → va_D A (F u ++ wr) → va_S A H0 H1 locs1 → W p l e R s m args below meth c H1 locs1 cells slots Q (F0 m (pc + 3) ls rst)) : W p l e R s m args below meth c H locs cells slots Q (F0 m pc ls st0) := by
  have hF := x_free hD hS hA
  refine va_callv hr hS (fun q _ h => hF q h) hF (fun u t H1 locs1 ht hvm hp hB hz hk hS1 => ?_)
  obtain ⟨b1, b2⟩ := hB
  rw [ht] at b1
  obtain ⟨h1, h2⟩ := va_joinA hP hD hk hF b1 b2
  exact kk u H1 locs1 hp h1 h2 hS1
theorem x_blind {sz : Nat} {vs : List Value} : FrameBlind (va_Pc vs (fun U => U.heap.size = sz ∧ va_P D cl wc U.heap ∧ va_K D cl tys U ∧ va_D (fun _ => True) wc)) :=
  fun a U g mk q => by obtain ⟨q0, q1, qP, qK, qD⟩ := q; exact ⟨q0, q1, qP, va_K.moved (u := U) (U := U.calling g mk a) (Vm.Alike.refl U.vm) qK, qD⟩
variable {y : MethodName} {bytes cc : ByteArray} {maxL nL n index ci : Nat} {ret : Option FieldType} {wsc Ts : List Cond} {rm : Room} {own C : String} {b : Nat} {As : List Value} {fs : List Value} {qc : vw_C}
/-- an instance call: the callee's cells are isC of the part ahead of the tail, the others isR; behind it the cells stand in the order isB -/
theorem gV {post : Int32 → σ → Prop} (S : CallFix p m c cc nL s args Ts own) (hM : MG l y wsc rm D cl tys (.ref b :: As) wc post F) (cw : CallW R s args own C index y bytes maxL ret wsc rm 0 0 n) (hK : va_K D cl tys s) (hP : va_P D cl (pre ++ tl) H) (hD : va_D A (pre ++ tl)) (hS : va_S A H0 H locs) (hA : ∀ q : Nat, H0.size ≤ q → A q)
    (isC isR isB : List Nat) (hC : (isC ++ isR).map (fun i => pre[i]?) = (wc ++ wr).map some) (hn : va_nd (isC ++ isR) = true) (hB : ∀ u, isB.map (fun i => (F u ++ wr)[i]?) = (G u).map some) (hnB : va_nd isB = true) (hre : wc[0]? = some (b, .inr (ci, fs))) (hcl : cl[ci]? = some qc) (hq : qc.1 = C) (hlen : As.length = n) (hsize : ls.size = nL) (hst : st0 = As.reverse ++ .ref b :: rst) (hW : (rst.map fun v => v.category).sum ≤ 8) (hdg : decode cc pc = .ok (.invokevirtual index, 3)) (hf : cells + 0 ≤ R.cells ∧ slots + 0 ≤ R.slots)
    (kk : ∀ (r : Int32) (u : σ) (H1 : Heap) (locs1 : List Loc), post r u → va_P D cl (G u ++ tl) H1 → va_D A (G u ++ tl) → va_S A H0 H1 locs1 → W p l e R s m args below meth c H1 locs1 cells slots Q (F0 m (pc + 3) ls (.int r :: rst))) : W p l e R s m args below meth c H locs cells slots Q (F0 m pc ls st0) := by
  have hP1 : va_P D cl (wc ++ (wr ++ tl)) H := by rw [← List.append_assoc]; exact hP.pre (isC ++ isR) hC
  have hD1 : va_D A (wc ++ (wr ++ tl)) := by rw [← List.append_assoc]; exact hD.pre (isC ++ isR) hn hC
  have hPc : va_P D cl wc H := hP1.mem (fun q h => List.mem_append_left _ h)
  have hDc : va_D (fun _ => True) wc := (hD1.preL).weaken (fun _ _ _ _ => trivial)
  subst hst
  subst hq
  refine x_goI (wc := wc) (wr := wr ++ tl) (va_runV (As := As) (rest := rst) S (hM H.size) cw ⟨x_blind, va_recv hK hPc hcl hre, fun U hU hW => ⟨rfl, by rw [hU], by rw [hU]; exact hPc, va_K.moved hW.alike hK, hDc⟩⟩ rfl hlen hsize rfl (lv_room hW) hdg hf) hP1 hD1 hS hA (fun r u H1 locs1 hp h1 h2 h3 => ?_)
  rw [← List.append_assoc] at h1 h2
  exact kk r u H1 locs1 hp (h1.pre isB (hB u)) (h2.pre isB hnB (hB u)) h3
theorem gVv {post : σ → Prop} (S : CallFix p m c cc nL s args Ts own) (hM : MV l y wsc rm D cl tys (.ref b :: As) wc post F) (cw : CallW R s args own C index y bytes maxL ret wsc rm 0 0 n) (hK : va_K D cl tys s) (hP : va_P D cl (pre ++ tl) H) (hD : va_D A (pre ++ tl)) (hS : va_S A H0 H locs) (hA : ∀ q : Nat, H0.size ≤ q → A q)
    (isC isR isB : List Nat) (hC : (isC ++ isR).map (fun i => pre[i]?) = (wc ++ wr).map some) (hn : va_nd (isC ++ isR) = true) (hB : ∀ u, isB.map (fun i => (F u ++ wr)[i]?) = (G u).map some) (hnB : va_nd isB = true) (hre : wc[0]? = some (b, .inr (ci, fs))) (hcl : cl[ci]? = some qc) (hq : qc.1 = C) (hlen : As.length = n) (hsize : ls.size = nL) (hst : st0 = As.reverse ++ .ref b :: rst) (hW : (rst.map fun v => v.category).sum ≤ 8) (hdg : decode cc pc = .ok (.invokevirtual index, 3)) (hf : cells + 0 ≤ R.cells ∧ slots + 0 ≤ R.slots)
    (kk : ∀ (u : σ) (H1 : Heap) (locs1 : List Loc), post u → va_P D cl (G u ++ tl) H1 → va_D A (G u ++ tl) → va_S A H0 H1 locs1 → W p l e R s m args below meth c H1 locs1 cells slots Q (F0 m (pc + 3) ls rst)) : W p l e R s m args below meth c H locs cells slots Q (F0 m pc ls st0) := by
  have hP1 : va_P D cl (wc ++ (wr ++ tl)) H := by rw [← List.append_assoc]; exact hP.pre (isC ++ isR) hC
  have hD1 : va_D A (wc ++ (wr ++ tl)) := by rw [← List.append_assoc]; exact hD.pre (isC ++ isR) hn hC
  have hPc : va_P D cl wc H := hP1.mem (fun q h => List.mem_append_left _ h)
  have hDc : va_D (fun _ => True) wc := (hD1.preL).weaken (fun _ _ _ _ => trivial)
  subst hst
  subst hq
  refine x_goV (wc := wc) (wr := wr ++ tl) (va_runV (As := As) (rest := rst) S (hM H.size) cw ⟨x_blind, va_recv hK hPc hcl hre, fun U hU hW => ⟨rfl, by rw [hU], by rw [hU]; exact hPc, va_K.moved hW.alike hK, hDc⟩⟩ rfl hlen hsize rfl (lv_room hW) hdg hf) hP1 hD1 hS hA (fun u H1 locs1 hp h1 h2 h3 => ?_)
  rw [← List.append_assoc] at h1 h2
  exact kk u H1 locs1 hp (h1.pre isB (hB u)) (h2.pre isB hnB (hB u)) h3
/-- a static call -/
theorem gS {post : Int32 → σ → Prop} (S : CallFix p m c cc nL s args Ts own) (hM : MG l y wsc rm D cl tys As wc post F) (cw : CallB R s args own index y bytes maxL ret wsc rm 0 0 n ∧ (Cond.static y).before args s = true) (hK : va_K D cl tys s) (hP : va_P D cl (pre ++ tl) H) (hD : va_D A (pre ++ tl)) (hS : va_S A H0 H locs) (hA : ∀ q : Nat, H0.size ≤ q → A q)
    (isC isR isB : List Nat) (hC : (isC ++ isR).map (fun i => pre[i]?) = (wc ++ wr).map some) (hn : va_nd (isC ++ isR) = true) (hB : ∀ u, isB.map (fun i => (F u ++ wr)[i]?) = (G u).map some) (hnB : va_nd isB = true) (hlen : As.length = n) (hsize : ls.size = nL) (hst : st0 = As.reverse ++ rst) (hW : (rst.map fun v => v.category).sum ≤ 8) (hdg : decode cc pc = .ok (.invokestatic index, 3)) (hf : cells + 0 ≤ R.cells ∧ slots + 0 ≤ R.slots)
    (kk : ∀ (r : Int32) (u : σ) (H1 : Heap) (locs1 : List Loc), post r u → va_P D cl (G u ++ tl) H1 → va_D A (G u ++ tl) → va_S A H0 H1 locs1 → W p l e R s m args below meth c H1 locs1 cells slots Q (F0 m (pc + 3) ls (.int r :: rst))) : W p l e R s m args below meth c H locs cells slots Q (F0 m pc ls st0) := by
  have hP1 : va_P D cl (wc ++ (wr ++ tl)) H := by rw [← List.append_assoc]; exact hP.pre (isC ++ isR) hC
  have hD1 : va_D A (wc ++ (wr ++ tl)) := by rw [← List.append_assoc]; exact hD.pre (isC ++ isR) hn hC
  have hPc : va_P D cl wc H := hP1.mem (fun q h => List.mem_append_left _ h)
  have hDc : va_D (fun _ => True) wc := (hD1.preL).weaken (fun _ _ _ _ => trivial)
  subst hst
  refine x_goI (wc := wc) (wr := wr ++ tl) (va_runS (As := As) (rest := rst) S (hM H.size) cw ⟨x_blind, fun U hU hW => ⟨rfl, by rw [hU], by rw [hU]; exact hPc, va_K.moved hW.alike hK, hDc⟩⟩ rfl hlen hsize rfl (lv_room hW) hdg hf) hP1 hD1 hS hA (fun r u H1 locs1 hp h1 h2 h3 => ?_)
  rw [← List.append_assoc] at h1 h2
  exact kk r u H1 locs1 hp (h1.pre isB (hB u)) (h2.pre isB hnB (hB u)) h3
end CALLS
/-! words for calls, out of TB -/
theorem gdV {own C : String} {idx n : Nat} {y : MethodName} {b : ByteArray} {r : Option FieldType} (h1 : Cond.methodLink own idx y ∈ TB) (h2 : Cond.instanceMethod y ∈ TB) (h3 : Cond.selects C y y ∈ TB) (h4 : Cond.initialized C ∈ TB) (h5 : Cond.code y b n r ∈ TB) : GoodIn TB (wsV own idx C y (Cond.code y b n r :: TB)) := by
  have hm : ∀ w ∈ wsV own idx C y (Cond.code y b n r :: TB), w ∈ TB := by
    intro w hw
    unfold wsV at hw
    rcases List.mem_append.mp hw with h | h
    · simp only [List.mem_cons, List.not_mem_nil, or_false] at h
      rcases h with rfl | rfl | rfl | rfl <;> assumption
    · rcases List.mem_cons.mp h with rfl | h
      · exact h5
      · exact h
  exact fun w hw => ⟨hm w hw, TB_good (hm w hw)⟩
theorem gdS {own : String} {idx n : Nat} {y : MethodName} {b : ByteArray} {r : Option FieldType} (h1 : Cond.methodLink own idx y ∈ TB) (h2 : Cond.static y ∈ TB) (h4 : Cond.initialized y.cls ∈ TB) (h5 : Cond.code y b n r ∈ TB) : GoodIn TB (va_wsS own idx y (Cond.code y b n r :: TB)) := by
  have hm : ∀ w ∈ va_wsS own idx y (Cond.code y b n r :: TB), w ∈ TB := by
    intro w hw
    unfold va_wsS at hw
    rcases List.mem_append.mp hw with h | h
    · simp only [List.mem_cons, List.not_mem_nil, or_false] at h
      rcases h with rfl | rfl | rfl <;> assumption
    · rcases List.mem_cons.mp h with rfl | h
      · exact h5
      · exact h
  exact fun w hw => ⟨hm w hw, TB_good (hm w hw)⟩
end
section
/-! the class's functions, as its loops do them: words of a stripe by places d * P + k -/
def dr_P (P : Nat) : Prop := P = 5 ∨ P = 7 ∨ P = 11 ∨ P = 13
def dr_cnt (g : Nat → Bool) : Nat → Nat
  | 0 => 0
  | n + 1 => dr_cnt g n + (if g n = true then 1 else 0)
def dr_any (g : Nat → Bool) : Nat → Bool
  | 0 => false
  | n + 1 => dr_any g n || g n
def dr_xs (f : Nat → Int32) : Nat → Int32
  | 0 => 0
  | n + 1 => dr_xs f n ^^^ f n
def dr_dd (P o k row : Nat) : Nat := if row = P - 2 then (o + k + 2) % P else (o + P - (k + 2)) % P
def dr_pd (P d k row : Nat) : Nat := if row = P - 2 then (d + P - (k + 2)) % P else (d + k + 2) % P
def dr_step (P k row : Nat) : Int32 := if row = P - 2 then nI (k + 2) else -(nI k) - 2
def dr_fm (x y : Int32) : Int32 := if x ^^^ y < 0 ∧ ¬ (x - x / y * y) = 0 then x - x / y * y + y else x - x / y * y
def dr_sum (P : Nat) (w : Nat → Int32) (o row n : Nat) : Int32 := dr_xs (fun k => w (dr_dd P o k row * P + k)) n
def dr_whole (P : Nat) (ms : Nat → Bool) (o row : Nat) : Bool := !(dr_any (fun k => ms (dr_dd P o k row)) (P - 2)) && !(ms o)
def dr_ag (P : Nat) (ms : Nat → Bool) (w : Nat → Int32) (o row : Nat) : Bool := dr_whole P ms o row && decide (w (o * P + row) = dr_sum P w o row (P - 2))
def dr_agn (P : Nat) (ms : Nat → Bool) (w : Nat → Int32) : Nat → Nat
  | 0 => 0
  | d + 1 => dr_agn P ms w d + (if dr_ag P ms w d (P - 2) = true then 1 else 0) + (if dr_ag P ms w d (P - 1) = true then 1 else 0)
def dr_zr (P : Nat) (w : Nat → Int32) (d : Nat) : Nat → (Nat → Int32)
  | 0 => w
  | k + 1 => va_up (dr_zr P w d k) (d * P + k) 0
def dr_rn1 (P : Nat) (w : Nat → Int32) (d row : Nat) : Nat → Int32 := va_up w (d * P + row) (dr_sum P w d row (P - 2))
def dr_rn (P : Nat) (w : Nat → Int32) : Nat → (Nat → Int32)
  | 0 => w
  | d + 1 => dr_rn1 P (dr_rn1 P (dr_rn P w d) d (P - 2)) d (P - 1)
/-! the teller -/
def dr_lk (P : Nat) (ms : Nat → Bool) (d : Nat) (kn : Nat → Bool) : Nat → (Nat → Bool)
  | 0 => kn
  | k + 1 => va_up (dr_lk P ms d kn k) (d * P + k) (!ms d)
def dr_lw (P : Nat) (ms : Nat → Bool) (w : Nat → Int32) (d : Nat) (tw : Nat → Int32) : Nat → (Nat → Int32)
  | 0 => tw
  | k + 1 => va_up (dr_lw P ms w d tw k) (d * P + k) (if ms d = true then 0 else w (d * P + k))
def dr_LK (P : Nat) (ms : Nat → Bool) (kn : Nat → Bool) : Nat → (Nat → Bool)
  | 0 => kn
  | d + 1 => dr_lk P ms d (dr_LK P ms kn d) P
def dr_LW (P : Nat) (ms : Nat → Bool) (w : Nat → Int32) (tw : Nat → Int32) : Nat → (Nat → Int32)
  | 0 => tw
  | d + 1 => dr_lw P ms w d (dr_LW P ms w tw d) P
def dr_un (P : Nat) (ms : Nat → Bool) : Nat → Nat
  | 0 => 0
  | d + 1 => dr_un P ms d + (if ms d = true then P else 0)
def dr_ss (P : Nat) (tw : Nat → Int32) (o row : Nat) : Nat → Int32
  | 0 => tw (o * P + row)
  | k + 1 => dr_ss P tw o row k ^^^ tw (dr_dd P o k row * P + k)
def dr_sh (P : Nat) (kn : Nat → Bool) (o row : Nat) : Nat → Nat
  | 0 => if kn (o * P + row) = true then 0 else 1
  | k + 1 => dr_sh P kn o row k + (if kn (dr_dd P o k row * P + k) = true then 0 else 1)
def dr_so (P : Nat) (kn : Nat → Bool) (o row : Nat) : Nat → Nat
  | 0 => o * P + row
  | k + 1 => if kn (dr_dd P o k row * P + k) = true then dr_so P kn o row k else dr_dd P o k row * P + k
abbrev dr_T : Type := (Nat → Bool) × (Nat → Int32) × Int32
def dr_st (P o row : Nat) (x : dr_T) : dr_T :=
  if dr_sh P x.1 o row (P - 2) = 1 then (va_up x.1 (dr_so P x.1 o row (P - 2)) true, va_up x.2.1 (dr_so P x.1 o row (P - 2)) (dr_ss P x.2.1 o row (P - 2)), x.2.2 - 1) else x
def dr_rd (P : Nat) (x : dr_T) : Nat → dr_T
  | 0 => x
  | d + 1 => dr_st P d (P - 1) (dr_st P d (P - 2) (dr_rd P x d))
def dr_tl (P : Nat) : Nat → dr_T → dr_T
  | 0, x => x
  | n + 1, x => if 0 < x.2.2 then dr_tl P n (dr_rd P x P) else x
def dr_ld (P : Nat) (ms : Nat → Bool) (w : Nat → Int32) (kn : Nat → Bool) (tw : Nat → Int32) : dr_T := (dr_LK P ms kn P, dr_LW P ms w tw P, nI (dr_un P ms P))
def dr_tell (P : Nat) (ms : Nat → Bool) (w : Nat → Int32) (kn : Nat → Bool) (tw : Nat → Int32) : dr_T := dr_tl P (dr_un P ms P) (dr_ld P ms w kn tw)
/-! words, power, turns -/
abbrev dr_X : Type := (Nat → Int32) × Bool × Int32
def dr_put (P : Nat) (x : dr_X) (d k : Nat) (v : Int32) : Bool × dr_X :=
  if x.2.2 = 0 then (false, x.1, false, x.2.2) else (true, va_up x.1 (d * P + k) v, x.2.1, if 0 < x.2.2 then x.2.2 - 1 else x.2.2)
def dr_pif (P : Nat) (ms : Nat → Bool) (x : dr_X) (d k : Nat) (v : Int32) : Bool × dr_X := if ms d = true then (true, x) else dr_put P x d k v
def dr_chg (P : Nat) (ms : Nat → Bool) (x : dr_X) (d k row : Nat) (ch : Int32) : Bool × dr_X :=
  dr_pif P ms x (dr_pd P d k row) row (x.1 (dr_pd P d k row * P + row) ^^^ ch)
def dr_wr (P : Nat) (ms : Nat → Bool) (x : dr_X) (d k : Nat) (v ch : Int32) : Bool × dr_X :=
  if (dr_pif P ms x d k v).1 = true then
    (if (dr_chg P ms (dr_pif P ms x d k v).2 d k (P - 2) ch).1 = true then dr_chg P ms (dr_chg P ms (dr_pif P ms x d k v).2 d k (P - 2) ch).2 d k (P - 1) ch
     else dr_chg P ms (dr_pif P ms x d k v).2 d k (P - 2) ch)
  else dr_pif P ms x d k v
def dr_pdr (P : Nat) (tw : Nat → Int32) (d : Nat) (x : dr_X) : Nat → Bool × dr_X
  | 0 => (true, x)
  | k + 1 => if (dr_pdr P tw d x k).1 = true then dr_put P (dr_pdr P tw d x k).2 d k (tw (d * P + k)) else dr_pdr P tw d x k
def dr_rbl (P : Nat) (lo ms : Nat → Bool) (tw : Nat → Int32) (x : dr_X) : Nat → Bool × dr_X
  | 0 => (true, x)
  | d + 1 => if (dr_rbl P lo ms tw x d).1 = true then (if (ms d && !lo d) = true then dr_pdr P tw d (dr_rbl P lo ms tw x d).2 P else dr_rbl P lo ms tw x d) else dr_rbl P lo ms tw x d
def dr_mf (lo ms : Nat → Bool) : Nat → (Nat → Bool)
  | 0 => ms
  | d + 1 => if (dr_mf lo ms d d && !lo d) = true then va_up (dr_mf lo ms d) d false else dr_mf lo ms d
end
section
/-! what is told: parities, their members, the closing, the teller -/
theorem dr_P.le {P : Nat} (h : dr_P P) : 5 ≤ P ∧ P ≤ 13 := by unfold dr_P at h; omega
theorem dr_dd_lt {P o k row : Nat} (h : dr_P P) : dr_dd P o k row < P := by
  have := h.le
  unfold dr_dd
  split <;> exact Nat.mod_lt _ (by omega)
theorem dr_pd_lt {P d k row : Nat} (h : dr_P P) : dr_pd P d k row < P := by
  have := h.le
  unfold dr_pd
  split <;> exact Nat.mod_lt _ (by omega)
theorem dr_pl {P d k : Nat} (hd : d < P) (hk : k < P) : d * P + k < P * P := by
  have h1 : (d + 1) * P ≤ P * P := Nat.mul_le_mul_right _ hd
  rw [Nat.add_mul] at h1
  omega
theorem dr_PP {P : Nat} (h : dr_P P) : P * P ≤ 169 ∧ 25 ≤ P * P := by
  rcases h with rfl | rfl | rfl | rfl <;> decide
theorem dr_pl_div {P d k : Nat} (hk : k < P) : (d * P + k) / P = d := by
  rw [Nat.mul_comm, Nat.mul_add_div (by omega), Nat.div_eq_of_lt hk, Nat.add_zero]
theorem dr_pl_mod {P d k : Nat} (hk : k < P) : (d * P + k) % P = k := by
  rw [Nat.mul_comm, Nat.mul_add_mod, Nat.mod_eq_of_lt hk]
theorem dr_split {P c : Nat} (hc : c < P * P) : c = (c / P) * P + c % P ∧ c / P < P ∧ c % P < P := by
  have hp : 0 < P := by
    rcases Nat.eq_zero_or_pos P with h | h
    · subst h; omega
    · exact h
  exact ⟨by rw [Nat.mul_comm]; exact (Nat.div_add_mod c P).symm, Nat.div_lt_of_lt_mul hc, Nat.mod_lt _ hp⟩
theorem dr_pl_inj {P d k d' k' : Nat} (hk : k < P) (hk' : k' < P) (h : d * P + k = d' * P + k') : d = d' ∧ k = k' := by
  have h1 := dr_pl_div (d := d) hk
  have h2 := dr_pl_div (d := d') hk'
  have h3 := dr_pl_mod (d := d) hk
  have h4 := dr_pl_mod (d := d') hk'
  rw [h] at h1 h3
  exact ⟨h1.symm.trans h2, h3.symm.trans h4⟩
theorem dr_xs_congr {f g : Nat → Int32} : ∀ {n : Nat}, (∀ k, k < n → f k = g k) → dr_xs f n = dr_xs g n
  | 0, _ => rfl
  | n + 1, h => by rw [dr_xs, dr_xs, dr_xs_congr (fun k hk => h k (Nat.lt_succ_of_lt hk)), h n (Nat.lt_succ_self n)]
theorem dr_xor4 (a b c d : Int32) : (a ^^^ b) ^^^ (c ^^^ d) = (a ^^^ c) ^^^ (b ^^^ d) := by ac_rfl
theorem dr_xs_one {f g : Nat → Int32} : ∀ {n j : Nat}, j < n → (∀ k, k < n → k ≠ j → f k = g k) → dr_xs f n ^^^ dr_xs g n = f j ^^^ g j
  | 0, j, h, _ => absurd h (Nat.not_lt_zero _)
  | n + 1, j, hj, h => by
    rw [dr_xs, dr_xs, dr_xor4]
    by_cases e : j = n
    · subst e
      rw [dr_xs_congr (f := f) (g := g) (fun k hk => h k (Nat.lt_succ_of_lt hk) (by omega)), Int32.xor_self, Int32.zero_xor]
    · rw [dr_xs_one (n := n) (j := j) (by omega) (fun k hk hkj => h k (by omega) hkj), h n (Nat.lt_succ_self n) (fun z => e z.symm), Int32.xor_self, Int32.xor_zero]
theorem dr_xs_zero {f : Nat → Int32} : ∀ {n : Nat}, (∀ k, k < n → f k = 0) → dr_xs f n = 0
  | 0, _ => rfl
  | n + 1, h => by rw [dr_xs, dr_xs_zero (fun k hk => h k (Nat.lt_succ_of_lt hk)), h n (Nat.lt_succ_self n), Int32.xor_self]
theorem dr_xs_xor {f g : Nat → Int32} : ∀ {n : Nat}, dr_xs (fun k => f k ^^^ g k) n = dr_xs f n ^^^ dr_xs g n
  | 0 => by simp [dr_xs]
  | n + 1 => by rw [dr_xs, dr_xs, dr_xs, dr_xs_xor, dr_xor4]
/-- the members of a parity: P - 2 data words, and itself -/
def dr_mm (P o row k : Nat) : Nat := if k = P - 2 then o * P + row else dr_dd P o k row * P + k
def dr_row (P row : Nat) : Prop := row = P - 2 ∨ row = P - 1
theorem dr_mm_lt {P o row k : Nat} (h : dr_P P) (ho : o < P) (hr : dr_row P row) (hk : k < P - 1) : dr_mm P o row k < P * P := by
  have := h.le
  unfold dr_mm
  split
  · exact dr_pl ho (by rcases hr with rfl | rfl <;> omega)
  · exact dr_pl (dr_dd_lt h) (by omega)
theorem dr_mm_inj {P o row j k : Nat} (h : dr_P P) (hr : dr_row P row) (hj : j < P - 1) (hk : k < P - 1) (e : dr_mm P o row j = dr_mm P o row k) : j = k := by
  have := h.le
  unfold dr_mm at e
  split at e <;> split at e
  · omega
  · have := (dr_pl_inj (by rcases hr with rfl | rfl <;> omega) (by omega) e).2
    rcases hr with rfl | rfl <;> omega
  · have := (dr_pl_inj (by omega) (by rcases hr with rfl | rfl <;> omega) e).2
    rcases hr with rfl | rfl <;> omega
  · exact (dr_pl_inj (by omega) (by omega) e).2
theorem dr_mm_sum {P : Nat} (h : dr_P P) (t : Nat → Int32) (o row : Nat) : dr_xs (fun k => t (dr_mm P o row k)) (P - 1) = dr_sum P t o row (P - 2) ^^^ t (o * P + row) := by
  have := h.le
  rw [show P - 1 = (P - 2) + 1 by omega, dr_xs]
  congr 1
  · exact dr_xs_congr (fun k hk => by simp only [dr_mm]; rw [if_neg (by omega)])
  · simp [dr_mm]
/-- a stripe's full content: all parities agree -/
def dr_Full (P : Nat) (T : Nat → Int32) : Prop := ∀ o row, o < P → dr_row P row → T (o * P + row) = dr_sum P T o row (P - 2)
theorem dr_Full.xs {P : Nat} {T : Nat → Int32} (h : dr_P P) (hT : dr_Full P T) {o row : Nat} (ho : o < P) (hr : dr_row P row) : dr_xs (fun k => T (dr_mm P o row k)) (P - 1) = 0 := by
  rw [dr_mm_sum h, ← hT o row ho hr, Int32.xor_self]
/-! the closing: from all words of all drives but two, parity by parity, one comes to all words -/
def dr_pstep (P d1 d2 : Nat) (kn : List Nat) (e : Nat × Nat) : List Nat :=
  match ((List.range (P - 1)).map (dr_mm P e.1 e.2)).filter (fun c => (c / P == d1 || c / P == d2) && !kn.contains c) with
  | [x] => x :: kn
  | _ => kn
def dr_eqs (P : Nat) : List (Nat × Nat) := (List.range P).flatMap (fun o => [(o, P - 2), (o, P - 1)])
def dr_peel (P d1 d2 : Nat) : Nat → List Nat
  | 0 => []
  | n + 1 => (dr_eqs P).foldl (dr_pstep P d1 d2) (dr_peel P d1 d2 n)
def dr_peels (P d1 d2 : Nat) : Bool := (fun l : List Nat => (List.range P).all (fun k => l.contains (d1 * P + k) && l.contains (d2 * P + k))) (dr_peel P d1 d2 P)
def dr_peelAll (P : Nat) : Bool := (List.range P).all (fun d1 => (List.range P).all (fun d2 => decide (d2 ≤ d1) || dr_peels P d1 d2))
theorem dr_peel5 : dr_peelAll 5 = true := by decide +kernel
theorem dr_peel7 : dr_peelAll 7 = true := by decide +kernel
theorem dr_peel11 : dr_peelAll 11 = true := by decide +kernel
theorem dr_peel13 : dr_peelAll 13 = true := by decide +kernel
theorem dr_peel_ok {P d1 d2 : Nat} (h : dr_P P) (h1 : d1 < d2) (h2 : d2 < P) : dr_peels P d1 d2 = true := by
  have key : dr_peelAll P = true := by
    rcases h with rfl | rfl | rfl | rfl
    · exact dr_peel5
    · exact dr_peel7
    · exact dr_peel11
    · exact dr_peel13
  unfold dr_peelAll at key
  rw [List.all_eq_true] at key
  have k1 := key d1 (List.mem_range.mpr (by omega))
  rw [List.all_eq_true] at k1
  have k2 := k1 d2 (List.mem_range.mpr h2)
  simp only [Bool.or_eq_true, decide_eq_true_eq] at k2
  rcases k2 with k2 | k2
  · omega
  · exact k2
theorem dr_closed {P d1 d2 : Nat} (h : dr_P P) (h1 : d1 < d2) (h2 : d2 < P) (K : Nat → Prop) (h0 : ∀ c, c < P * P → c / P ≠ d1 → c / P ≠ d2 → K c)
    (hc : ∀ o row, o < P → dr_row P row → ∀ j, j < P - 1 → (∀ k, k < P - 1 → k ≠ j → K (dr_mm P o row k)) → K (dr_mm P o row j)) : ∀ c, c < P * P → K c := by
  have hstep : ∀ (kn : List Nat) (e : Nat × Nat), e.1 < P → dr_row P e.2 → (∀ c ∈ kn, K c) → ∀ c ∈ dr_pstep P d1 d2 kn e, K c := by
    intro kn e he hr hk c hcm
    unfold dr_pstep at hcm
    split at hcm
    · rename_i x hx
      rcases List.mem_cons.mp hcm with rfl | hcm
      · have hm : c ∈ ((List.range (P - 1)).map (dr_mm P e.1 e.2)).filter (fun c => (c / P == d1 || c / P == d2) && !kn.contains c) := by rw [hx]; exact List.mem_cons_self
        obtain ⟨hm1, hm2⟩ := List.mem_filter.mp hm
        obtain ⟨j, hj, rfl⟩ := List.mem_map.mp hm1
        have hj' := List.mem_range.mp hj
        refine hc e.1 e.2 he hr j hj' (fun k hk' hkj => ?_)
        by_cases hq : (dr_mm P e.1 e.2 k / P = d1 ∨ dr_mm P e.1 e.2 k / P = d2) ∧ ¬ dr_mm P e.1 e.2 k ∈ kn
        · have : dr_mm P e.1 e.2 k ∈ ((List.range (P - 1)).map (dr_mm P e.1 e.2)).filter (fun c => (c / P == d1 || c / P == d2) && !kn.contains c) := by
            refine List.mem_filter.mpr ⟨List.mem_map.mpr ⟨k, List.mem_range.mpr hk', rfl⟩, ?_⟩
            simp only [Bool.and_eq_true, Bool.or_eq_true, beq_iff_eq, Bool.not_eq_true', List.contains_eq_mem, decide_eq_false_iff_not]
            exact hq
          rw [hx, List.mem_singleton] at this
          exact absurd (dr_mm_inj h hr hk' hj' this) hkj
        · by_cases hq2 : dr_mm P e.1 e.2 k ∈ kn
          · exact hk _ hq2
          · have h3 : ¬ (dr_mm P e.1 e.2 k / P = d1 ∨ dr_mm P e.1 e.2 k / P = d2) := fun z => hq ⟨z, hq2⟩
            exact h0 _ (dr_mm_lt h he hr hk') (fun z => h3 (Or.inl z)) (fun z => h3 (Or.inr z))
      · exact hk c hcm
    · exact hk c hcm
  have heq : ∀ e ∈ dr_eqs P, e.1 < P ∧ dr_row P e.2 := by
    intro e he
    obtain ⟨o, ho, hm⟩ := List.mem_flatMap.mp he
    have ho' := List.mem_range.mp ho
    simp only [List.mem_cons, List.not_mem_nil, or_false] at hm
    rcases hm with rfl | rfl
    · exact ⟨ho', Or.inl rfl⟩
    · exact ⟨ho', Or.inr rfl⟩
  have hfold : ∀ (es : List (Nat × Nat)) (kn : List Nat), (∀ e ∈ es, e.1 < P ∧ dr_row P e.2) → (∀ c ∈ kn, K c) → ∀ c ∈ es.foldl (dr_pstep P d1 d2) kn, K c := by
    intro es
    induction es with
    | nil => intro kn _ hk c hcm; exact hk c hcm
    | cons e es ih =>
      intro kn hes hk c hcm
      rw [List.foldl_cons] at hcm
      exact ih _ (fun e' he' => hes e' (List.mem_cons_of_mem _ he')) (hstep kn e (hes e List.mem_cons_self).1 (hes e List.mem_cons_self).2 hk) c hcm
  have hpeel : ∀ n, ∀ c ∈ dr_peel P d1 d2 n, K c := by
    intro n
    induction n with
    | zero => intro c hcm; cases hcm
    | succ n ih => exact hfold _ _ heq ih
  have hok := dr_peel_ok h h1 h2
  unfold dr_peels at hok
  rw [List.all_eq_true] at hok
  intro c hcl
  obtain ⟨e1, e2, e3⟩ := dr_split hcl
  have hk := hok (c % P) (List.mem_range.mpr e3)
  rw [Bool.and_eq_true, List.contains_iff_mem, List.contains_iff_mem] at hk
  by_cases g1 : c / P = d1
  · rw [e1, g1]; exact hpeel P _ hk.1
  · by_cases g2 : c / P = d2
    · rw [e1, g2]; exact hpeel P _ hk.2
    · exact h0 c hcl g1 g2
/-- at most two of them -/
theorem dr_cnt_le {g : Nat → Bool} : ∀ n, dr_cnt g n ≤ n
  | 0 => Nat.le_refl 0
  | n + 1 => by have := dr_cnt_le (g := g) n; rw [dr_cnt]; split <;> omega
theorem dr_cnt_0 {g : Nat → Bool} : ∀ {n : Nat}, dr_cnt g n = 0 ↔ ∀ k, k < n → g k = false
  | 0 => by simp [dr_cnt]
  | n + 1 => by
    rw [dr_cnt]
    have ih := dr_cnt_0 (g := g) (n := n)
    constructor
    · intro h k hk
      by_cases e : k = n
      · subst e; by_cases g1 : g k = true
        · simp [g1] at h
        · simpa using g1
      · exact (ih.mp (by omega)) k (by omega)
    · intro h
      rw [ih.mpr (fun k hk => h k (by omega)), h n (by omega)]
      simp
theorem dr_cnt_congr {f g : Nat → Bool} : ∀ {n : Nat}, (∀ k, k < n → f k = g k) → dr_cnt f n = dr_cnt g n
  | 0, _ => rfl
  | n + 1, h => by rw [dr_cnt, dr_cnt, dr_cnt_congr (fun k hk => h k (Nat.lt_succ_of_lt hk)), h n (Nat.lt_succ_self n)]
theorem dr_cnt_mono {f g : Nat → Bool} : ∀ {n : Nat}, (∀ k, k < n → f k = true → g k = true) → dr_cnt f n ≤ dr_cnt g n
  | 0, _ => Nat.le_refl _
  | n + 1, h => by
    have ih := dr_cnt_mono (f := f) (g := g) (n := n) (fun k hk => h k (Nat.lt_succ_of_lt hk))
    rw [dr_cnt, dr_cnt]
    by_cases e : f n = true
    · rw [if_pos e, if_pos (h n (Nat.lt_succ_self n) e)]; omega
    · rw [if_neg e]; omega
theorem dr_cnt_1 {g : Nat → Bool} : ∀ {n : Nat}, dr_cnt g n ≤ 1 → ∃ d, (∀ k, k < n → g k = true → k = d) ∧ (d < n ∨ ∀ k, k < n → g k = false)
  | 0, _ => ⟨0, fun k hk => absurd hk (Nat.not_lt_zero _), Or.inr (fun k hk => absurd hk (Nat.not_lt_zero _))⟩
  | n + 1, h => by
    rw [dr_cnt] at h
    by_cases e : g n = true
    · rw [if_pos e] at h
      have h0 := (dr_cnt_0 (g := g) (n := n)).mp (by omega)
      refine ⟨n, fun k hk hg => ?_, Or.inl (Nat.lt_succ_self n)⟩
      by_cases z : k = n
      · exact z
      · rw [h0 k (by omega)] at hg; cases hg
    · rw [if_neg e] at h
      obtain ⟨d, h1, h2⟩ := dr_cnt_1 (g := g) (n := n) (by omega)
      refine ⟨d, fun k hk hg => ?_, ?_⟩
      · by_cases z : k = n
        · subst z; exact absurd hg e
        · exact h1 k (by omega) hg
      · rcases h2 with h2 | h2
        · exact Or.inl (by omega)
        · refine Or.inr (fun k hk => ?_)
          by_cases z : k = n
          · subst z; simpa using e
          · exact h2 k (by omega)
theorem dr_two {g : Nat → Bool} : ∀ {n : Nat}, 2 ≤ n → dr_cnt g n ≤ 2 → ∃ d1 d2, d1 < d2 ∧ d2 < n ∧ ∀ k, k < n → g k = true → k = d1 ∨ k = d2
  | 0, h, _ => by omega
  | 1, h, _ => by omega
  | n + 2, _, h => by
    by_cases e : g (n + 1) = true
    · have hh := h
      rw [dr_cnt, if_pos e] at hh
      obtain ⟨d, h1, h2⟩ := dr_cnt_1 (g := g) (n := n + 1) (by omega)
      by_cases z : d < n + 1
      · refine ⟨d, n + 1, z, by omega, fun k hk hg => ?_⟩
        by_cases y : k = n + 1
        · exact Or.inr y
        · exact Or.inl (h1 k (by omega) hg)
      · refine ⟨0, n + 1, by omega, by omega, fun k hk hg => ?_⟩
        by_cases y : k = n + 1
        · exact Or.inr y
        · rcases h2 with h2 | h2
          · omega
          · rw [h2 k (by omega)] at hg; cases hg
    · have hh := h
      rw [dr_cnt, if_neg e] at hh
      by_cases y : n = 0
      · subst y
        refine ⟨0, 1, by omega, by omega, fun k hk _ => by omega⟩
      · obtain ⟨d1, d2, h1, h2, h3⟩ := dr_two (g := g) (n := n + 1) (by omega) (by omega)
        refine ⟨d1, d2, h1, by omega, fun k hk hg => ?_⟩
        by_cases z : k = n + 1
        · subst z; exact absurd hg e
        · exact h3 k (by omega) hg
/-- two full contents that agree on all drives but two agree -/
theorem dr_unique {P : Nat} (h : dr_P P) {ms : Nat → Bool} (hm : dr_cnt ms P ≤ 2) {T T' : Nat → Int32} (hT : dr_Full P T) (hT' : dr_Full P T') (he : ∀ c, c < P * P → ms (c / P) = false → T c = T' c) : ∀ c, c < P * P → T c = T' c := by
  have hp := h.le
  obtain ⟨d1, d2, h1, h2, h3⟩ := dr_two (g := ms) (n := P) (by omega) hm
  refine dr_closed h h1 h2 (fun c => T c = T' c) (fun c hc g1 g2 => he c hc ?_) ?_
  · cases hmm : ms (c / P) with
    | false => rfl
    | true =>
      rcases h3 (c / P) (dr_split hc).2.1 hmm with z | z
      · exact absurd z g1
      · exact absurd z g2
  · intro o row ho hr j hj hk
    have := dr_xs_one (f := fun k => T (dr_mm P o row k)) (g := fun k => T' (dr_mm P o row k)) hj hk
    rw [hT.xs h ho hr, hT'.xs h ho hr, Int32.xor_self] at this
    exact Int32.xor_eq_zero_iff.mp this.symm
/-! Math.floorMod at the places where it's called -/
theorem dr_fm_all : ([5, 7, 11, 13].all fun P => (List.range P).all fun o => (List.range (P - 1)).all fun k => [P - 2, P - 1].all fun row => decide (dr_fm (nI o + dr_step P k row) (nI P) = nI (dr_dd P o k row)) && decide (dr_fm (nI o - dr_step P k row) (nI P) = nI (dr_pd P o k row))) = true := by decide +kernel
theorem dr_fm_at {P o k row : Nat} (h : dr_P P) (ho : o < P) (hk : k < P - 1) (hr : dr_row P row) : dr_fm (nI o + dr_step P k row) (nI P) = nI (dr_dd P o k row) ∧ dr_fm (nI o - dr_step P k row) (nI P) = nI (dr_pd P o k row) := by
  have key := dr_fm_all
  rw [List.all_eq_true] at key
  have k1 := key P (by rcases h with rfl | rfl | rfl | rfl <;> decide)
  rw [List.all_eq_true] at k1
  have k2 := k1 o (List.mem_range.mpr ho)
  rw [List.all_eq_true] at k2
  have k3 := k2 k (List.mem_range.mpr hk)
  rw [List.all_eq_true] at k3
  have k4 := k3 row (by rcases hr with rfl | rfl <;> simp)
  rw [Bool.and_eq_true, decide_eq_true_eq, decide_eq_true_eq] at k4
  exact k4
theorem rf_pt_all : ([5, 7, 11, 13].all fun P => (List.range P).all fun o => (List.range (P - 1)).all fun k => decide (nI o - nI k - nI 2 + nI (2 * P) = nI (o + 2 * P - (k + 2)))) = true := by decide +kernel
theorem rf_pt_at {P o k : Nat} (h : dr_P P) (ho : o < P) (hk : k < P - 1) : nI o - nI k - nI 2 + nI (2 * P) = nI (o + 2 * P - (k + 2)) := by
  have key := rf_pt_all
  rw [List.all_eq_true] at key
  have k1 := key P (by rcases h with rfl | rfl | rfl | rfl <;> decide)
  rw [List.all_eq_true] at k1
  have k2 := k1 o (List.mem_range.mpr ho)
  rw [List.all_eq_true] at k2
  have k3 := k2 k (List.mem_range.mpr hk)
  exact decide_eq_true_eq.mp k3
end
section
/-! the teller tells a stripe's full content -/
theorem dr_ss_eq {P : Nat} (tw : Nat → Int32) (o row : Nat) : ∀ n, dr_ss P tw o row n = dr_sum P tw o row n ^^^ tw (o * P + row)
  | 0 => by simp [dr_ss, dr_sum, dr_xs]
  | n + 1 => by
    rw [dr_ss, dr_ss_eq tw o row n]
    show _ = dr_sum P tw o row n ^^^ tw (dr_dd P o n row * P + n) ^^^ tw (o * P + row)
    ac_rfl
theorem dr_sh_spec {P : Nat} (h : dr_P P) (kn : Nat → Bool) (o row : Nat) : ∀ n, n ≤ P - 2 →
    (dr_sh P kn o row n = 0 → dr_so P kn o row n = o * P + row ∧ kn (dr_mm P o row (P - 2)) = true ∧ ∀ k, k < n → kn (dr_mm P o row k) = true) ∧
    (dr_sh P kn o row n = 1 → ∃ j, (j < n ∨ j = P - 2) ∧ dr_so P kn o row n = dr_mm P o row j ∧ kn (dr_mm P o row j) = false ∧ ∀ k, (k < n ∨ k = P - 2) → k ≠ j → kn (dr_mm P o row k) = true)
  | 0, _ => by
    have e : dr_mm P o row (P - 2) = o * P + row := by simp [dr_mm]
    rw [dr_sh, dr_so, e]
    constructor
    · intro hz
      by_cases g : kn (o * P + row) = true
      · exact ⟨rfl, g, fun k hk => absurd hk (Nat.not_lt_zero _)⟩
      · rw [if_neg g] at hz; cases hz
    · intro hz
      by_cases g : kn (o * P + row) = true
      · rw [if_pos g] at hz; cases hz
      · refine ⟨P - 2, Or.inr rfl, e.symm, by rw [e]; simpa using g, fun k hk hkj => ?_⟩
        rcases hk with hk | hk
        · exact absurd hk (Nat.not_lt_zero _)
        · exact absurd hk hkj
  | n + 1, hn => by
    have hp := h.le
    obtain ⟨i0, i1⟩ := dr_sh_spec h kn o row n (by omega)
    have e : dr_mm P o row n = dr_dd P o n row * P + n := by unfold dr_mm; rw [if_neg (by omega)]
    rw [dr_sh, dr_so, ← e]
    by_cases g : kn (dr_mm P o row n) = true
    · rw [if_pos g, if_pos g, Nat.add_zero]
      constructor
      · intro hz
        obtain ⟨a, b, c⟩ := i0 hz
        refine ⟨a, b, fun k hk => ?_⟩
        by_cases y : k = n
        · rw [y]; exact g
        · exact c k (by omega)
      · intro hz
        obtain ⟨j, a, b, c, d⟩ := i1 hz
        refine ⟨j, by omega, b, c, fun k hk hkj => ?_⟩
        by_cases y : k = n
        · rw [y]; exact g
        · exact d k (by omega) hkj
    · rw [if_neg g, if_neg g]
      constructor
      · intro hz; omega
      · intro hz
        obtain ⟨a, b, c⟩ := i0 (by omega)
        refine ⟨n, by omega, rfl, by simpa using g, fun k hk hkj => ?_⟩
        rcases hk with hk | hk
        · exact c k (by omega)
        · rw [hk]; exact b
theorem dr_sh_1 {P : Nat} (h : dr_P P) (kn : Nat → Bool) (o row j : Nat) (hj : j < P - 1) (hf : kn (dr_mm P o row j) = false) (ha : ∀ k, k < P - 1 → k ≠ j → kn (dr_mm P o row k) = true) : dr_sh P kn o row (P - 2) = 1 := by
  have hp := h.le
  have e : dr_mm P o row (P - 2) = o * P + row := by simp [dr_mm]
  have key : ∀ n, n ≤ P - 2 → dr_sh P kn o row n = if j < n ∨ j = P - 2 then 1 else 0 := by
    intro n
    induction n with
    | zero =>
      intro _
      rw [dr_sh, ← e]
      by_cases z : j = P - 2
      · rw [z] at hf; rw [hf]; simp [z]
      · rw [ha (P - 2) (by omega) (fun y => z y.symm)]; simp [z]
    | succ n ih =>
      intro hn
      have en : dr_mm P o row n = dr_dd P o n row * P + n := by unfold dr_mm; rw [if_neg (by omega)]
      rw [dr_sh, ih (by omega), ← en]
      by_cases z : j = n
      · subst z; rw [hf]
        rw [if_neg (show ¬ (j < j ∨ j = P - 2) by omega), if_pos (show j < j + 1 ∨ j = P - 2 by omega)]
        simp
      · rw [ha n (by omega) (fun y => z y.symm)]
        by_cases z2 : j < n ∨ j = P - 2
        · rw [if_pos z2, if_pos (show j < n + 1 ∨ j = P - 2 by omega)]; simp
        · rw [if_neg z2, if_neg (show ¬ (j < n + 1 ∨ j = P - 2) by omega)]; simp
  rw [key (P - 2) (Nat.le_refl _), if_pos (by omega)]
abbrev dr_U (P : Nat) (kn : Nat → Bool) : Nat := dr_cnt (fun c => !kn c) (P * P)
def dr_TI (P : Nat) (T : Nat → Int32) (x : dr_T) : Prop := (∀ c, c < P * P → x.1 c = true → x.2.1 c = T c) ∧ (∀ c, c < P * P → x.1 c = false → x.2.1 c = 0) ∧ x.2.2 = nI (dr_U P x.1)
theorem dr_cnt_up {g : Nat → Bool} : ∀ {n j : Nat}, j < n → g j = false → dr_cnt (fun c => !(va_up g j true c)) n + 1 = dr_cnt (fun c => !g c) n
  | 0, j, h, _ => absurd h (Nat.not_lt_zero _)
  | n + 1, j, hj, hg => by
    rw [dr_cnt, dr_cnt]
    by_cases e : j = n
    · subst e
      rw [dr_cnt_congr (f := fun c => !(va_up g j true c)) (g := fun c => !g c) (n := j) (fun k hk => by rw [va_up_n (by omega)])]
      rw [va_up_s, hg]
      simp
    · have := dr_cnt_up (g := g) (n := n) (j := j) (by omega) hg
      rw [va_up_n (fun z => e z.symm)]
      omega
/-- one settling: the hole, if it's the only one, gets what belongs there; or nothing happens -/
theorem dr_st_ok {P : Nat} (h : dr_P P) {T : Nat → Int32} (hT : dr_Full P T) {o row : Nat} (ho : o < P) (hr : dr_row P row) {x : dr_T} (hx : dr_TI P T x) :
    dr_TI P T (dr_st P o row x) ∧ (dr_sh P x.1 o row (P - 2) = 1 → dr_U P (dr_st P o row x).1 + 1 = dr_U P x.1) ∧ (dr_sh P x.1 o row (P - 2) ≠ 1 → dr_st P o row x = x) := by
  have hp := h.le
  unfold dr_st
  by_cases g : dr_sh P x.1 o row (P - 2) = 1
  · rw [if_pos g]
    obtain ⟨j, hj, e1, e2, e3⟩ := (dr_sh_spec h x.1 o row (P - 2) (Nat.le_refl _)).2 g
    have hj' : j < P - 1 := by omega
    have hl := dr_mm_lt h ho hr hj'
    rw [e1]
    have hval : dr_ss P x.2.1 o row (P - 2) = T (dr_mm P o row j) := by
      rw [dr_ss_eq, ← dr_mm_sum h]
      have h1 := dr_xs_one (f := fun k => x.2.1 (dr_mm P o row k)) (g := fun k => T (dr_mm P o row k)) (n := P - 1) (j := j) hj' (fun k hk hkj => hx.1 _ (dr_mm_lt h ho hr hk) (e3 k (by omega) hkj))
      rw [hT.xs h ho hr, Int32.xor_zero, hx.2.1 _ hl e2, Int32.zero_xor] at h1
      exact h1
    have hcu := dr_cnt_up (g := x.1) (n := P * P) (j := dr_mm P o row j) hl e2
    refine ⟨⟨fun c hc hk => ?_, fun c hc hk => ?_, ?_⟩, fun _ => hcu, fun z => absurd g z⟩
    · show va_up x.2.1 (dr_mm P o row j) _ c = T c
      by_cases z : c = dr_mm P o row j
      · subst z; rw [va_up_s]; exact hval
      · rw [va_up_n z]
        exact hx.1 c hc (by rw [← hk]; exact (va_up_n z).symm)
    · show va_up x.2.1 (dr_mm P o row j) _ c = 0
      by_cases z : c = dr_mm P o row j
      · subst z
        have : va_up x.1 (dr_mm P o row j) true (dr_mm P o row j) = true := va_up_s
        rw [show (va_up x.1 (dr_mm P o row j) true, va_up x.2.1 (dr_mm P o row j) (dr_ss P x.2.1 o row (P - 2)), x.2.2 - 1).1 (dr_mm P o row j) = true from this] at hk
        cases hk
      · rw [va_up_n z]
        exact hx.2.1 c hc (by rw [← hk]; exact (va_up_n z).symm)
    · show x.2.2 - 1 = nI (dr_U P (va_up x.1 (dr_mm P o row j) true))
      rw [hx.2.2, show dr_U P x.1 = dr_U P (va_up x.1 (dr_mm P o row j) true) + 1 from hcu.symm]
      exact nI_pred _
  · rw [if_neg g]
    exact ⟨hx, fun z => absurd z g, fun _ => rfl⟩
theorem dr_rd_ok {P : Nat} (h : dr_P P) {T : Nat → Int32} (hT : dr_Full P T) {x : dr_T} (hx : dr_TI P T x) : ∀ n, n ≤ P →
    dr_TI P T (dr_rd P x n) ∧ dr_U P (dr_rd P x n).1 ≤ dr_U P x.1 ∧ (dr_U P (dr_rd P x n).1 = dr_U P x.1 → dr_rd P x n = x ∧ ∀ o row, o < n → dr_row P row → dr_sh P x.1 o row (P - 2) ≠ 1)
  | 0, _ => ⟨hx, Nat.le_refl _, fun _ => ⟨rfl, fun o _ ho => absurd ho (Nat.not_lt_zero _)⟩⟩
  | n + 1, hn => by
    obtain ⟨a1, a2, a3⟩ := dr_rd_ok h hT hx n (by omega)
    rw [dr_rd]
    obtain ⟨b1, b2, b3⟩ := dr_st_ok h hT (o := n) (row := P - 2) (by omega) (Or.inl rfl) a1
    obtain ⟨c1, c2, c3⟩ := dr_st_ok h hT (o := n) (row := P - 1) (by omega) (Or.inr rfl) b1
    refine ⟨c1, ?_, ?_⟩
    · by_cases g1 : dr_sh P (dr_rd P x n).1 n (P - 2) (P - 2) = 1 <;> by_cases g2 : dr_sh P (dr_st P n (P - 2) (dr_rd P x n)).1 n (P - 1) (P - 2) = 1
      · have := b2 g1; have := c2 g2; omega
      · have := b2 g1; rw [c3 g2]; omega
      · rw [b3 g1] at c2 g2 ⊢; have := c2 g2; omega
      · rw [c3 g2, b3 g1]; exact a2
    · intro he
      by_cases g1 : dr_sh P (dr_rd P x n).1 n (P - 2) (P - 2) = 1
      · exfalso
        have u1 := b2 g1
        by_cases g2 : dr_sh P (dr_st P n (P - 2) (dr_rd P x n)).1 n (P - 1) (P - 2) = 1
        · have := c2 g2; omega
        · rw [c3 g2] at he; omega
      · rw [b3 g1] at he c2 c3 ⊢
        by_cases g2 : dr_sh P (dr_rd P x n).1 n (P - 1) (P - 2) = 1
        · exfalso
          have := c2 g2; omega
        · rw [c3 g2] at he ⊢
          obtain ⟨d1, d2⟩ := a3 he
          rw [d1] at g1 g2 ⊢
          refine ⟨rfl, fun o row ho hr => ?_⟩
          by_cases z : o = n
          · subst z
            rcases hr with rfl | rfl
            · exact g1
            · exact g2
          · exact d2 o row (by omega) hr
theorem dr_U_lt {P : Nat} (h : dr_P P) (kn : Nat → Bool) : dr_U P kn < 2 ^ 31 := by
  have h1 := dr_cnt_le (g := fun c => !kn c) (P * P)
  have h2 := dr_PP h
  show dr_cnt (fun c => !kn c) (P * P) < 2 ^ 31
  omega
theorem dr_tl_ok {P : Nat} (h : dr_P P) {T : Nat → Int32} (hT : dr_Full P T) {d1 d2 : Nat} (h1 : d1 < d2) (h2 : d2 < P) : ∀ (n : Nat) (x : dr_T), dr_TI P T x → dr_U P x.1 ≤ n → (∀ c, c < P * P → c / P ≠ d1 → c / P ≠ d2 → x.1 c = true) →
    ∀ c, c < P * P → (dr_tl P n x).2.1 c = T c
  | 0, x, hx, hu, _, c, hc => by
    have h0 := dr_cnt_0.mp (Nat.le_zero.mp hu) c hc
    exact hx.1 c hc (by simpa using h0)
  | n + 1, x, hx, hu, hk, c, hc => by
    rw [dr_tl]
    by_cases g : 0 < x.2.2
    · rw [if_pos g]
      have hpos : 0 < dr_U P x.1 := by
        rw [hx.2.2] at g
        exact (nI_ltI (a := 0) (by decide) (dr_U_lt h _)).mp g
      obtain ⟨a1, a2, a3⟩ := dr_rd_ok h hT hx P (Nat.le_refl _)
      have hlt : dr_U P (dr_rd P x P).1 < dr_U P x.1 := by
        rcases Nat.lt_or_ge (dr_U P (dr_rd P x P).1) (dr_U P x.1) with z | z
        · exact z
        · exfalso
          obtain ⟨-, e2⟩ := a3 (by omega)
          have hall := dr_closed h h1 h2 (fun c => x.1 c = true) hk (fun o row ho hr j hj ha => by
            cases hb : x.1 (dr_mm P o row j) with
            | true => rfl
            | false => exact absurd (dr_sh_1 h x.1 o row j hj hb ha) (e2 o row ho hr))
          have : dr_U P x.1 = 0 := dr_cnt_0.mpr (fun k hk' => by rw [hall k hk']; rfl)
          omega
      refine dr_tl_ok h hT h1 h2 n _ a1 (by omega) ?_ c hc
      have mono : ∀ m, ∀ c, x.1 c = true → (dr_rd P x m).1 c = true := by
        have st : ∀ (o row : Nat) (y : dr_T) (c : Nat), y.1 c = true → (dr_st P o row y).1 c = true := by
          intro o row y c hy
          unfold dr_st
          split
          · show va_up y.1 _ true c = true
            unfold va_up
            split
            · rfl
            · exact hy
          · exact hy
        intro m
        induction m with
        | zero => intro c hc; exact hc
        | succ m ih => intro c hc; rw [dr_rd]; exact st _ _ _ _ (st _ _ _ _ (ih c hc))
      exact fun c hc g1 g2 => mono P c (hk c hc g1 g2)
    · rw [if_neg g]
      have hz : dr_U P x.1 = 0 := by
        rcases Nat.eq_zero_or_pos (dr_U P x.1) with z | z
        · exact z
        · exfalso
          apply g
          rw [hx.2.2]
          exact (nI_ltI (a := 0) (by decide) (dr_U_lt h _)).mpr z
      have h0 := dr_cnt_0.mp hz c hc
      exact hx.1 c hc (by simpa using h0)
/-! loading -/
theorem dr_lk_at {P : Nat} (ms : Nat → Bool) (d : Nat) (kn : Nat → Bool) : ∀ n, n ≤ P → ∀ c, dr_lk P ms d kn n c = if c / P = d ∧ c % P < n then !ms d else kn c
  | 0, _, c => by simp [dr_lk]
  | n + 1, hn, c => by
    rw [dr_lk]
    by_cases e : c = d * P + n
    · subst e
      rw [va_up_s, dr_pl_div (by omega), dr_pl_mod (by omega)]
      simp
    · rw [va_up_n e, dr_lk_at ms d kn n (by omega) c]
      have hne : ¬ (c / P = d ∧ c % P = n) := by
        rintro ⟨h1, h2⟩
        apply e
        rw [← h1, ← h2, Nat.mul_comm]
        exact (Nat.div_add_mod c P).symm
      by_cases z : c / P = d ∧ c % P < n
      · rw [if_pos z, if_pos (show c / P = d ∧ c % P < n + 1 from ⟨z.1, by omega⟩)]
      · rw [if_neg z, if_neg (show ¬ (c / P = d ∧ c % P < n + 1) by omega)]
theorem dr_lw_at {P : Nat} (ms : Nat → Bool) (w : Nat → Int32) (d : Nat) (tw : Nat → Int32) : ∀ n, n ≤ P → ∀ c, dr_lw P ms w d tw n c = if c / P = d ∧ c % P < n then (if ms d = true then 0 else w c) else tw c
  | 0, _, c => by simp [dr_lw]
  | n + 1, hn, c => by
    rw [dr_lw]
    by_cases e : c = d * P + n
    · subst e
      rw [va_up_s, dr_pl_div (by omega), dr_pl_mod (by omega)]
      simp
    · rw [va_up_n e, dr_lw_at ms w d tw n (by omega) c]
      have hne : ¬ (c / P = d ∧ c % P = n) := by
        rintro ⟨h1, h2⟩
        apply e
        rw [← h1, ← h2, Nat.mul_comm]
        exact (Nat.div_add_mod c P).symm
      by_cases z : c / P = d ∧ c % P < n
      · rw [if_pos z, if_pos (show c / P = d ∧ c % P < n + 1 from ⟨z.1, by omega⟩)]
      · rw [if_neg z, if_neg (show ¬ (c / P = d ∧ c % P < n + 1) by omega)]
theorem dr_LK_at {P : Nat} (hp : 0 < P) (ms : Nat → Bool) (kn : Nat → Bool) : ∀ n, ∀ c, dr_LK P ms kn n c = if c / P < n then !ms (c / P) else kn c
  | 0, c => by simp [dr_LK]
  | n + 1, c => by
    rw [dr_LK, dr_lk_at ms n _ P (Nat.le_refl _) c, dr_LK_at hp ms kn n c]
    have := Nat.mod_lt c hp
    by_cases z : c / P = n
    · rw [if_pos (show c / P = n ∧ c % P < P from ⟨z, this⟩), if_pos (show c / P < n + 1 by omega), z]
    · rw [if_neg (show ¬ (c / P = n ∧ c % P < P) from fun y => z y.1)]
      by_cases z2 : c / P < n
      · rw [if_pos z2, if_pos (show c / P < n + 1 by omega)]
      · rw [if_neg z2, if_neg (show ¬ c / P < n + 1 by omega)]
theorem dr_LW_at {P : Nat} (hp : 0 < P) (ms : Nat → Bool) (w tw : Nat → Int32) : ∀ n, ∀ c, dr_LW P ms w tw n c = if c / P < n then (if ms (c / P) = true then 0 else w c) else tw c
  | 0, c => by simp [dr_LW]
  | n + 1, c => by
    rw [dr_LW, dr_lw_at ms w n _ P (Nat.le_refl _) c, dr_LW_at hp ms w tw n c]
    have := Nat.mod_lt c hp
    by_cases z : c / P = n
    · rw [if_pos (show c / P = n ∧ c % P < P from ⟨z, this⟩), if_pos (show c / P < n + 1 by omega), z]
    · rw [if_neg (show ¬ (c / P = n ∧ c % P < P) from fun y => z y.1)]
      by_cases z2 : c / P < n
      · rw [if_pos z2, if_pos (show c / P < n + 1 by omega)]
      · rw [if_neg z2, if_neg (show ¬ c / P < n + 1 by omega)]
theorem dr_cnt_add (g : Nat → Bool) (a : Nat) : ∀ b, dr_cnt g (a + b) = dr_cnt g a + dr_cnt (fun k => g (a + k)) b
  | 0 => by simp [dr_cnt]
  | b + 1 => by rw [← Nat.add_assoc, dr_cnt, dr_cnt, dr_cnt_add g a b]; omega
theorem dr_cnt_all {g : Nat → Bool} {x : Bool} : ∀ {n : Nat}, (∀ k, k < n → g k = x) → dr_cnt g n = if x = true then n else 0
  | 0, _ => by simp [dr_cnt]
  | n + 1, h => by
    rw [dr_cnt, dr_cnt_all (fun k hk => h k (Nat.lt_succ_of_lt hk)), h n (Nat.lt_succ_self n)]
    cases x <;> simp
theorem dr_un_eq {P : Nat} (hp : 0 < P) (ms : Nat → Bool) : ∀ n, dr_cnt (fun c => ms (c / P)) (n * P) = dr_un P ms n
  | 0 => by simp [dr_cnt, dr_un]
  | n + 1 => by
    rw [Nat.add_mul, Nat.one_mul, dr_cnt_add, dr_un_eq hp ms n, dr_un, dr_cnt_all (x := ms n) (fun k hk => by rw [dr_pl_div hk])]
theorem dr_ld_ok {P : Nat} (h : dr_P P) {T : Nat → Int32} {ms : Nat → Bool} {w : Nat → Int32} (hw : ∀ c, c < P * P → ms (c / P) = false → w c = T c) (kn : Nat → Bool) (tw : Nat → Int32) : dr_TI P T (dr_ld P ms w kn tw) ∧ dr_U P (dr_ld P ms w kn tw).1 = dr_un P ms P := by
  have hp := h.le
  have hp0 : 0 < P := by omega
  have hu : dr_U P (dr_LK P ms kn P) = dr_un P ms P := by
    rw [← dr_un_eq hp0 ms P]
    refine dr_cnt_congr (fun c hc => ?_)
    rw [dr_LK_at hp0, if_pos (dr_split hc).2.1]
    simp
  refine ⟨⟨fun c hc hk => ?_, fun c hc hk => ?_, ?_⟩, hu⟩
  · show dr_LW P ms w tw P c = T c
    have hk : dr_LK P ms kn P c = true := hk
    rw [dr_LK_at hp0, if_pos (dr_split hc).2.1] at hk
    have hm : ms (c / P) = false := by simpa using hk
    rw [dr_LW_at hp0, if_pos (dr_split hc).2.1, hm]
    simpa using hw c hc hm
  · show dr_LW P ms w tw P c = 0
    have hk : dr_LK P ms kn P c = false := hk
    rw [dr_LK_at hp0, if_pos (dr_split hc).2.1] at hk
    have hm : ms (c / P) = true := by simpa using hk
    rw [dr_LW_at hp0, if_pos (dr_split hc).2.1, hm]
    simp
  · show nI (dr_un P ms P) = nI (dr_U P (dr_LK P ms kn P))
    rw [hu]
/-- THE CLASS TELLS -/
theorem dr_told {P : Nat} (h : dr_P P) {T : Nat → Int32} (hT : dr_Full P T) {ms : Nat → Bool} {w : Nat → Int32} (hw : ∀ c, c < P * P → ms (c / P) = false → w c = T c) (hm : dr_cnt ms P ≤ 2) (kn : Nat → Bool) (tw : Nat → Int32) :
    ∀ c, c < P * P → (dr_tell P ms w kn tw).2.1 c = T c := by
  have hp := h.le
  have hp0 : 0 < P := by omega
  obtain ⟨d1, d2, h1, h2, h3⟩ := dr_two (g := ms) (n := P) (by omega) hm
  obtain ⟨i1, i2⟩ := dr_ld_ok h hw kn tw
  refine dr_tl_ok h hT h1 h2 (dr_un P ms P) _ i1 (by rw [i2]; exact Nat.le_refl _) (fun c hc g1 g2 => ?_)
  show dr_LK P ms kn P c = true
  rw [dr_LK_at hp0, if_pos (dr_split hc).2.1]
  cases hmm : ms (c / P) with
  | false => rfl
  | true =>
    rcases h3 (c / P) (dr_split hc).2.1 hmm with z | z
    · exact absurd z g1
    · exact absurd z g2
end
section
/-! the reference's elimination: rows of bits and sums -/
/-- the sum over the unknowns that a row has -/
def rf_dot (b : Nat) (X : Nat → Int32) (n : Nat) : Int32 := dr_xs (fun v => if b.testBit v = true then X v else 0) n
theorem rf_dot_xor (a b : Nat) (X : Nat → Int32) (n : Nat) : rf_dot (a ^^^ b) X n = rf_dot a X n ^^^ rf_dot b X n := by
  unfold rf_dot
  rw [← dr_xs_xor]
  refine dr_xs_congr (fun v _ => ?_)
  rw [Nat.testBit_xor]
  cases a.testBit v <;> cases b.testBit v <;> simp
/-- where the elimination stands at column u -/
def rf_GI (N n : Nat) (X : Nat → Int32) (u : Nat) (b : Nat → Nat) (s : Nat → Int32) : Prop :=
  (∀ e, e < N → s e = rf_dot (b e) X n) ∧ (∀ r v, r < u → v < u → (b r).testBit v = decide (r = v)) ∧ (∀ r v, u ≤ r → r < N → v < u → (b r).testBit v = false) ∧
  (∀ Y : Nat → Int32, (∀ e, e < N → rf_dot (b e) Y n = 0) → ∀ v, v < n → Y v = 0) ∧ (∀ e, e < N → b e < 2 ^ n)
/-- a column that is left has a row for it -/
theorem rf_pivot {N n u : Nat} {X : Nat → Int32} {b : Nat → Nat} {s : Nat → Int32} (h : rf_GI N n X u b s) (hu : u < n) (hn : n ≤ N) : ¬ ∀ r, u ≤ r → r < N → (b r).testBit u = false := by
  intro hz
  obtain ⟨-, h2, h3, h4, -⟩ := h
  have key : ∀ e, e < N → rf_dot (b e) (fun v => if v = u then 1 else if v < u then (if (b v).testBit u = true then 1 else 0) else 0) n = 0 := by
    intro e he
    by_cases g : e < u
    · -- row e: its own column, and u
      have hd : rf_dot (b e) (fun v => if v = u then 1 else if v < u then (if (b v).testBit u = true then 1 else 0) else 0) n ^^^ dr_xs (fun v => if v = e then (if (b e).testBit u = true then 1 else 0) else 0) n = dr_xs (fun v => if v = u then (if (b e).testBit u = true then 1 else 0) else 0) n := by
        unfold rf_dot
        rw [← dr_xs_xor]
        refine dr_xs_congr (fun v hv => ?_)
        dsimp only
        by_cases g1 : v = u
        · rw [if_pos g1, if_pos g1, if_neg (show ¬ v = e by omega), g1]
          simp
        · by_cases g2 : v < u
          · rw [h2 e v g g2, if_neg g1, if_neg g1, if_pos g2]
            by_cases g3 : v = e
            · rw [g3]; simp
            · rw [if_neg g3]; simp [show ¬ e = v from fun z => g3 z.symm]
          · rw [if_neg g1, if_neg g2, if_neg (show ¬ v = e by omega), if_neg g1]; simp
      have one : ∀ (j : Nat) (x : Int32), j < n → dr_xs (fun v => if v = j then x else 0) n = x := by
        intro j x hj
        have := dr_xs_one (f := fun v => if v = j then x else 0) (g := fun _ => 0) (n := n) (j := j) hj (fun k _ hk => if_neg hk)
        rw [dr_xs_zero (f := fun _ => 0) (fun _ _ => rfl)] at this
        simpa using this
      rw [one e _ (by omega), one u _ hu] at hd
      have e2 := congrArg (fun z => z ^^^ (if (b e).testBit u = true then (1 : Int32) else 0)) hd
      simpa [Int32.xor_assoc] using e2
    · refine dr_xs_zero (fun v hv => ?_)
      by_cases g1 : v = u
      · subst g1; rw [hz e (by omega) he]; rfl
      · by_cases g2 : v < u
        · rw [h3 e v (by omega) he g2]; rfl
        · simp [g1, g2]
  have := h4 _ key u hu
  simp at this
/-- two rows change places -/
def rf_sw {α : Type} (f : Nat → α) (i j : Nat) : Nat → α := va_up (va_up f j (f i)) i (f j)
theorem rf_sw_at {α : Type} (f : Nat → α) (i j k : Nat) : rf_sw f i j k = if k = i then f j else if k = j then f i else f k := by
  unfold rf_sw va_up
  rfl
/-- the row at u is added to the rows below e that have column u -/
def rf_eb (b : Nat → Nat) (u : Nat) : Nat → (Nat → Nat)
  | 0 => b
  | e + 1 => if e ≠ u ∧ (rf_eb b u e e).testBit u = true then va_up (rf_eb b u e) e (rf_eb b u e e ^^^ b u) else rf_eb b u e
def rf_es (b : Nat → Nat) (s : Nat → Int32) (u : Nat) : Nat → (Nat → Int32)
  | 0 => s
  | e + 1 => if e ≠ u ∧ (rf_eb b u e e).testBit u = true then va_up (rf_es b s u e) e (rf_es b s u e e ^^^ s u) else rf_es b s u e
theorem rf_eb_at (b : Nat → Nat) (u : Nat) : ∀ n k, rf_eb b u n k = if k < n ∧ k ≠ u ∧ (b k).testBit u = true then b k ^^^ b u else b k
  | 0, k => by simp [rf_eb]
  | n + 1, k => by
    have ih := rf_eb_at b u n
    rw [rf_eb]
    have hn : rf_eb b u n n = b n := by rw [ih n, if_neg (by omega)]
    rw [hn]
    by_cases g : n ≠ u ∧ (b n).testBit u = true
    · rw [if_pos g]
      by_cases e : k = n
      · subst e; rw [va_up_s, if_pos ⟨by omega, g⟩]
      · rw [va_up_n e, ih k]
        by_cases g2 : k < n ∧ k ≠ u ∧ (b k).testBit u = true
        · rw [if_pos g2, if_pos ⟨by omega, g2.2⟩]
        · rw [if_neg g2, if_neg (fun z => g2 ⟨by omega, z.2⟩)]
    · rw [if_neg g, ih k]
      by_cases e : k = n
      · subst e; rw [if_neg (fun z => by omega), if_neg (fun z => g z.2)]
      · by_cases g2 : k < n ∧ k ≠ u ∧ (b k).testBit u = true
        · rw [if_pos g2, if_pos ⟨by omega, g2.2⟩]
        · rw [if_neg g2, if_neg (fun z => g2 ⟨by omega, z.2⟩)]
theorem rf_es_at (b : Nat → Nat) (s : Nat → Int32) (u : Nat) : ∀ n k, rf_es b s u n k = if k < n ∧ k ≠ u ∧ (b k).testBit u = true then s k ^^^ s u else s k
  | 0, k => by simp [rf_es]
  | n + 1, k => by
    have ih := rf_es_at b s u n
    rw [rf_es]
    have hn : rf_eb b u n n = b n := by rw [rf_eb_at b u n n, if_neg (by omega)]
    have hs : rf_es b s u n n = s n := by rw [ih n, if_neg (by omega)]
    rw [hn, hs]
    by_cases g : n ≠ u ∧ (b n).testBit u = true
    · rw [if_pos g]
      by_cases e : k = n
      · subst e; rw [va_up_s, if_pos ⟨by omega, g⟩]
      · rw [va_up_n e, ih k]
        by_cases g2 : k < n ∧ k ≠ u ∧ (b k).testBit u = true
        · rw [if_pos g2, if_pos ⟨by omega, g2.2⟩]
        · rw [if_neg g2, if_neg (fun z => g2 ⟨by omega, z.2⟩)]
    · rw [if_neg g, ih k]
      by_cases e : k = n
      · subst e; rw [if_neg (fun z => by omega), if_neg (fun z => g z.2)]
      · by_cases g2 : k < n ∧ k ≠ u ∧ (b k).testBit u = true
        · rw [if_pos g2, if_pos ⟨by omega, g2.2⟩]
        · rw [if_neg g2, if_neg (fun z => g2 ⟨by omega, z.2⟩)]
/-- changing two rows' places keeps it -/
theorem rf_GI_sw {N n u r : Nat} {X : Nat → Int32} {b : Nat → Nat} {s : Nat → Int32} (h : rf_GI N n X u b s) (hu : u < N) (h1 : u ≤ r) (h2 : r < N) : rf_GI N n X u (rf_sw b u r) (rf_sw s u r) := by
  obtain ⟨a1, a2, a3, a4, a5⟩ := h
  refine ⟨fun e he => ?_, fun q v hq hv => ?_, fun q v hq hq2 hv => ?_, fun Y hY v hv => ?_, fun e he => ?_⟩
  · rw [rf_sw_at, rf_sw_at]
    by_cases g1 : e = u
    · rw [if_pos g1, if_pos g1]; exact a1 r h2
    · rw [if_neg g1, if_neg g1]
      by_cases g2 : e = r
      · rw [if_pos g2, if_pos g2]; exact a1 u hu
      · rw [if_neg g2, if_neg g2]; exact a1 e he
  · rw [rf_sw_at, if_neg (by omega), if_neg (by omega)]; exact a2 q v hq hv
  · rw [rf_sw_at]
    by_cases g1 : q = u
    · rw [if_pos g1]; exact a3 r v h1 h2 hv
    · rw [if_neg g1]
      by_cases g2 : q = r
      · rw [if_pos g2]; exact a3 u v (Nat.le_refl _) hu hv
      · rw [if_neg g2]; exact a3 q v hq hq2 hv
  · refine a4 Y (fun e he => ?_) v hv
    by_cases g1 : e = u
    · have := hY r h2
      rw [rf_sw_at] at this
      by_cases g2 : r = u
      · rw [if_pos g2] at this; rw [g1, ← g2]; exact this
      · rw [if_neg g2, if_pos rfl] at this; rw [g1]; exact this
    · by_cases g2 : e = r
      · have := hY u hu
        rw [rf_sw_at, if_pos rfl] at this
        rw [g2]; exact this
      · have := hY e he
        rw [rf_sw_at, if_neg g1, if_neg g2] at this
        exact this
  · rw [rf_sw_at]
    by_cases g1 : e = u
    · rw [if_pos g1]; exact a5 r h2
    · rw [if_neg g1]
      by_cases g2 : e = r
      · rw [if_pos g2]; exact a5 u hu
      · rw [if_neg g2]; exact a5 e he
/-- adding the pivot's row to the others that have its column: one column more is done -/
theorem rf_GI_el {N n u : Nat} {X : Nat → Int32} {b : Nat → Nat} {s : Nat → Int32} (h : rf_GI N n X u b s) (hu : u < N) (hp : (b u).testBit u = true) : rf_GI N n X (u + 1) (rf_eb b u N) (rf_es b s u N) := by
  obtain ⟨a1, a2, a3, a4, a5⟩ := h
  have ku : ∀ v, v < u → (b u).testBit v = false := fun v hv => a3 u v (Nat.le_refl _) hu hv
  refine ⟨fun e he => ?_, fun q v hq hv => ?_, fun q v hq hq2 hv => ?_, fun Y hY v hv => ?_, fun e he => ?_⟩
  · rw [rf_eb_at, rf_es_at]
    by_cases g : e < N ∧ e ≠ u ∧ (b e).testBit u = true
    · rw [if_pos g, if_pos g, rf_dot_xor, a1 e he, a1 u hu]
    · rw [if_neg g, if_neg g]; exact a1 e he
  · rw [rf_eb_at]
    by_cases g : q < N ∧ q ≠ u ∧ (b q).testBit u = true
    · rw [if_pos g, Nat.testBit_xor]
      by_cases gv : v = u
      · subst gv; rw [g.2.2, hp]; simp [g.2.1]
      · rw [ku v (by omega), a2 q v (by omega) (by omega)]; simp
    · rw [if_neg g]
      by_cases gq : q = u
      · subst gq
        by_cases gv : v = q
        · subst gv; rw [hp]; simp
        · rw [ku v (by omega)]; exact (decide_eq_false (fun z => gv z.symm)).symm
      · by_cases gv : v = u
        · subst gv
          have : (b q).testBit v = false := by
            cases hb : (b q).testBit v with
            | false => rfl
            | true => exact absurd ⟨by omega, gq, hb⟩ g
          rw [this]; simp [gq]
        · exact a2 q v (by omega) (by omega)
  · rw [rf_eb_at]
    by_cases g : q < N ∧ q ≠ u ∧ (b q).testBit u = true
    · rw [if_pos g, Nat.testBit_xor]
      by_cases gv : v = u
      · subst gv; rw [g.2.2, hp]; rfl
      · rw [ku v (by omega), a3 q v (by omega) hq2 (by omega)]; rfl
    · rw [if_neg g]
      by_cases gv : v = u
      · subst gv
        cases hb : (b q).testBit v with
        | false => rfl
        | true => exact absurd ⟨hq2, by omega, hb⟩ g
      · exact a3 q v (by omega) hq2 (by omega)
  · have hYu : rf_dot (b u) Y n = 0 := by
      have := hY u hu
      rw [rf_eb_at, if_neg (fun z => z.2.1 rfl)] at this
      exact this
    refine a4 Y (fun e he => ?_) v hv
    have := hY e he
    rw [rf_eb_at] at this
    by_cases g : e < N ∧ e ≠ u ∧ (b e).testBit u = true
    · rw [if_pos g, rf_dot_xor, hYu, Int32.xor_zero] at this
      exact this
    · rw [if_neg g] at this; exact this
  · rw [rf_eb_at]
    by_cases g : e < N ∧ e ≠ u ∧ (b e).testBit u = true
    · rw [if_pos g]; exact Nat.xor_lt_two_pow (a5 e he) (a5 u hu)
    · rw [if_neg g]; exact a5 e he
/-- at the end each row has its own unknown alone -/
theorem rf_GI_end {N n : Nat} {X : Nat → Int32} {b : Nat → Nat} {s : Nat → Int32} (h : rf_GI N n X n b s) (hn : n ≤ N) {e : Nat} (he : e < n) : b e = 2 ^ e ∧ s e = X e := by
  obtain ⟨a1, a2, a3, a4, a5⟩ := h
  have hb : b e = 2 ^ e := by
    refine Nat.eq_of_testBit_eq (fun v => ?_)
    rw [Nat.testBit_two_pow]
    by_cases hv : v < n
    · exact a2 e v he hv
    · have h1 : (b e).testBit v = false := Nat.testBit_lt_two_pow (Nat.lt_of_lt_of_le (a5 e (by omega)) (Nat.pow_le_pow_right (by decide) (by omega)))
      rw [h1]
      exact (decide_eq_false (by omega)).symm
  refine ⟨hb, ?_⟩
  rw [a1 e (by omega), hb]
  unfold rf_dot
  have := dr_xs_one (f := fun v => if (2 ^ e).testBit v = true then X v else 0) (g := fun _ => 0) (n := n) (j := e) he (fun k _ hk => by
    rw [Nat.testBit_two_pow]
    rw [if_neg (by simp; exact fun z => hk z.symm)])
  rw [dr_xs_zero (f := fun _ => 0) (fun _ _ => rfl)] at this
  simpa [Nat.testBit_two_pow] using this
end
section
/-! the reference's system of parities: which drives miss, the rows, that they have one solution -/
def rf_mi (g : Nat → Bool) (mi : Nat → Nat) : Nat → (Nat → Nat)
  | 0 => mi
  | d + 1 => if g d = true then va_up (rf_mi g mi d) (dr_cnt g d) d else rf_mi g mi d
/-- the first place below n at which d stands, or n -/
def rf_ix (mi : Nat → Nat) (d : Nat) : Nat → Nat
  | 0 => 0
  | n + 1 => if rf_ix mi d n < n then rf_ix mi d n else if mi n = d then n else n + 1
theorem rf_ix_spec (mi : Nat → Nat) (d : Nat) : ∀ n, rf_ix mi d n ≤ n ∧ (∀ j, j < rf_ix mi d n → mi j ≠ d) ∧ (rf_ix mi d n < n → mi (rf_ix mi d n) = d)
  | 0 => ⟨Nat.le_refl _, fun j hj => absurd hj (Nat.not_lt_zero _), fun h => absurd h (Nat.not_lt_zero _)⟩
  | n + 1 => by
    obtain ⟨h1, h2, h3⟩ := rf_ix_spec mi d n
    rw [rf_ix]
    by_cases g : rf_ix mi d n < n
    · rw [if_pos g]; exact ⟨by omega, h2, fun _ => h3 g⟩
    · have e : rf_ix mi d n = n := by omega
      rw [if_neg g]
      rw [e] at h2
      by_cases g2 : mi n = d
      · rw [if_pos g2]; exact ⟨by omega, h2, fun _ => g2⟩
      · rw [if_neg g2]
        refine ⟨Nat.le_refl _, fun j hj => ?_, fun h => absurd h (Nat.lt_irrefl _)⟩
        by_cases z : j = n
        · rw [z]; exact g2
        · exact h2 j (by omega)
theorem rf_ix_is {mi : Nat → Nat} {d n j : Nat} (hj : j < n) (hd : mi j = d) (hn : ∀ i, i < j → mi i ≠ d) : rf_ix mi d n = j := by
  obtain ⟨h1, h2, h3⟩ := rf_ix_spec mi d n
  rcases Nat.lt_trichotomy (rf_ix mi d n) j with h | h | h
  · exact absurd (h3 (by omega)) (hn _ h)
  · exact h
  · exact absurd hd (h2 j h)
theorem rf_mi_spec (g : Nat → Bool) (mi : Nat → Nat) : ∀ n, (∀ j, j < dr_cnt g n → rf_mi g mi n j < n ∧ g (rf_mi g mi n j) = true) ∧ (∀ i j, i < j → j < dr_cnt g n → rf_mi g mi n i < rf_mi g mi n j) ∧ (∀ d, d < n → g d = true → ∃ j, j < dr_cnt g n ∧ rf_mi g mi n j = d)
  | 0 => ⟨fun j hj => absurd hj (Nat.not_lt_zero _), fun i j _ hj => absurd hj (Nat.not_lt_zero _), fun d hd => absurd hd (Nat.not_lt_zero _)⟩
  | n + 1 => by
    obtain ⟨h1, h2, h3⟩ := rf_mi_spec g mi n
    rw [rf_mi, dr_cnt]
    by_cases e : g n = true
    · rw [if_pos e, if_pos e]
      refine ⟨fun j hj => ?_, fun i j hij hj => ?_, fun d hd hg => ?_⟩
      · by_cases z : j = dr_cnt g n
        · rw [z, va_up_s]; exact ⟨Nat.lt_succ_self _, e⟩
        · rw [va_up_n z]
          obtain ⟨a, b⟩ := h1 j (by omega)
          exact ⟨by omega, b⟩
      · by_cases z : j = dr_cnt g n
        · rw [z, va_up_s, va_up_n (by omega)]
          exact (h1 i (by omega)).1
        · rw [va_up_n z, va_up_n (by omega)]
          exact h2 i j hij (by omega)
      · by_cases z : d = n
        · exact ⟨dr_cnt g n, by omega, by rw [va_up_s, z]⟩
        · obtain ⟨j, hj, hm⟩ := h3 d (by omega) hg
          exact ⟨j, by omega, by rw [va_up_n (by omega)]; exact hm⟩
    · rw [if_neg e, if_neg e, Nat.add_zero]
      refine ⟨fun j hj => ?_, h2, fun d hd hg => ?_⟩
      · obtain ⟨a, b⟩ := h1 j hj
        exact ⟨by omega, b⟩
      · by_cases z : d = n
        · rw [z] at hg; exact absurd hg e
        · exact h3 d (by omega) hg
/-- what a list of the missing drives is -/
def rf_M (P : Nat) (g : Nat → Bool) (nm : Nat) (mi : Nat → Nat) : Prop := (∀ d, d < P → g d = true → rf_ix mi d nm < nm ∧ mi (rf_ix mi d nm) = d) ∧ (∀ d, d < P → g d = false → ¬ rf_ix mi d nm < nm) ∧ (∀ j, j < nm → mi j < P ∧ g (mi j) = true ∧ rf_ix mi (mi j) nm = j)
theorem rf_M_of (P : Nat) (g : Nat → Bool) (mi : Nat → Nat) : rf_M P g (dr_cnt g P) (rf_mi g mi P) := by
  obtain ⟨h1, h2, h3⟩ := rf_mi_spec g mi P
  have h4 : ∀ j, j < dr_cnt g P → rf_ix (rf_mi g mi P) (rf_mi g mi P j) (dr_cnt g P) = j := fun j hj => rf_ix_is hj rfl (fun i hi => Nat.ne_of_lt (h2 i j hi hj))
  refine ⟨fun d hd hg => ?_, fun d hd hg hz => ?_, fun j hj => ⟨(h1 j hj).1, (h1 j hj).2, h4 j hj⟩⟩
  · obtain ⟨j, hj, rfl⟩ := h3 d hd hg
    rw [h4 j hj]; exact ⟨hj, rfl⟩
  · have := (rf_ix_spec (rf_mi g mi P) d (dr_cnt g P)).2.2 hz
    have h5 := (h1 _ hz).2
    rw [this, hg] at h5
    cases h5
/-- one word joins a row -/
def rf_b1 (P : Nat) (mi : Nat → Nat) (nm d k b : Nat) : Nat := if rf_ix mi d nm < nm then b ^^^ 2 ^ (P * rf_ix mi d nm + k) else b
def rf_s1 (mi : Nat → Nat) (nm d : Nat) (x y : Int32) : Int32 := if rf_ix mi d nm < nm then y else y ^^^ x
/-- a row's bits and its sum, up to data word n; w: the words by d * P + k -/
def rf_be (P : Nat) (mi : Nat → Nat) (nm o row : Nat) : Nat → Nat
  | 0 => rf_b1 P mi nm o row 0
  | k + 1 => rf_b1 P mi nm (dr_dd P o k row) k (rf_be P mi nm o row k)
def rf_se (P : Nat) (mi : Nat → Nat) (nm : Nat) (w : Nat → Int32) (o row : Nat) : Nat → Int32
  | 0 => rf_s1 mi nm o (w (o * P + row)) 0
  | k + 1 => rf_s1 mi nm (dr_dd P o k row) (w (dr_dd P o k row * P + k)) (rf_se P mi nm w o row k)
theorem rf_dot_pow (X : Nat → Int32) {e n : Nat} (he : e < n) : rf_dot (2 ^ e) X n = X e := by
  unfold rf_dot
  have := dr_xs_one (f := fun v => if (2 ^ e).testBit v = true then X v else 0) (g := fun _ => 0) (n := n) (j := e) he (fun k _ hk => by
    rw [Nat.testBit_two_pow]
    rw [if_neg (by simp; exact fun z => hk z.symm)])
  rw [dr_xs_zero (f := fun _ => 0) (fun _ _ => rfl)] at this
  simpa [Nat.testBit_two_pow] using this
theorem rf_dot_0 (X : Nat → Int32) (n : Nat) : rf_dot 0 X n = 0 := dr_xs_zero (fun v _ => by simp)
/-- a row, seen through values Z of the unknowns: the words of the missing drives -/
theorem rf_be_dot {P : Nat} (h : dr_P P) {g : Nat → Bool} {nm : Nat} {mi : Nat → Nat} (hM : rf_M P g nm mi) (Z : Nat → Int32) {o row : Nat} (ho : o < P) (hr : dr_row P row) : ∀ n, n ≤ P - 2 →
    rf_dot (rf_be P mi nm o row n) Z (P * nm) = (if g o = true then Z (P * rf_ix mi o nm + row) else 0) ^^^ dr_xs (fun k => if g (dr_dd P o k row) = true then Z (P * rf_ix mi (dr_dd P o k row) nm + k) else 0) n := by
  have hp := h.le
  have one : ∀ d k b, d < P → k < P → rf_dot (rf_b1 P mi nm d k b) Z (P * nm) = rf_dot b Z (P * nm) ^^^ (if g d = true then Z (P * rf_ix mi d nm + k) else 0) := by
    intro d k b hd hk
    unfold rf_b1
    cases hg : g d with
    | true =>
      obtain ⟨h1, -⟩ := hM.1 d hd hg
      have hlt : P * rf_ix mi d nm + k < P * nm := by
        have := Nat.mul_le_mul_left P (show rf_ix mi d nm + 1 ≤ nm from h1)
        rw [Nat.mul_add] at this
        omega
      rw [if_pos h1, rf_dot_xor, rf_dot_pow _ hlt, if_pos rfl]
    | false =>
      rw [if_neg (hM.2.1 d hd hg), if_neg (by decide), Int32.xor_zero]
  intro n
  induction n with
  | zero =>
    intro _
    rw [rf_be, one o row 0 ho (by rcases hr with rfl | rfl <;> omega), rf_dot_0]
    simp [dr_xs]
  | succ n ih =>
    intro hn
    rw [rf_be, one _ n _ (dr_dd_lt h) (by omega), ih (by omega), dr_xs]
    ac_rfl
theorem rf_be_lt {P : Nat} (h : dr_P P) {g : Nat → Bool} {nm : Nat} {mi : Nat → Nat} (hM : rf_M P g nm mi) {o row : Nat} (ho : o < P) (hr : dr_row P row) : ∀ n, n ≤ P - 2 → rf_be P mi nm o row n < 2 ^ (P * nm) := by
  have hp := h.le
  have one : ∀ d k b, d < P → k < P → b < 2 ^ (P * nm) → rf_b1 P mi nm d k b < 2 ^ (P * nm) := by
    intro d k b hd hk hb
    unfold rf_b1
    by_cases h1 : rf_ix mi d nm < nm
    · rw [if_pos h1]
      have hlt : P * rf_ix mi d nm + k < P * nm := by
        have := Nat.mul_le_mul_left P (show rf_ix mi d nm + 1 ≤ nm from h1)
        rw [Nat.mul_add] at this
        omega
      exact Nat.xor_lt_two_pow hb (Nat.pow_lt_pow_right (by decide) hlt)
    · rw [if_neg h1]; exact hb
  intro n
  induction n with
  | zero => intro _; rw [rf_be]; exact one o row 0 ho (by rcases hr with rfl | rfl <;> omega) (Nat.two_pow_pos _)
  | succ n ih => intro hn; rw [rf_be]; exact one _ n _ (dr_dd_lt h) (by omega) (ih (by omega))
theorem rf_se_eq {P : Nat} (h : dr_P P) {g : Nat → Bool} {nm : Nat} {mi : Nat → Nat} (hM : rf_M P g nm mi) {w T : Nat → Int32} (hw : ∀ c, c < P * P → g (c / P) = false → w c = T c) {o row : Nat} (ho : o < P) (hr : dr_row P row) : ∀ n, n ≤ P - 2 →
    rf_se P mi nm w o row n = (if g o = true then 0 else T (o * P + row)) ^^^ dr_xs (fun k => if g (dr_dd P o k row) = true then 0 else T (dr_dd P o k row * P + k)) n := by
  have hp := h.le
  have one : ∀ d k y, d < P → k < P → rf_s1 mi nm d (w (d * P + k)) y = y ^^^ (if g d = true then 0 else T (d * P + k)) := by
    intro d k y hd hk
    unfold rf_s1
    cases hg : g d with
    | true => rw [if_pos (hM.1 d hd hg).1, if_pos rfl, Int32.xor_zero]
    | false => rw [if_neg (hM.2.1 d hd hg), if_neg (by decide), hw _ (dr_pl hd hk) (by rw [dr_pl_div hk]; exact hg)]
  intro n
  induction n with
  | zero =>
    intro _
    rw [rf_se, one o row 0 ho (by rcases hr with rfl | rfl <;> omega)]
    simp [dr_xs]
  | succ n ih =>
    intro hn
    rw [rf_se, one _ n _ (dr_dd_lt h) (by omega), ih (by omega), dr_xs]
    ac_rfl
/-- the values that belong to the unknowns -/
def rf_X (P : Nat) (mi : Nat → Nat) (T : Nat → Int32) (v : Nat) : Int32 := T (mi (v / P) * P + v % P)
theorem rf_X_at {P : Nat} {mi : Nat → Nat} {T : Nat → Int32} {j k : Nat} (hk : k < P) : rf_X P mi T (P * j + k) = T (mi j * P + k) := by
  unfold rf_X
  rw [Nat.mul_add_div (by omega), Nat.div_eq_of_lt hk, Nat.add_zero, Nat.mul_add_mod, Nat.mod_eq_of_lt hk]
def rf_row (P e : Nat) : Nat := if e < P then P - 2 else P - 1
theorem rf_row_ok (P e : Nat) : dr_row P (rf_row P e) := by
  unfold rf_row
  split
  · exact Or.inl rfl
  · exact Or.inr rfl
/-- the system at its start -/
theorem rf_GI_0 {P : Nat} (h : dr_P P) {g : Nat → Bool} {nm : Nat} {mi : Nat → Nat} (hM : rf_M P g nm mi) (hc : dr_cnt g P ≤ 2) {w T : Nat → Int32} (hT : dr_Full P T) (hw : ∀ c, c < P * P → g (c / P) = false → w c = T c)
    {b : Nat → Nat} {s : Nat → Int32} (hb : ∀ e, e < 2 * P → b e = rf_be P mi nm (e % P) (rf_row P e) (P - 2)) (hs : ∀ e, e < 2 * P → s e = rf_se P mi nm w (e % P) (rf_row P e) (P - 2)) : rf_GI (2 * P) (P * nm) (rf_X P mi T) 0 b s := by
  have hp := h.le
  have hp0 : 0 < P := by omega
  refine ⟨fun e he => ?_, fun r v hr => absurd hr (Nat.not_lt_zero _), fun r v _ _ hv => absurd hv (Nat.not_lt_zero _), fun Y hY v hv => ?_, fun e he => ?_⟩
  · have ho := Nat.mod_lt e hp0
    have hr := rf_row_ok P e
    rw [hs e he, hb e he, rf_se_eq h hM hw ho hr _ (Nat.le_refl _), rf_be_dot h hM _ ho hr _ (Nat.le_refl _)]
    have hx : ∀ d k, d < P → k < P → (if g d = true then rf_X P mi T (P * rf_ix mi d nm + k) else 0) = (if g d = true then T (d * P + k) else 0) := by
      intro d k hd hk
      cases hg : g d with
      | true => rw [if_pos rfl, if_pos rfl, rf_X_at hk, (hM.1 d hd hg).2]
      | false => rfl
    rw [hx _ _ ho (by rcases hr with z | z <;> rw [z] <;> omega)]
    rw [dr_xs_congr (f := fun k => if g (dr_dd P (e % P) k (rf_row P e)) = true then rf_X P mi T (P * rf_ix mi (dr_dd P (e % P) k (rf_row P e)) nm + k) else 0) (g := fun k => if g (dr_dd P (e % P) k (rf_row P e)) = true then T (dr_dd P (e % P) k (rf_row P e) * P + k) else 0) (fun k hk => hx _ _ (dr_dd_lt h) (by omega))]
    apply Int32.xor_eq_zero_iff.mp
    rw [dr_xor4, ← dr_xs_xor]
    have hF := hT _ _ ho hr
    have e1 : (if g (e % P) = true then 0 else T (e % P * P + rf_row P e)) ^^^ (if g (e % P) = true then T (e % P * P + rf_row P e) else 0) = T (e % P * P + rf_row P e) := by
      cases g (e % P) <;> simp
    rw [e1, hF]
    apply Int32.xor_eq_zero_iff.mpr
    refine dr_xs_congr (fun k hk => ?_)
    cases g (dr_dd P (e % P) k (rf_row P e)) <;> simp
  · -- another solution would be another full content
    have hfull : dr_Full P (fun c => if g (c / P) = true then T c ^^^ Y (P * rf_ix mi (c / P) nm + c % P) else T c) := by
      intro o row ho hr
      have hrl : row < P := by rcases hr with rfl | rfl <;> omega
      have hb0 : rf_dot (rf_be P mi nm o row (P - 2)) Y (P * nm) = 0 := by
        rcases hr with rfl | rfl
        · have := hY o (by omega)
          rw [hb o (by omega), Nat.mod_eq_of_lt ho, rf_row, if_pos ho] at this
          exact this
        · have := hY (P + o) (by omega)
          rw [hb (P + o) (by omega), Nat.add_mod_left, Nat.mod_eq_of_lt ho, rf_row, if_neg (by omega)] at this
          exact this
      rw [rf_be_dot h hM _ ho hr _ (Nat.le_refl _)] at hb0
      show (if g ((o * P + row) / P) = true then T (o * P + row) ^^^ Y (P * rf_ix mi ((o * P + row) / P) nm + (o * P + row) % P) else T (o * P + row)) = _
      rw [dr_pl_div hrl, dr_pl_mod hrl]
      have e2 : (if g o = true then T (o * P + row) ^^^ Y (P * rf_ix mi o nm + row) else T (o * P + row)) = T (o * P + row) ^^^ (if g o = true then Y (P * rf_ix mi o nm + row) else 0) := by
        cases g o <;> simp
      rw [e2, hT o row ho hr, Int32.xor_eq_zero_iff.mp hb0]
      unfold dr_sum
      rw [← dr_xs_xor]
      refine dr_xs_congr (fun k hk => ?_)
      have hkl : k < P := by omega
      show _ = if g ((dr_dd P o k row * P + k) / P) = true then T (dr_dd P o k row * P + k) ^^^ Y (P * rf_ix mi ((dr_dd P o k row * P + k) / P) nm + (dr_dd P o k row * P + k) % P) else T (dr_dd P o k row * P + k)
      rw [dr_pl_div hkl, dr_pl_mod hkl]
      cases g (dr_dd P o k row) <;> simp
    have hu := dr_unique h hc hT hfull (fun c hc hg => by
      show T c = if g (c / P) = true then _ else T c
      rw [hg]; rfl)
    have hj : v / P < nm := Nat.div_lt_of_lt_mul hv
    have hk := Nat.mod_lt v hp0
    obtain ⟨m1, m2, m3⟩ := hM.2.2 _ hj
    have := hu (mi (v / P) * P + v % P) (dr_pl m1 hk)
    rw [dr_pl_div hk, dr_pl_mod hk, m2, if_pos rfl, m3] at this
    rw [Nat.div_add_mod] at this
    have h3 := congrArg (fun z => T (mi (v / P) * P + v % P) ^^^ z) this
    simpa [← Int32.xor_assoc] using h3.symm
  · rw [hb e he]
    exact rf_be_lt h hM (Nat.mod_lt e hp0) (rf_row_ok P e) _ (Nat.le_refl _)
end
section
theorem dr_any_true {g : Nat → Bool} : ∀ {n i : Nat}, i < n → g i = true → dr_any g n = true
  | 0, i, h, _ => absurd h (Nat.not_lt_zero _)
  | n + 1, i, h, hg => by
    rw [dr_any]
    by_cases e : i = n
    · subst e; rw [hg]; simp
    · rw [dr_any_true (n := n) (i := i) (by omega) hg]; simp
theorem dr_any_false {g : Nat → Bool} : ∀ {n : Nat}, dr_any g n = false ↔ ∀ k, k < n → g k = false
  | 0 => by simp [dr_any]
  | n + 1 => by
    rw [dr_any, Bool.or_eq_false_iff, dr_any_false (n := n)]
    constructor
    · rintro ⟨h1, h2⟩ k hk
      by_cases e : k = n
      · subst e; exact h2
      · exact h1 k (by omega)
    · intro h
      exact ⟨fun k hk => h k (by omega), h n (by omega)⟩
theorem dr_sh_le (P : Nat) (kn : Nat → Bool) (o row : Nat) : ∀ n, dr_sh P kn o row n ≤ n + 1
  | 0 => by rw [dr_sh]; split <;> omega
  | n + 1 => by have := dr_sh_le P kn o row n; rw [dr_sh]; split <;> omega
theorem dr_so_lt {P : Nat} (h : dr_P P) {kn : Nat → Bool} {o row : Nat} (ho : o < P) (hr : dr_row P row) : ∀ n, n ≤ P - 2 → dr_so P kn o row n < P * P
  | 0, _ => by have := h.le; rw [dr_so]; exact dr_pl ho (by rcases hr with rfl | rfl <;> omega)
  | n + 1, hn => by
    have := h.le
    rw [dr_so]
    split
    · exact dr_so_lt h ho hr n (by omega)
    · exact dr_pl (dr_dd_lt h) (by omega)
theorem dr_tl_stop {P : Nat} {x : dr_T} (h : ¬ 0 < x.2.2) : ∀ n, dr_tl P n x = x
  | 0 => rfl
  | n + 1 => by rw [dr_tl, if_neg h]
theorem dr_PP2 {P : Nat} (h : dr_P P) : 15 ≤ P * (P - 2) ∧ P * (P - 2) ≤ 143 := by
  rcases h with rfl | rfl | rfl | rfl <;> decide
theorem dr_un_le (P : Nat) (ms : Nat → Bool) : ∀ n, dr_un P ms n ≤ n * P
  | 0 => by rw [dr_un]; omega
  | n + 1 => by have := dr_un_le P ms n; rw [dr_un, Nat.add_mul]; split <;> omega
end
section
theorem dX0_init_0 : decode cX0_init 0 = .ok (.aload_n 0, 1) := by decide +kernel
theorem dX0_init_1 : decode cX0_init 1 = .ok (.invokespecial 1, 3) := by decide +kernel
theorem dX0_init_4 : decode cX0_init 4 = .ok (.aload_n 0, 1) := by decide +kernel
theorem dX0_init_5 : decode cX0_init 5 = .ok (.iload_n 1, 1) := by decide +kernel
theorem dX0_init_6 : decode cX0_init 6 = .ok (.putfield 7, 3) := by decide +kernel
theorem dX0_init_9 : decode cX0_init 9 = .ok (.aload_n 0, 1) := by decide +kernel
theorem dX0_init_10 : decode cX0_init 10 = .ok (.iload_n 1, 1) := by decide +kernel
theorem dX0_init_11 : decode cX0_init 11 = .ok (.iconst 2, 1) := by decide +kernel
theorem dX0_init_12 : decode cX0_init 12 = .ok (.isub, 1) := by decide +kernel
theorem dX0_init_13 : decode cX0_init 13 = .ok (.putfield 13, 3) := by decide +kernel
theorem dX0_init_16 : decode cX0_init 16 = .ok (.aload_n 0, 1) := by decide +kernel
theorem dX0_init_17 : decode cX0_init 17 = .ok (.iload_n 1, 1) := by decide +kernel
theorem dX0_init_18 : decode cX0_init 18 = .ok (.iconst 1, 1) := by decide +kernel
theorem dX0_init_19 : decode cX0_init 19 = .ok (.isub, 1) := by decide +kernel
theorem dX0_init_20 : decode cX0_init 20 = .ok (.putfield 16, 3) := by decide +kernel
theorem dX0_init_23 : decode cX0_init 23 = .ok (.aload_n 0, 1) := by decide +kernel
theorem dX0_init_24 : decode cX0_init 24 = .ok (.iload_n 1, 1) := by decide +kernel
theorem dX0_init_25 : decode cX0_init 25 = .ok (.iload_n 1, 1) := by decide +kernel
theorem dX0_init_26 : decode cX0_init 26 = .ok (.iconst 2, 1) := by decide +kernel
theorem dX0_init_27 : decode cX0_init 27 = .ok (.isub, 1) := by decide +kernel
theorem dX0_init_28 : decode cX0_init 28 = .ok (.imul, 1) := by decide +kernel
theorem dX0_init_29 : decode cX0_init 29 = .ok (.putfield 19, 3) := by decide +kernel
theorem dX0_init_32 : decode cX0_init 32 = .ok (.return_, 1) := by decide +kernel
theorem dX0_place_0 : decode cX0_place 0 = .ok (.iload_n 1, 1) := by decide +kernel
theorem dX0_place_1 : decode cX0_place 1 = .ok (.aload_n 0, 1) := by decide +kernel
theorem dX0_place_2 : decode cX0_place 2 = .ok (.getfield 7, 3) := by decide +kernel
theorem dX0_place_5 : decode cX0_place 5 = .ok (.imul, 1) := by decide +kernel
theorem dX0_place_6 : decode cX0_place 6 = .ok (.iload_n 2, 1) := by decide +kernel
theorem dX0_place_7 : decode cX0_place 7 = .ok (.iadd, 1) := by decide +kernel
theorem dX0_place_8 : decode cX0_place 8 = .ok (.ireturn, 1) := by decide +kernel
theorem dX0_driveOfBlock_0 : decode cX0_driveOfBlock 0 = .ok (.iload_n 1, 1) := by decide +kernel
theorem dX0_driveOfBlock_1 : decode cX0_driveOfBlock 1 = .ok (.aload_n 0, 1) := by decide +kernel
theorem dX0_driveOfBlock_2 : decode cX0_driveOfBlock 2 = .ok (.getfield 19, 3) := by decide +kernel
theorem dX0_driveOfBlock_5 : decode cX0_driveOfBlock 5 = .ok (.irem, 1) := by decide +kernel
theorem dX0_driveOfBlock_6 : decode cX0_driveOfBlock 6 = .ok (.aload_n 0, 1) := by decide +kernel
theorem dX0_driveOfBlock_7 : decode cX0_driveOfBlock 7 = .ok (.getfield 7, 3) := by decide +kernel
theorem dX0_driveOfBlock_10 : decode cX0_driveOfBlock 10 = .ok (.irem, 1) := by decide +kernel
theorem dX0_driveOfBlock_11 : decode cX0_driveOfBlock 11 = .ok (.ireturn, 1) := by decide +kernel
theorem dX0_wordOfBlock_0 : decode cX0_wordOfBlock 0 = .ok (.iload_n 1, 1) := by decide +kernel
theorem dX0_wordOfBlock_1 : decode cX0_wordOfBlock 1 = .ok (.aload_n 0, 1) := by decide +kernel
theorem dX0_wordOfBlock_2 : decode cX0_wordOfBlock 2 = .ok (.getfield 19, 3) := by decide +kernel
theorem dX0_wordOfBlock_5 : decode cX0_wordOfBlock 5 = .ok (.irem, 1) := by decide +kernel
theorem dX0_wordOfBlock_6 : decode cX0_wordOfBlock 6 = .ok (.aload_n 0, 1) := by decide +kernel
theorem dX0_wordOfBlock_7 : decode cX0_wordOfBlock 7 = .ok (.getfield 7, 3) := by decide +kernel
theorem dX0_wordOfBlock_10 : decode cX0_wordOfBlock 10 = .ok (.idiv, 1) := by decide +kernel
theorem dX0_wordOfBlock_11 : decode cX0_wordOfBlock 11 = .ok (.ireturn, 1) := by decide +kernel
theorem dX0_dataDrive_0 : decode cX0_dataDrive 0 = .ok (.iload_n 1, 1) := by decide +kernel
theorem dX0_dataDrive_1 : decode cX0_dataDrive 1 = .ok (.aload_n 0, 1) := by decide +kernel
theorem dX0_dataDrive_2 : decode cX0_dataDrive 2 = .ok (.iload_n 2, 1) := by decide +kernel
theorem dX0_dataDrive_3 : decode cX0_dataDrive 3 = .ok (.iload_n 3, 1) := by decide +kernel
theorem dX0_dataDrive_4 : decode cX0_dataDrive 4 = .ok (.invokevirtual 22, 3) := by decide +kernel
theorem dX0_dataDrive_7 : decode cX0_dataDrive 7 = .ok (.iadd, 1) := by decide +kernel
theorem dX0_dataDrive_8 : decode cX0_dataDrive 8 = .ok (.aload_n 0, 1) := by decide +kernel
theorem dX0_dataDrive_9 : decode cX0_dataDrive 9 = .ok (.getfield 7, 3) := by decide +kernel
theorem dX0_dataDrive_12 : decode cX0_dataDrive 12 = .ok (.invokestatic 26, 3) := by decide +kernel
theorem dX0_dataDrive_15 : decode cX0_dataDrive 15 = .ok (.ireturn, 1) := by decide +kernel
theorem dX0_parityDrive_0 : decode cX0_parityDrive 0 = .ok (.iload_n 1, 1) := by decide +kernel
theorem dX0_parityDrive_1 : decode cX0_parityDrive 1 = .ok (.aload_n 0, 1) := by decide +kernel
theorem dX0_parityDrive_2 : decode cX0_parityDrive 2 = .ok (.iload_n 2, 1) := by decide +kernel
theorem dX0_parityDrive_3 : decode cX0_parityDrive 3 = .ok (.iload_n 3, 1) := by decide +kernel
theorem dX0_parityDrive_4 : decode cX0_parityDrive 4 = .ok (.invokevirtual 22, 3) := by decide +kernel
theorem dX0_parityDrive_7 : decode cX0_parityDrive 7 = .ok (.isub, 1) := by decide +kernel
theorem dX0_parityDrive_8 : decode cX0_parityDrive 8 = .ok (.aload_n 0, 1) := by decide +kernel
theorem dX0_parityDrive_9 : decode cX0_parityDrive 9 = .ok (.getfield 7, 3) := by decide +kernel
theorem dX0_parityDrive_12 : decode cX0_parityDrive 12 = .ok (.invokestatic 26, 3) := by decide +kernel
theorem dX0_parityDrive_15 : decode cX0_parityDrive 15 = .ok (.ireturn, 1) := by decide +kernel
theorem dX0_step_0 : decode cX0_step 0 = .ok (.iload_n 2, 1) := by decide +kernel
theorem dX0_step_1 : decode cX0_step 1 = .ok (.aload_n 0, 1) := by decide +kernel
theorem dX0_step_2 : decode cX0_step 2 = .ok (.getfield 13, 3) := by decide +kernel
theorem dX0_step_5 : decode cX0_step 5 = .ok (.if_icmp .ne 9, 3) := by decide +kernel
theorem dX0_step_8 : decode cX0_step 8 = .ok (.iload_n 1, 1) := by decide +kernel
theorem dX0_step_9 : decode cX0_step 9 = .ok (.iconst 2, 1) := by decide +kernel
theorem dX0_step_10 : decode cX0_step 10 = .ok (.iadd, 1) := by decide +kernel
theorem dX0_step_11 : decode cX0_step 11 = .ok (.goto 7, 3) := by decide +kernel
theorem dX0_step_14 : decode cX0_step 14 = .ok (.iload_n 1, 1) := by decide +kernel
theorem dX0_step_15 : decode cX0_step 15 = .ok (.ineg, 1) := by decide +kernel
theorem dX0_step_16 : decode cX0_step 16 = .ok (.iconst 2, 1) := by decide +kernel
theorem dX0_step_17 : decode cX0_step 17 = .ok (.isub, 1) := by decide +kernel
theorem dX0_step_18 : decode cX0_step 18 = .ok (.ireturn, 1) := by decide +kernel
theorem dX1_init_0 : decode cX1_init 0 = .ok (.aload_n 0, 1) := by decide +kernel
theorem dX1_init_1 : decode cX1_init 1 = .ok (.invokespecial 3, 3) := by decide +kernel
theorem dX1_init_4 : decode cX1_init 4 = .ok (.aload_n 0, 1) := by decide +kernel
theorem dX1_init_5 : decode cX1_init 5 = .ok (.aload_n 1, 1) := by decide +kernel
theorem dX1_init_6 : decode cX1_init 6 = .ok (.putfield 9, 3) := by decide +kernel
theorem dX1_init_9 : decode cX1_init 9 = .ok (.aload_n 0, 1) := by decide +kernel
theorem dX1_init_10 : decode cX1_init 10 = .ok (.aload_n 1, 1) := by decide +kernel
theorem dX1_init_11 : decode cX1_init 11 = .ok (.getfield 15, 3) := by decide +kernel
theorem dX1_init_14 : decode cX1_init 14 = .ok (.aload_n 1, 1) := by decide +kernel
theorem dX1_init_15 : decode cX1_init 15 = .ok (.getfield 15, 3) := by decide +kernel
theorem dX1_init_18 : decode cX1_init 18 = .ok (.imul, 1) := by decide +kernel
theorem dX1_init_19 : decode cX1_init 19 = .ok (.newarray .int, 2) := by decide +kernel
theorem dX1_init_21 : decode cX1_init 21 = .ok (.putfield 21, 3) := by decide +kernel
theorem dX1_init_24 : decode cX1_init 24 = .ok (.aload_n 0, 1) := by decide +kernel
theorem dX1_init_25 : decode cX1_init 25 = .ok (.aload_n 1, 1) := by decide +kernel
theorem dX1_init_26 : decode cX1_init 26 = .ok (.getfield 15, 3) := by decide +kernel
theorem dX1_init_29 : decode cX1_init 29 = .ok (.newarray .boolean, 2) := by decide +kernel
theorem dX1_init_31 : decode cX1_init 31 = .ok (.putfield 25, 3) := by decide +kernel
theorem dX1_init_34 : decode cX1_init 34 = .ok (.return_, 1) := by decide +kernel
theorem dX1_missingDrives_0 : decode cX1_missingDrives 0 = .ok (.iconst 0, 1) := by decide +kernel
theorem dX1_missingDrives_1 : decode cX1_missingDrives 1 = .ok (.istore_n 1, 1) := by decide +kernel
theorem dX1_missingDrives_2 : decode cX1_missingDrives 2 = .ok (.iconst 0, 1) := by decide +kernel
theorem dX1_missingDrives_3 : decode cX1_missingDrives 3 = .ok (.istore_n 2, 1) := by decide +kernel
theorem dX1_missingDrives_4 : decode cX1_missingDrives 4 = .ok (.iload_n 2, 1) := by decide +kernel
theorem dX1_missingDrives_5 : decode cX1_missingDrives 5 = .ok (.aload_n 0, 1) := by decide +kernel
theorem dX1_missingDrives_6 : decode cX1_missingDrives 6 = .ok (.getfield 9, 3) := by decide +kernel
theorem dX1_missingDrives_9 : decode cX1_missingDrives 9 = .ok (.getfield 15, 3) := by decide +kernel
theorem dX1_missingDrives_12 : decode cX1_missingDrives 12 = .ok (.if_icmp .ge 21, 3) := by decide +kernel
theorem dX1_missingDrives_15 : decode cX1_missingDrives 15 = .ok (.aload_n 0, 1) := by decide +kernel
theorem dX1_missingDrives_16 : decode cX1_missingDrives 16 = .ok (.getfield 25, 3) := by decide +kernel
theorem dX1_missingDrives_19 : decode cX1_missingDrives 19 = .ok (.iload_n 2, 1) := by decide +kernel
theorem dX1_missingDrives_20 : decode cX1_missingDrives 20 = .ok (.baload, 1) := by decide +kernel
theorem dX1_missingDrives_21 : decode cX1_missingDrives 21 = .ok (.ifCond .eq 6, 3) := by decide +kernel
theorem dX1_missingDrives_24 : decode cX1_missingDrives 24 = .ok (.iinc 1  1, 3) := by decide +kernel
theorem dX1_missingDrives_27 : decode cX1_missingDrives 27 = .ok (.iinc 2  1, 3) := by decide +kernel
theorem dX1_missingDrives_30 : decode cX1_missingDrives 30 = .ok (.goto (-26), 3) := by decide +kernel
theorem dX1_missingDrives_33 : decode cX1_missingDrives 33 = .ok (.iload_n 1, 1) := by decide +kernel
theorem dX1_missingDrives_34 : decode cX1_missingDrives 34 = .ok (.ireturn, 1) := by decide +kernel
theorem dX1_isUnsure_0 : decode cX1_isUnsure 0 = .ok (.aload_n 0, 1) := by decide +kernel
theorem dX1_isUnsure_1 : decode cX1_isUnsure 1 = .ok (.getfield 29, 3) := by decide +kernel
theorem dX1_isUnsure_4 : decode cX1_isUnsure 4 = .ok (.ifCond .eq 14, 3) := by decide +kernel
theorem dX1_isUnsure_7 : decode cX1_isUnsure 7 = .ok (.aload_n 0, 1) := by decide +kernel
theorem dX1_isUnsure_8 : decode cX1_isUnsure 8 = .ok (.invokevirtual 33, 3) := by decide +kernel
theorem dX1_isUnsure_11 : decode cX1_isUnsure 11 = .ok (.ifCond .le 7, 3) := by decide +kernel
theorem dX1_isUnsure_14 : decode cX1_isUnsure 14 = .ok (.iconst 1, 1) := by decide +kernel
theorem dX1_isUnsure_15 : decode cX1_isUnsure 15 = .ok (.goto 4, 3) := by decide +kernel
theorem dX1_isUnsure_18 : decode cX1_isUnsure 18 = .ok (.iconst 0, 1) := by decide +kernel
theorem dX1_isUnsure_19 : decode cX1_isUnsure 19 = .ok (.ireturn, 1) := by decide +kernel
theorem dX1_isTold_0 : decode cX1_isTold 0 = .ok (.aload_n 0, 1) := by decide +kernel
theorem dX1_isTold_1 : decode cX1_isTold 1 = .ok (.getfield 29, 3) := by decide +kernel
theorem dX1_isTold_4 : decode cX1_isTold 4 = .ok (.ifCond .ne 15, 3) := by decide +kernel
theorem dX1_isTold_7 : decode cX1_isTold 7 = .ok (.aload_n 0, 1) := by decide +kernel
theorem dX1_isTold_8 : decode cX1_isTold 8 = .ok (.invokevirtual 33, 3) := by decide +kernel
theorem dX1_isTold_11 : decode cX1_isTold 11 = .ok (.iconst 2, 1) := by decide +kernel
theorem dX1_isTold_12 : decode cX1_isTold 12 = .ok (.if_icmp .gt 7, 3) := by decide +kernel
theorem dX1_isTold_15 : decode cX1_isTold 15 = .ok (.iconst 1, 1) := by decide +kernel
theorem dX1_isTold_16 : decode cX1_isTold 16 = .ok (.goto 4, 3) := by decide +kernel
theorem dX1_isTold_19 : decode cX1_isTold 19 = .ok (.iconst 0, 1) := by decide +kernel
theorem dX1_isTold_20 : decode cX1_isTold 20 = .ok (.ireturn, 1) := by decide +kernel
theorem dX1_drop_0 : decode cX1_drop 0 = .ok (.aload_n 0, 1) := by decide +kernel
theorem dX1_drop_1 : decode cX1_drop 1 = .ok (.getfield 25, 3) := by decide +kernel
theorem dX1_drop_4 : decode cX1_drop 4 = .ok (.iload_n 1, 1) := by decide +kernel
theorem dX1_drop_5 : decode cX1_drop 5 = .ok (.iconst 1, 1) := by decide +kernel
theorem dX1_drop_6 : decode cX1_drop 6 = .ok (.bastore, 1) := by decide +kernel
theorem dX1_drop_7 : decode cX1_drop 7 = .ok (.iconst 0, 1) := by decide +kernel
theorem dX1_drop_8 : decode cX1_drop 8 = .ok (.istore_n 2, 1) := by decide +kernel
theorem dX1_drop_9 : decode cX1_drop 9 = .ok (.iload_n 2, 1) := by decide +kernel
theorem dX1_drop_10 : decode cX1_drop 10 = .ok (.aload_n 0, 1) := by decide +kernel
theorem dX1_drop_11 : decode cX1_drop 11 = .ok (.getfield 9, 3) := by decide +kernel
theorem dX1_drop_14 : decode cX1_drop 14 = .ok (.getfield 15, 3) := by decide +kernel
theorem dX1_drop_17 : decode cX1_drop 17 = .ok (.if_icmp .ge 24, 3) := by decide +kernel
theorem dX1_drop_20 : decode cX1_drop 20 = .ok (.aload_n 0, 1) := by decide +kernel
theorem dX1_drop_21 : decode cX1_drop 21 = .ok (.getfield 21, 3) := by decide +kernel
theorem dX1_drop_24 : decode cX1_drop 24 = .ok (.aload_n 0, 1) := by decide +kernel
theorem dX1_drop_25 : decode cX1_drop 25 = .ok (.getfield 9, 3) := by decide +kernel
theorem dX1_drop_28 : decode cX1_drop 28 = .ok (.iload_n 1, 1) := by decide +kernel
theorem dX1_drop_29 : decode cX1_drop 29 = .ok (.iload_n 2, 1) := by decide +kernel
theorem dX1_drop_30 : decode cX1_drop 30 = .ok (.invokevirtual 37, 3) := by decide +kernel
theorem dX1_drop_33 : decode cX1_drop 33 = .ok (.iconst 0, 1) := by decide +kernel
theorem dX1_drop_34 : decode cX1_drop 34 = .ok (.iastore, 1) := by decide +kernel
theorem dX1_drop_35 : decode cX1_drop 35 = .ok (.iinc 2  1, 3) := by decide +kernel
theorem dX1_drop_38 : decode cX1_drop 38 = .ok (.goto (-29), 3) := by decide +kernel
theorem dX1_drop_41 : decode cX1_drop 41 = .ok (.return_, 1) := by decide +kernel
theorem dX1_renewParities_0 : decode cX1_renewParities 0 = .ok (.iconst 0, 1) := by decide +kernel
theorem dX1_renewParities_1 : decode cX1_renewParities 1 = .ok (.istore_n 1, 1) := by decide +kernel
theorem dX1_renewParities_2 : decode cX1_renewParities 2 = .ok (.iload_n 1, 1) := by decide +kernel
theorem dX1_renewParities_3 : decode cX1_renewParities 3 = .ok (.aload_n 0, 1) := by decide +kernel
theorem dX1_renewParities_4 : decode cX1_renewParities 4 = .ok (.getfield 9, 3) := by decide +kernel
theorem dX1_renewParities_7 : decode cX1_renewParities 7 = .ok (.getfield 15, 3) := by decide +kernel
theorem dX1_renewParities_10 : decode cX1_renewParities 10 = .ok (.if_icmp .ge 73, 3) := by decide +kernel
theorem dX1_renewParities_13 : decode cX1_renewParities 13 = .ok (.aload_n 0, 1) := by decide +kernel
theorem dX1_renewParities_14 : decode cX1_renewParities 14 = .ok (.getfield 21, 3) := by decide +kernel
theorem dX1_renewParities_17 : decode cX1_renewParities 17 = .ok (.aload_n 0, 1) := by decide +kernel
theorem dX1_renewParities_18 : decode cX1_renewParities 18 = .ok (.getfield 9, 3) := by decide +kernel
theorem dX1_renewParities_21 : decode cX1_renewParities 21 = .ok (.iload_n 1, 1) := by decide +kernel
theorem dX1_renewParities_22 : decode cX1_renewParities 22 = .ok (.aload_n 0, 1) := by decide +kernel
theorem dX1_renewParities_23 : decode cX1_renewParities 23 = .ok (.getfield 9, 3) := by decide +kernel
theorem dX1_renewParities_26 : decode cX1_renewParities 26 = .ok (.getfield 41, 3) := by decide +kernel
theorem dX1_renewParities_29 : decode cX1_renewParities 29 = .ok (.invokevirtual 37, 3) := by decide +kernel
theorem dX1_renewParities_32 : decode cX1_renewParities 32 = .ok (.aload_n 0, 1) := by decide +kernel
theorem dX1_renewParities_33 : decode cX1_renewParities 33 = .ok (.iload_n 1, 1) := by decide +kernel
theorem dX1_renewParities_34 : decode cX1_renewParities 34 = .ok (.aload_n 0, 1) := by decide +kernel
theorem dX1_renewParities_35 : decode cX1_renewParities 35 = .ok (.getfield 9, 3) := by decide +kernel
theorem dX1_renewParities_38 : decode cX1_renewParities 38 = .ok (.getfield 41, 3) := by decide +kernel
theorem dX1_renewParities_41 : decode cX1_renewParities 41 = .ok (.invokevirtual 44, 3) := by decide +kernel
theorem dX1_renewParities_44 : decode cX1_renewParities 44 = .ok (.iastore, 1) := by decide +kernel
theorem dX1_renewParities_45 : decode cX1_renewParities 45 = .ok (.aload_n 0, 1) := by decide +kernel
theorem dX1_renewParities_46 : decode cX1_renewParities 46 = .ok (.getfield 21, 3) := by decide +kernel
theorem dX1_renewParities_49 : decode cX1_renewParities 49 = .ok (.aload_n 0, 1) := by decide +kernel
theorem dX1_renewParities_50 : decode cX1_renewParities 50 = .ok (.getfield 9, 3) := by decide +kernel
theorem dX1_renewParities_53 : decode cX1_renewParities 53 = .ok (.iload_n 1, 1) := by decide +kernel
theorem dX1_renewParities_54 : decode cX1_renewParities 54 = .ok (.aload_n 0, 1) := by decide +kernel
theorem dX1_renewParities_55 : decode cX1_renewParities 55 = .ok (.getfield 9, 3) := by decide +kernel
theorem dX1_renewParities_58 : decode cX1_renewParities 58 = .ok (.getfield 47, 3) := by decide +kernel
theorem dX1_renewParities_61 : decode cX1_renewParities 61 = .ok (.invokevirtual 37, 3) := by decide +kernel
theorem dX1_renewParities_64 : decode cX1_renewParities 64 = .ok (.aload_n 0, 1) := by decide +kernel
theorem dX1_renewParities_65 : decode cX1_renewParities 65 = .ok (.iload_n 1, 1) := by decide +kernel
theorem dX1_renewParities_66 : decode cX1_renewParities 66 = .ok (.aload_n 0, 1) := by decide +kernel
theorem dX1_renewParities_67 : decode cX1_renewParities 67 = .ok (.getfield 9, 3) := by decide +kernel
theorem dX1_renewParities_70 : decode cX1_renewParities 70 = .ok (.getfield 47, 3) := by decide +kernel
theorem dX1_renewParities_73 : decode cX1_renewParities 73 = .ok (.invokevirtual 44, 3) := by decide +kernel
theorem dX1_renewParities_76 : decode cX1_renewParities 76 = .ok (.iastore, 1) := by decide +kernel
theorem dX1_renewParities_77 : decode cX1_renewParities 77 = .ok (.iinc 1  1, 3) := by decide +kernel
theorem dX1_renewParities_80 : decode cX1_renewParities 80 = .ok (.goto (-78), 3) := by decide +kernel
theorem dX1_renewParities_83 : decode cX1_renewParities 83 = .ok (.return_, 1) := by decide +kernel
theorem dX1_agreeingParities_0 : decode cX1_agreeingParities 0 = .ok (.iconst 0, 1) := by decide +kernel
theorem dX1_agreeingParities_1 : decode cX1_agreeingParities 1 = .ok (.istore_n 1, 1) := by decide +kernel
theorem dX1_agreeingParities_2 : decode cX1_agreeingParities 2 = .ok (.iconst 0, 1) := by decide +kernel
theorem dX1_agreeingParities_3 : decode cX1_agreeingParities 3 = .ok (.istore_n 2, 1) := by decide +kernel
theorem dX1_agreeingParities_4 : decode cX1_agreeingParities 4 = .ok (.iload_n 2, 1) := by decide +kernel
theorem dX1_agreeingParities_5 : decode cX1_agreeingParities 5 = .ok (.aload_n 0, 1) := by decide +kernel
theorem dX1_agreeingParities_6 : decode cX1_agreeingParities 6 = .ok (.getfield 9, 3) := by decide +kernel
theorem dX1_agreeingParities_9 : decode cX1_agreeingParities 9 = .ok (.getfield 15, 3) := by decide +kernel
theorem dX1_agreeingParities_12 : decode cX1_agreeingParities 12 = .ok (.if_icmp .ge 45, 3) := by decide +kernel
theorem dX1_agreeingParities_15 : decode cX1_agreeingParities 15 = .ok (.aload_n 0, 1) := by decide +kernel
theorem dX1_agreeingParities_16 : decode cX1_agreeingParities 16 = .ok (.iload_n 2, 1) := by decide +kernel
theorem dX1_agreeingParities_17 : decode cX1_agreeingParities 17 = .ok (.aload_n 0, 1) := by decide +kernel
theorem dX1_agreeingParities_18 : decode cX1_agreeingParities 18 = .ok (.getfield 9, 3) := by decide +kernel
theorem dX1_agreeingParities_21 : decode cX1_agreeingParities 21 = .ok (.getfield 41, 3) := by decide +kernel
theorem dX1_agreeingParities_24 : decode cX1_agreeingParities 24 = .ok (.invokevirtual 50, 3) := by decide +kernel
theorem dX1_agreeingParities_27 : decode cX1_agreeingParities 27 = .ok (.ifCond .eq 6, 3) := by decide +kernel
theorem dX1_agreeingParities_30 : decode cX1_agreeingParities 30 = .ok (.iinc 1  1, 3) := by decide +kernel
theorem dX1_agreeingParities_33 : decode cX1_agreeingParities 33 = .ok (.aload_n 0, 1) := by decide +kernel
theorem dX1_agreeingParities_34 : decode cX1_agreeingParities 34 = .ok (.iload_n 2, 1) := by decide +kernel
theorem dX1_agreeingParities_35 : decode cX1_agreeingParities 35 = .ok (.aload_n 0, 1) := by decide +kernel
theorem dX1_agreeingParities_36 : decode cX1_agreeingParities 36 = .ok (.getfield 9, 3) := by decide +kernel
theorem dX1_agreeingParities_39 : decode cX1_agreeingParities 39 = .ok (.getfield 47, 3) := by decide +kernel
theorem dX1_agreeingParities_42 : decode cX1_agreeingParities 42 = .ok (.invokevirtual 50, 3) := by decide +kernel
theorem dX1_agreeingParities_45 : decode cX1_agreeingParities 45 = .ok (.ifCond .eq 6, 3) := by decide +kernel
theorem dX1_agreeingParities_48 : decode cX1_agreeingParities 48 = .ok (.iinc 1  1, 3) := by decide +kernel
theorem dX1_agreeingParities_51 : decode cX1_agreeingParities 51 = .ok (.iinc 2  1, 3) := by decide +kernel
theorem dX1_agreeingParities_54 : decode cX1_agreeingParities 54 = .ok (.goto (-50), 3) := by decide +kernel
theorem dX1_agreeingParities_57 : decode cX1_agreeingParities 57 = .ok (.iload_n 1, 1) := by decide +kernel
theorem dX1_agreeingParities_58 : decode cX1_agreeingParities 58 = .ok (.ireturn, 1) := by decide +kernel
theorem dX1_agrees_0 : decode cX1_agrees 0 = .ok (.aload_n 0, 1) := by decide +kernel
theorem dX1_agrees_1 : decode cX1_agrees 1 = .ok (.iload_n 1, 1) := by decide +kernel
theorem dX1_agrees_2 : decode cX1_agrees 2 = .ok (.iload_n 2, 1) := by decide +kernel
theorem dX1_agrees_3 : decode cX1_agrees 3 = .ok (.invokevirtual 54, 3) := by decide +kernel
theorem dX1_agrees_6 : decode cX1_agrees 6 = .ok (.ifCond .eq 30, 3) := by decide +kernel
theorem dX1_agrees_9 : decode cX1_agrees 9 = .ok (.aload_n 0, 1) := by decide +kernel
theorem dX1_agrees_10 : decode cX1_agrees 10 = .ok (.getfield 21, 3) := by decide +kernel
theorem dX1_agrees_13 : decode cX1_agrees 13 = .ok (.aload_n 0, 1) := by decide +kernel
theorem dX1_agrees_14 : decode cX1_agrees 14 = .ok (.getfield 9, 3) := by decide +kernel
theorem dX1_agrees_17 : decode cX1_agrees 17 = .ok (.iload_n 1, 1) := by decide +kernel
theorem dX1_agrees_18 : decode cX1_agrees 18 = .ok (.iload_n 2, 1) := by decide +kernel
theorem dX1_agrees_19 : decode cX1_agrees 19 = .ok (.invokevirtual 37, 3) := by decide +kernel
theorem dX1_agrees_22 : decode cX1_agrees 22 = .ok (.iaload, 1) := by decide +kernel
theorem dX1_agrees_23 : decode cX1_agrees 23 = .ok (.aload_n 0, 1) := by decide +kernel
theorem dX1_agrees_24 : decode cX1_agrees 24 = .ok (.iload_n 1, 1) := by decide +kernel
theorem dX1_agrees_25 : decode cX1_agrees 25 = .ok (.iload_n 2, 1) := by decide +kernel
theorem dX1_agrees_26 : decode cX1_agrees 26 = .ok (.invokevirtual 44, 3) := by decide +kernel
theorem dX1_agrees_29 : decode cX1_agrees 29 = .ok (.if_icmp .ne 7, 3) := by decide +kernel
theorem dX1_agrees_32 : decode cX1_agrees 32 = .ok (.iconst 1, 1) := by decide +kernel
theorem dX1_agrees_33 : decode cX1_agrees 33 = .ok (.goto 4, 3) := by decide +kernel
theorem dX1_agrees_36 : decode cX1_agrees 36 = .ok (.iconst 0, 1) := by decide +kernel
theorem dX1_agrees_37 : decode cX1_agrees 37 = .ok (.ireturn, 1) := by decide +kernel
theorem dX1_isWhole_0 : decode cX1_isWhole 0 = .ok (.iconst 0, 1) := by decide +kernel
theorem dX1_isWhole_1 : decode cX1_isWhole 1 = .ok (.istore_n 3, 1) := by decide +kernel
theorem dX1_isWhole_2 : decode cX1_isWhole 2 = .ok (.iload_n 3, 1) := by decide +kernel
theorem dX1_isWhole_3 : decode cX1_isWhole 3 = .ok (.aload_n 0, 1) := by decide +kernel
theorem dX1_isWhole_4 : decode cX1_isWhole 4 = .ok (.getfield 9, 3) := by decide +kernel
theorem dX1_isWhole_7 : decode cX1_isWhole 7 = .ok (.getfield 41, 3) := by decide +kernel
theorem dX1_isWhole_10 : decode cX1_isWhole 10 = .ok (.if_icmp .ge 29, 3) := by decide +kernel
theorem dX1_isWhole_13 : decode cX1_isWhole 13 = .ok (.aload_n 0, 1) := by decide +kernel
theorem dX1_isWhole_14 : decode cX1_isWhole 14 = .ok (.getfield 25, 3) := by decide +kernel
theorem dX1_isWhole_17 : decode cX1_isWhole 17 = .ok (.aload_n 0, 1) := by decide +kernel
theorem dX1_isWhole_18 : decode cX1_isWhole 18 = .ok (.getfield 9, 3) := by decide +kernel
theorem dX1_isWhole_21 : decode cX1_isWhole 21 = .ok (.iload_n 1, 1) := by decide +kernel
theorem dX1_isWhole_22 : decode cX1_isWhole 22 = .ok (.iload_n 3, 1) := by decide +kernel
theorem dX1_isWhole_23 : decode cX1_isWhole 23 = .ok (.iload_n 2, 1) := by decide +kernel
theorem dX1_isWhole_24 : decode cX1_isWhole 24 = .ok (.invokevirtual 57, 3) := by decide +kernel
theorem dX1_isWhole_27 : decode cX1_isWhole 27 = .ok (.baload, 1) := by decide +kernel
theorem dX1_isWhole_28 : decode cX1_isWhole 28 = .ok (.ifCond .eq 5, 3) := by decide +kernel
theorem dX1_isWhole_31 : decode cX1_isWhole 31 = .ok (.iconst 0, 1) := by decide +kernel
theorem dX1_isWhole_32 : decode cX1_isWhole 32 = .ok (.ireturn, 1) := by decide +kernel
theorem dX1_isWhole_33 : decode cX1_isWhole 33 = .ok (.iinc 3  1, 3) := by decide +kernel
theorem dX1_isWhole_36 : decode cX1_isWhole 36 = .ok (.goto (-34), 3) := by decide +kernel
theorem dX1_isWhole_39 : decode cX1_isWhole 39 = .ok (.aload_n 0, 1) := by decide +kernel
theorem dX1_isWhole_40 : decode cX1_isWhole 40 = .ok (.getfield 25, 3) := by decide +kernel
theorem dX1_isWhole_43 : decode cX1_isWhole 43 = .ok (.iload_n 1, 1) := by decide +kernel
theorem dX1_isWhole_44 : decode cX1_isWhole 44 = .ok (.baload, 1) := by decide +kernel
theorem dX1_isWhole_45 : decode cX1_isWhole 45 = .ok (.ifCond .ne 7, 3) := by decide +kernel
theorem dX1_isWhole_48 : decode cX1_isWhole 48 = .ok (.iconst 1, 1) := by decide +kernel
theorem dX1_isWhole_49 : decode cX1_isWhole 49 = .ok (.goto 4, 3) := by decide +kernel
theorem dX1_isWhole_52 : decode cX1_isWhole 52 = .ok (.iconst 0, 1) := by decide +kernel
theorem dX1_isWhole_53 : decode cX1_isWhole 53 = .ok (.ireturn, 1) := by decide +kernel
theorem dX1_dataSum_0 : decode cX1_dataSum 0 = .ok (.iconst 0, 1) := by decide +kernel
theorem dX1_dataSum_1 : decode cX1_dataSum 1 = .ok (.istore_n 3, 1) := by decide +kernel
theorem dX1_dataSum_2 : decode cX1_dataSum 2 = .ok (.iconst 0, 1) := by decide +kernel
theorem dX1_dataSum_3 : decode cX1_dataSum 3 = .ok (.istore 4, 2) := by decide +kernel
theorem dX1_dataSum_5 : decode cX1_dataSum 5 = .ok (.iload 4, 2) := by decide +kernel
theorem dX1_dataSum_7 : decode cX1_dataSum 7 = .ok (.aload_n 0, 1) := by decide +kernel
theorem dX1_dataSum_8 : decode cX1_dataSum 8 = .ok (.getfield 9, 3) := by decide +kernel
theorem dX1_dataSum_11 : decode cX1_dataSum 11 = .ok (.getfield 41, 3) := by decide +kernel
theorem dX1_dataSum_14 : decode cX1_dataSum 14 = .ok (.if_icmp .ge 37, 3) := by decide +kernel
theorem dX1_dataSum_17 : decode cX1_dataSum 17 = .ok (.iload_n 3, 1) := by decide +kernel
theorem dX1_dataSum_18 : decode cX1_dataSum 18 = .ok (.aload_n 0, 1) := by decide +kernel
theorem dX1_dataSum_19 : decode cX1_dataSum 19 = .ok (.getfield 21, 3) := by decide +kernel
theorem dX1_dataSum_22 : decode cX1_dataSum 22 = .ok (.aload_n 0, 1) := by decide +kernel
theorem dX1_dataSum_23 : decode cX1_dataSum 23 = .ok (.getfield 9, 3) := by decide +kernel
theorem dX1_dataSum_26 : decode cX1_dataSum 26 = .ok (.aload_n 0, 1) := by decide +kernel
theorem dX1_dataSum_27 : decode cX1_dataSum 27 = .ok (.getfield 9, 3) := by decide +kernel
theorem dX1_dataSum_30 : decode cX1_dataSum 30 = .ok (.iload_n 1, 1) := by decide +kernel
theorem dX1_dataSum_31 : decode cX1_dataSum 31 = .ok (.iload 4, 2) := by decide +kernel
theorem dX1_dataSum_33 : decode cX1_dataSum 33 = .ok (.iload_n 2, 1) := by decide +kernel
theorem dX1_dataSum_34 : decode cX1_dataSum 34 = .ok (.invokevirtual 57, 3) := by decide +kernel
theorem dX1_dataSum_37 : decode cX1_dataSum 37 = .ok (.iload 4, 2) := by decide +kernel
theorem dX1_dataSum_39 : decode cX1_dataSum 39 = .ok (.invokevirtual 37, 3) := by decide +kernel
theorem dX1_dataSum_42 : decode cX1_dataSum 42 = .ok (.iaload, 1) := by decide +kernel
theorem dX1_dataSum_43 : decode cX1_dataSum 43 = .ok (.ixor, 1) := by decide +kernel
theorem dX1_dataSum_44 : decode cX1_dataSum 44 = .ok (.istore_n 3, 1) := by decide +kernel
theorem dX1_dataSum_45 : decode cX1_dataSum 45 = .ok (.iinc 4  1, 3) := by decide +kernel
theorem dX1_dataSum_48 : decode cX1_dataSum 48 = .ok (.goto (-43), 3) := by decide +kernel
theorem dX1_dataSum_51 : decode cX1_dataSum 51 = .ok (.iload_n 3, 1) := by decide +kernel
theorem dX1_dataSum_52 : decode cX1_dataSum 52 = .ok (.ireturn, 1) := by decide +kernel
theorem dX2_init_0 : decode cX2_init 0 = .ok (.aload_n 0, 1) := by decide +kernel
theorem dX2_init_1 : decode cX2_init 1 = .ok (.invokespecial 1, 3) := by decide +kernel
theorem dX2_init_4 : decode cX2_init 4 = .ok (.aload_n 0, 1) := by decide +kernel
theorem dX2_init_5 : decode cX2_init 5 = .ok (.aload_n 1, 1) := by decide +kernel
theorem dX2_init_6 : decode cX2_init 6 = .ok (.putfield 7, 3) := by decide +kernel
theorem dX2_init_9 : decode cX2_init 9 = .ok (.aload_n 0, 1) := by decide +kernel
theorem dX2_init_10 : decode cX2_init 10 = .ok (.aload_n 1, 1) := by decide +kernel
theorem dX2_init_11 : decode cX2_init 11 = .ok (.getfield 13, 3) := by decide +kernel
theorem dX2_init_14 : decode cX2_init 14 = .ok (.aload_n 1, 1) := by decide +kernel
theorem dX2_init_15 : decode cX2_init 15 = .ok (.getfield 13, 3) := by decide +kernel
theorem dX2_init_18 : decode cX2_init 18 = .ok (.imul, 1) := by decide +kernel
theorem dX2_init_19 : decode cX2_init 19 = .ok (.newarray .int, 2) := by decide +kernel
theorem dX2_init_21 : decode cX2_init 21 = .ok (.putfield 19, 3) := by decide +kernel
theorem dX2_init_24 : decode cX2_init 24 = .ok (.aload_n 0, 1) := by decide +kernel
theorem dX2_init_25 : decode cX2_init 25 = .ok (.aload_n 1, 1) := by decide +kernel
theorem dX2_init_26 : decode cX2_init 26 = .ok (.getfield 13, 3) := by decide +kernel
theorem dX2_init_29 : decode cX2_init 29 = .ok (.aload_n 1, 1) := by decide +kernel
theorem dX2_init_30 : decode cX2_init 30 = .ok (.getfield 13, 3) := by decide +kernel
theorem dX2_init_33 : decode cX2_init 33 = .ok (.imul, 1) := by decide +kernel
theorem dX2_init_34 : decode cX2_init 34 = .ok (.newarray .boolean, 2) := by decide +kernel
theorem dX2_init_36 : decode cX2_init 36 = .ok (.putfield 23, 3) := by decide +kernel
theorem dX2_init_39 : decode cX2_init 39 = .ok (.return_, 1) := by decide +kernel
theorem dX2_tell_0 : decode cX2_tell 0 = .ok (.aload_n 0, 1) := by decide +kernel
theorem dX2_tell_1 : decode cX2_tell 1 = .ok (.aload_n 1, 1) := by decide +kernel
theorem dX2_tell_2 : decode cX2_tell 2 = .ok (.invokevirtual 27, 3) := by decide +kernel
theorem dX2_tell_5 : decode cX2_tell 5 = .ok (.aload_n 0, 1) := by decide +kernel
theorem dX2_tell_6 : decode cX2_tell 6 = .ok (.getfield 31, 3) := by decide +kernel
theorem dX2_tell_9 : decode cX2_tell 9 = .ok (.istore_n 2, 1) := by decide +kernel
theorem dX2_tell_10 : decode cX2_tell 10 = .ok (.iconst 0, 1) := by decide +kernel
theorem dX2_tell_11 : decode cX2_tell 11 = .ok (.istore_n 3, 1) := by decide +kernel
theorem dX2_tell_12 : decode cX2_tell 12 = .ok (.iload_n 3, 1) := by decide +kernel
theorem dX2_tell_13 : decode cX2_tell 13 = .ok (.iload_n 2, 1) := by decide +kernel
theorem dX2_tell_14 : decode cX2_tell 14 = .ok (.if_icmp .ge 63, 3) := by decide +kernel
theorem dX2_tell_17 : decode cX2_tell 17 = .ok (.aload_n 0, 1) := by decide +kernel
theorem dX2_tell_18 : decode cX2_tell 18 = .ok (.getfield 31, 3) := by decide +kernel
theorem dX2_tell_21 : decode cX2_tell 21 = .ok (.ifCond .le 56, 3) := by decide +kernel
theorem dX2_tell_24 : decode cX2_tell 24 = .ok (.iconst 0, 1) := by decide +kernel
theorem dX2_tell_25 : decode cX2_tell 25 = .ok (.istore 4, 2) := by decide +kernel
theorem dX2_tell_27 : decode cX2_tell 27 = .ok (.iload 4, 2) := by decide +kernel
theorem dX2_tell_29 : decode cX2_tell 29 = .ok (.aload_n 0, 1) := by decide +kernel
theorem dX2_tell_30 : decode cX2_tell 30 = .ok (.getfield 7, 3) := by decide +kernel
theorem dX2_tell_33 : decode cX2_tell 33 = .ok (.getfield 13, 3) := by decide +kernel
theorem dX2_tell_36 : decode cX2_tell 36 = .ok (.if_icmp .ge 35, 3) := by decide +kernel
theorem dX2_tell_39 : decode cX2_tell 39 = .ok (.aload_n 0, 1) := by decide +kernel
theorem dX2_tell_40 : decode cX2_tell 40 = .ok (.iload 4, 2) := by decide +kernel
theorem dX2_tell_42 : decode cX2_tell 42 = .ok (.aload_n 0, 1) := by decide +kernel
theorem dX2_tell_43 : decode cX2_tell 43 = .ok (.getfield 7, 3) := by decide +kernel
theorem dX2_tell_46 : decode cX2_tell 46 = .ok (.getfield 34, 3) := by decide +kernel
theorem dX2_tell_49 : decode cX2_tell 49 = .ok (.invokevirtual 37, 3) := by decide +kernel
theorem dX2_tell_52 : decode cX2_tell 52 = .ok (.aload_n 0, 1) := by decide +kernel
theorem dX2_tell_53 : decode cX2_tell 53 = .ok (.iload 4, 2) := by decide +kernel
theorem dX2_tell_55 : decode cX2_tell 55 = .ok (.aload_n 0, 1) := by decide +kernel
theorem dX2_tell_56 : decode cX2_tell 56 = .ok (.getfield 7, 3) := by decide +kernel
theorem dX2_tell_59 : decode cX2_tell 59 = .ok (.getfield 41, 3) := by decide +kernel
theorem dX2_tell_62 : decode cX2_tell 62 = .ok (.invokevirtual 37, 3) := by decide +kernel
theorem dX2_tell_65 : decode cX2_tell 65 = .ok (.iinc 4  1, 3) := by decide +kernel
theorem dX2_tell_68 : decode cX2_tell 68 = .ok (.goto (-41), 3) := by decide +kernel
theorem dX2_tell_71 : decode cX2_tell 71 = .ok (.iinc 3  1, 3) := by decide +kernel
theorem dX2_tell_74 : decode cX2_tell 74 = .ok (.goto (-62), 3) := by decide +kernel
theorem dX2_tell_77 : decode cX2_tell 77 = .ok (.return_, 1) := by decide +kernel
theorem dX2_load_0 : decode cX2_load 0 = .ok (.aload_n 0, 1) := by decide +kernel
theorem dX2_load_1 : decode cX2_load 1 = .ok (.iconst 0, 1) := by decide +kernel
theorem dX2_load_2 : decode cX2_load 2 = .ok (.putfield 31, 3) := by decide +kernel
theorem dX2_load_5 : decode cX2_load 5 = .ok (.iconst 0, 1) := by decide +kernel
theorem dX2_load_6 : decode cX2_load 6 = .ok (.istore_n 2, 1) := by decide +kernel
theorem dX2_load_7 : decode cX2_load 7 = .ok (.iload_n 2, 1) := by decide +kernel
theorem dX2_load_8 : decode cX2_load 8 = .ok (.aload_n 0, 1) := by decide +kernel
theorem dX2_load_9 : decode cX2_load 9 = .ok (.getfield 7, 3) := by decide +kernel
theorem dX2_load_12 : decode cX2_load 12 = .ok (.getfield 13, 3) := by decide +kernel
theorem dX2_load_15 : decode cX2_load 15 = .ok (.if_icmp .ge 113, 3) := by decide +kernel
theorem dX2_load_18 : decode cX2_load 18 = .ok (.iconst 0, 1) := by decide +kernel
theorem dX2_load_19 : decode cX2_load 19 = .ok (.istore_n 3, 1) := by decide +kernel
theorem dX2_load_20 : decode cX2_load 20 = .ok (.iload_n 3, 1) := by decide +kernel
theorem dX2_load_21 : decode cX2_load 21 = .ok (.aload_n 0, 1) := by decide +kernel
theorem dX2_load_22 : decode cX2_load 22 = .ok (.getfield 7, 3) := by decide +kernel
theorem dX2_load_25 : decode cX2_load 25 = .ok (.getfield 13, 3) := by decide +kernel
theorem dX2_load_28 : decode cX2_load 28 = .ok (.if_icmp .ge 69, 3) := by decide +kernel
theorem dX2_load_31 : decode cX2_load 31 = .ok (.aload_n 0, 1) := by decide +kernel
theorem dX2_load_32 : decode cX2_load 32 = .ok (.getfield 7, 3) := by decide +kernel
theorem dX2_load_35 : decode cX2_load 35 = .ok (.iload_n 2, 1) := by decide +kernel
theorem dX2_load_36 : decode cX2_load 36 = .ok (.iload_n 3, 1) := by decide +kernel
theorem dX2_load_37 : decode cX2_load 37 = .ok (.invokevirtual 44, 3) := by decide +kernel
theorem dX2_load_40 : decode cX2_load 40 = .ok (.istore 4, 2) := by decide +kernel
theorem dX2_load_42 : decode cX2_load 42 = .ok (.aload_n 0, 1) := by decide +kernel
theorem dX2_load_43 : decode cX2_load 43 = .ok (.getfield 23, 3) := by decide +kernel
theorem dX2_load_46 : decode cX2_load 46 = .ok (.iload 4, 2) := by decide +kernel
theorem dX2_load_48 : decode cX2_load 48 = .ok (.aload_n 1, 1) := by decide +kernel
theorem dX2_load_49 : decode cX2_load 49 = .ok (.getfield 48, 3) := by decide +kernel
theorem dX2_load_52 : decode cX2_load 52 = .ok (.iload_n 2, 1) := by decide +kernel
theorem dX2_load_53 : decode cX2_load 53 = .ok (.baload, 1) := by decide +kernel
theorem dX2_load_54 : decode cX2_load 54 = .ok (.ifCond .ne 7, 3) := by decide +kernel
theorem dX2_load_57 : decode cX2_load 57 = .ok (.iconst 1, 1) := by decide +kernel
theorem dX2_load_58 : decode cX2_load 58 = .ok (.goto 4, 3) := by decide +kernel
theorem dX2_load_61 : decode cX2_load 61 = .ok (.iconst 0, 1) := by decide +kernel
theorem dX2_load_62 : decode cX2_load 62 = .ok (.bastore, 1) := by decide +kernel
theorem dX2_load_63 : decode cX2_load 63 = .ok (.aload_n 0, 1) := by decide +kernel
theorem dX2_load_64 : decode cX2_load 64 = .ok (.getfield 19, 3) := by decide +kernel
theorem dX2_load_67 : decode cX2_load 67 = .ok (.iload 4, 2) := by decide +kernel
theorem dX2_load_69 : decode cX2_load 69 = .ok (.aload_n 0, 1) := by decide +kernel
theorem dX2_load_70 : decode cX2_load 70 = .ok (.getfield 23, 3) := by decide +kernel
theorem dX2_load_73 : decode cX2_load 73 = .ok (.iload 4, 2) := by decide +kernel
theorem dX2_load_75 : decode cX2_load 75 = .ok (.baload, 1) := by decide +kernel
theorem dX2_load_76 : decode cX2_load 76 = .ok (.ifCond .eq 13, 3) := by decide +kernel
theorem dX2_load_79 : decode cX2_load 79 = .ok (.aload_n 1, 1) := by decide +kernel
theorem dX2_load_80 : decode cX2_load 80 = .ok (.getfield 53, 3) := by decide +kernel
theorem dX2_load_83 : decode cX2_load 83 = .ok (.iload 4, 2) := by decide +kernel
theorem dX2_load_85 : decode cX2_load 85 = .ok (.iaload, 1) := by decide +kernel
theorem dX2_load_86 : decode cX2_load 86 = .ok (.goto 4, 3) := by decide +kernel
theorem dX2_load_89 : decode cX2_load 89 = .ok (.iconst 0, 1) := by decide +kernel
theorem dX2_load_90 : decode cX2_load 90 = .ok (.iastore, 1) := by decide +kernel
theorem dX2_load_91 : decode cX2_load 91 = .ok (.iinc 3  1, 3) := by decide +kernel
theorem dX2_load_94 : decode cX2_load 94 = .ok (.goto (-74), 3) := by decide +kernel
theorem dX2_load_97 : decode cX2_load 97 = .ok (.aload_n 1, 1) := by decide +kernel
theorem dX2_load_98 : decode cX2_load 98 = .ok (.getfield 48, 3) := by decide +kernel
theorem dX2_load_101 : decode cX2_load 101 = .ok (.iload_n 2, 1) := by decide +kernel
theorem dX2_load_102 : decode cX2_load 102 = .ok (.baload, 1) := by decide +kernel
theorem dX2_load_103 : decode cX2_load 103 = .ok (.ifCond .eq 19, 3) := by decide +kernel
theorem dX2_load_106 : decode cX2_load 106 = .ok (.aload_n 0, 1) := by decide +kernel
theorem dX2_load_107 : decode cX2_load 107 = .ok (.dup, 1) := by decide +kernel
theorem dX2_load_108 : decode cX2_load 108 = .ok (.getfield 31, 3) := by decide +kernel
theorem dX2_load_111 : decode cX2_load 111 = .ok (.aload_n 0, 1) := by decide +kernel
theorem dX2_load_112 : decode cX2_load 112 = .ok (.getfield 7, 3) := by decide +kernel
theorem dX2_load_115 : decode cX2_load 115 = .ok (.getfield 13, 3) := by decide +kernel
theorem dX2_load_118 : decode cX2_load 118 = .ok (.iadd, 1) := by decide +kernel
theorem dX2_load_119 : decode cX2_load 119 = .ok (.putfield 31, 3) := by decide +kernel
theorem dX2_load_122 : decode cX2_load 122 = .ok (.iinc 2  1, 3) := by decide +kernel
theorem dX2_load_125 : decode cX2_load 125 = .ok (.goto (-118), 3) := by decide +kernel
theorem dX2_load_128 : decode cX2_load 128 = .ok (.return_, 1) := by decide +kernel
theorem dX2_settle_0 : decode cX2_settle 0 = .ok (.aload_n 0, 1) := by decide +kernel
theorem dX2_settle_1 : decode cX2_settle 1 = .ok (.getfield 7, 3) := by decide +kernel
theorem dX2_settle_4 : decode cX2_settle 4 = .ok (.iload_n 1, 1) := by decide +kernel
theorem dX2_settle_5 : decode cX2_settle 5 = .ok (.iload_n 2, 1) := by decide +kernel
theorem dX2_settle_6 : decode cX2_settle 6 = .ok (.invokevirtual 44, 3) := by decide +kernel
theorem dX2_settle_9 : decode cX2_settle 9 = .ok (.istore_n 3, 1) := by decide +kernel
theorem dX2_settle_10 : decode cX2_settle 10 = .ok (.aload_n 0, 1) := by decide +kernel
theorem dX2_settle_11 : decode cX2_settle 11 = .ok (.getfield 19, 3) := by decide +kernel
theorem dX2_settle_14 : decode cX2_settle 14 = .ok (.iload_n 3, 1) := by decide +kernel
theorem dX2_settle_15 : decode cX2_settle 15 = .ok (.iaload, 1) := by decide +kernel
theorem dX2_settle_16 : decode cX2_settle 16 = .ok (.istore 4, 2) := by decide +kernel
theorem dX2_settle_18 : decode cX2_settle 18 = .ok (.aload_n 0, 1) := by decide +kernel
theorem dX2_settle_19 : decode cX2_settle 19 = .ok (.getfield 23, 3) := by decide +kernel
theorem dX2_settle_22 : decode cX2_settle 22 = .ok (.iload_n 3, 1) := by decide +kernel
theorem dX2_settle_23 : decode cX2_settle 23 = .ok (.baload, 1) := by decide +kernel
theorem dX2_settle_24 : decode cX2_settle 24 = .ok (.ifCond .eq 7, 3) := by decide +kernel
theorem dX2_settle_27 : decode cX2_settle 27 = .ok (.iconst 0, 1) := by decide +kernel
theorem dX2_settle_28 : decode cX2_settle 28 = .ok (.goto 4, 3) := by decide +kernel
theorem dX2_settle_31 : decode cX2_settle 31 = .ok (.iconst 1, 1) := by decide +kernel
theorem dX2_settle_32 : decode cX2_settle 32 = .ok (.istore 5, 2) := by decide +kernel
theorem dX2_settle_34 : decode cX2_settle 34 = .ok (.iload_n 3, 1) := by decide +kernel
theorem dX2_settle_35 : decode cX2_settle 35 = .ok (.istore 6, 2) := by decide +kernel
theorem dX2_settle_37 : decode cX2_settle 37 = .ok (.iconst 0, 1) := by decide +kernel
theorem dX2_settle_38 : decode cX2_settle 38 = .ok (.istore 7, 2) := by decide +kernel
theorem dX2_settle_40 : decode cX2_settle 40 = .ok (.iload 7, 2) := by decide +kernel
theorem dX2_settle_42 : decode cX2_settle 42 = .ok (.aload_n 0, 1) := by decide +kernel
theorem dX2_settle_43 : decode cX2_settle 43 = .ok (.getfield 7, 3) := by decide +kernel
theorem dX2_settle_46 : decode cX2_settle 46 = .ok (.getfield 34, 3) := by decide +kernel
theorem dX2_settle_49 : decode cX2_settle 49 = .ok (.if_icmp .ge 60, 3) := by decide +kernel
theorem dX2_settle_52 : decode cX2_settle 52 = .ok (.aload_n 0, 1) := by decide +kernel
theorem dX2_settle_53 : decode cX2_settle 53 = .ok (.getfield 7, 3) := by decide +kernel
theorem dX2_settle_56 : decode cX2_settle 56 = .ok (.aload_n 0, 1) := by decide +kernel
theorem dX2_settle_57 : decode cX2_settle 57 = .ok (.getfield 7, 3) := by decide +kernel
theorem dX2_settle_60 : decode cX2_settle 60 = .ok (.iload_n 1, 1) := by decide +kernel
theorem dX2_settle_61 : decode cX2_settle 61 = .ok (.iload 7, 2) := by decide +kernel
theorem dX2_settle_63 : decode cX2_settle 63 = .ok (.iload_n 2, 1) := by decide +kernel
theorem dX2_settle_64 : decode cX2_settle 64 = .ok (.invokevirtual 54, 3) := by decide +kernel
theorem dX2_settle_67 : decode cX2_settle 67 = .ok (.iload 7, 2) := by decide +kernel
theorem dX2_settle_69 : decode cX2_settle 69 = .ok (.invokevirtual 44, 3) := by decide +kernel
theorem dX2_settle_72 : decode cX2_settle 72 = .ok (.istore 8, 2) := by decide +kernel
theorem dX2_settle_74 : decode cX2_settle 74 = .ok (.iload 4, 2) := by decide +kernel
theorem dX2_settle_76 : decode cX2_settle 76 = .ok (.aload_n 0, 1) := by decide +kernel
theorem dX2_settle_77 : decode cX2_settle 77 = .ok (.getfield 19, 3) := by decide +kernel
theorem dX2_settle_80 : decode cX2_settle 80 = .ok (.iload 8, 2) := by decide +kernel
theorem dX2_settle_82 : decode cX2_settle 82 = .ok (.iaload, 1) := by decide +kernel
theorem dX2_settle_83 : decode cX2_settle 83 = .ok (.ixor, 1) := by decide +kernel
theorem dX2_settle_84 : decode cX2_settle 84 = .ok (.istore 4, 2) := by decide +kernel
theorem dX2_settle_86 : decode cX2_settle 86 = .ok (.aload_n 0, 1) := by decide +kernel
theorem dX2_settle_87 : decode cX2_settle 87 = .ok (.getfield 23, 3) := by decide +kernel
theorem dX2_settle_90 : decode cX2_settle 90 = .ok (.iload 8, 2) := by decide +kernel
theorem dX2_settle_92 : decode cX2_settle 92 = .ok (.baload, 1) := by decide +kernel
theorem dX2_settle_93 : decode cX2_settle 93 = .ok (.ifCond .ne 10, 3) := by decide +kernel
theorem dX2_settle_96 : decode cX2_settle 96 = .ok (.iinc 5  1, 3) := by decide +kernel
theorem dX2_settle_99 : decode cX2_settle 99 = .ok (.iload 8, 2) := by decide +kernel
theorem dX2_settle_101 : decode cX2_settle 101 = .ok (.istore 6, 2) := by decide +kernel
theorem dX2_settle_103 : decode cX2_settle 103 = .ok (.iinc 7  1, 3) := by decide +kernel
theorem dX2_settle_106 : decode cX2_settle 106 = .ok (.goto (-66), 3) := by decide +kernel
theorem dX2_settle_109 : decode cX2_settle 109 = .ok (.iload 5, 2) := by decide +kernel
theorem dX2_settle_111 : decode cX2_settle 111 = .ok (.iconst 1, 1) := by decide +kernel
theorem dX2_settle_112 : decode cX2_settle 112 = .ok (.if_icmp .ne 30, 3) := by decide +kernel
theorem dX2_settle_115 : decode cX2_settle 115 = .ok (.aload_n 0, 1) := by decide +kernel
theorem dX2_settle_116 : decode cX2_settle 116 = .ok (.getfield 19, 3) := by decide +kernel
theorem dX2_settle_119 : decode cX2_settle 119 = .ok (.iload 6, 2) := by decide +kernel
theorem dX2_settle_121 : decode cX2_settle 121 = .ok (.iload 4, 2) := by decide +kernel
theorem dX2_settle_123 : decode cX2_settle 123 = .ok (.iastore, 1) := by decide +kernel
theorem dX2_settle_124 : decode cX2_settle 124 = .ok (.aload_n 0, 1) := by decide +kernel
theorem dX2_settle_125 : decode cX2_settle 125 = .ok (.getfield 23, 3) := by decide +kernel
theorem dX2_settle_128 : decode cX2_settle 128 = .ok (.iload 6, 2) := by decide +kernel
theorem dX2_settle_130 : decode cX2_settle 130 = .ok (.iconst 1, 1) := by decide +kernel
theorem dX2_settle_131 : decode cX2_settle 131 = .ok (.bastore, 1) := by decide +kernel
theorem dX2_settle_132 : decode cX2_settle 132 = .ok (.aload_n 0, 1) := by decide +kernel
theorem dX2_settle_133 : decode cX2_settle 133 = .ok (.dup, 1) := by decide +kernel
theorem dX2_settle_134 : decode cX2_settle 134 = .ok (.getfield 31, 3) := by decide +kernel
theorem dX2_settle_137 : decode cX2_settle 137 = .ok (.iconst 1, 1) := by decide +kernel
theorem dX2_settle_138 : decode cX2_settle 138 = .ok (.isub, 1) := by decide +kernel
theorem dX2_settle_139 : decode cX2_settle 139 = .ok (.putfield 31, 3) := by decide +kernel
theorem dX2_settle_142 : decode cX2_settle 142 = .ok (.return_, 1) := by decide +kernel
theorem dJ9_floorMod_0 : decode cJ9_floorMod 0 = .ok (.iload_n 0, 1) := by decide +kernel
theorem dJ9_floorMod_1 : decode cJ9_floorMod 1 = .ok (.iload_n 1, 1) := by decide +kernel
theorem dJ9_floorMod_2 : decode cJ9_floorMod 2 = .ok (.irem, 1) := by decide +kernel
theorem dJ9_floorMod_3 : decode cJ9_floorMod 3 = .ok (.istore_n 2, 1) := by decide +kernel
theorem dJ9_floorMod_4 : decode cJ9_floorMod 4 = .ok (.iload_n 0, 1) := by decide +kernel
theorem dJ9_floorMod_5 : decode cJ9_floorMod 5 = .ok (.iload_n 1, 1) := by decide +kernel
theorem dJ9_floorMod_6 : decode cJ9_floorMod 6 = .ok (.ixor, 1) := by decide +kernel
theorem dJ9_floorMod_7 : decode cJ9_floorMod 7 = .ok (.ifCond .ge 11, 3) := by decide +kernel
theorem dJ9_floorMod_10 : decode cJ9_floorMod 10 = .ok (.iload_n 2, 1) := by decide +kernel
theorem dJ9_floorMod_11 : decode cJ9_floorMod 11 = .ok (.ifCond .eq 7, 3) := by decide +kernel
theorem dJ9_floorMod_14 : decode cJ9_floorMod 14 = .ok (.iload_n 2, 1) := by decide +kernel
theorem dJ9_floorMod_15 : decode cJ9_floorMod 15 = .ok (.iload_n 1, 1) := by decide +kernel
theorem dJ9_floorMod_16 : decode cJ9_floorMod 16 = .ok (.iadd, 1) := by decide +kernel
theorem dJ9_floorMod_17 : decode cJ9_floorMod 17 = .ok (.ireturn, 1) := by decide +kernel
theorem dJ9_floorMod_18 : decode cJ9_floorMod 18 = .ok (.iload_n 2, 1) := by decide +kernel
theorem dJ9_floorMod_19 : decode cJ9_floorMod 19 = .ok (.ireturn, 1) := by decide +kernel
theorem dJ9_max_0 : decode cJ9_max 0 = .ok (.iload_n 0, 1) := by decide +kernel
theorem dJ9_max_1 : decode cJ9_max 1 = .ok (.iload_n 1, 1) := by decide +kernel
theorem dJ9_max_2 : decode cJ9_max 2 = .ok (.if_icmp .lt 7, 3) := by decide +kernel
theorem dJ9_max_5 : decode cJ9_max 5 = .ok (.iload_n 0, 1) := by decide +kernel
theorem dJ9_max_6 : decode cJ9_max 6 = .ok (.goto 4, 3) := by decide +kernel
theorem dJ9_max_9 : decode cJ9_max 9 = .ok (.iload_n 1, 1) := by decide +kernel
theorem dJ9_max_10 : decode cJ9_max 10 = .ok (.ireturn, 1) := by decide +kernel
theorem dJ9_min_0 : decode cJ9_min 0 = .ok (.iload_n 0, 1) := by decide +kernel
theorem dJ9_min_1 : decode cJ9_min 1 = .ok (.iload_n 1, 1) := by decide +kernel
theorem dJ9_min_2 : decode cJ9_min 2 = .ok (.if_icmp .gt 7, 3) := by decide +kernel
theorem dJ9_min_5 : decode cJ9_min 5 = .ok (.iload_n 0, 1) := by decide +kernel
theorem dJ9_min_6 : decode cJ9_min 6 = .ok (.goto 4, 3) := by decide +kernel
theorem dJ9_min_9 : decode cJ9_min 9 = .ok (.iload_n 1, 1) := by decide +kernel
theorem dJ9_min_10 : decode cJ9_min 10 = .ok (.ireturn, 1) := by decide +kernel
end
section
abbrev rm_c_fm : Room := { frames := 0, cells := 0, slots := 0, locals := 0 }
set_option maxHeartbeats 4000000 in
set_option maxRecDepth 100000 in
theorem c_fm (l : Launch) (dC : Nat → ClassId) (dI : Nat → Nat → Nat) (cI cB cQ cJ : ClassId) (x : Int32) (y : Int32) (hy : ¬ y = 0) : MG l yJ9_floorMod (Cond.code yJ9_floorMod cJ9_floorMod 3 (some .int) :: TB) rm_c_fm (dC, dI) vwCl (TY cI cB cQ cJ) [.int x, .int y] [] (fun (r : Int32) (u : Unit) => r = dr_fm x y) (fun (u : Unit) => []) := by
  refine MG.ofWF (cc := cJ9_floorMod) (maxL := 3) (rt := .int) (by decide +kernel) rfl (Nat.le_of_ble_eq_true rfl) ?_
  intro p e s m args below meth c A ls Q H locs hQ hx hb hml hr hlk hts hown hK hP hD hS hA hl
  have hts : ∀ w ∈ TB, w.before args s = true := fun w h => hts w (List.mem_cons_of_mem _ h)
  have hown : s.vm.findClass RJ9 = some m.cls := hown
  have hl : lv_has ls 3 [(0, .int x), (1, .int y)] := hl
  have hP : va_P (dC, dI) vwCl [] H := hP
  have hD : va_D A [] := hD
  refine lv_iload_n hx hb dJ9_floorMod_0 rfl (lv_at hl 0 rfl) ?_
  refine lv_iload_n hx hb dJ9_floorMod_1 rfl (lv_at hl 1 rfl) ?_
  refine lv_irem hx hb dJ9_floorMod_2 hy ?_
  refine lv_istore_n hx hb dJ9_floorMod_3 rfl hl (by decide) rfl (fun ls hl => ?_)
  have hl : lv_has ls 3 [(2, .int (x - x / y * y)), (0, .int x), (1, .int y)] := hl
  refine lv_iload_n hx hb dJ9_floorMod_4 rfl (lv_at hl 1 rfl) ?_
  refine lv_iload_n hx hb dJ9_floorMod_5 rfl (lv_at hl 2 rfl) ?_
  refine lv_ixor hx hb dJ9_floorMod_6 ?_
  refine lv_if_ge (tgt := 18) hx hb dJ9_floorMod_7 (by decide) (fun h7 => ?_) (fun h7 => ?_)
  · -- 7t
    refine lv_iload_n hx hb dJ9_floorMod_18 rfl (lv_at hl 0 rfl) ?_
    exact x_iret (D := (dC, dI)) (cl := vwCl) (A := A) () hQ hx hb hr hlk hP hD hS dJ9_floorMod_19 (by unfold dr_fm; split <;> first | rfl | (rename_i z; first | exact absurd h7 (Int32.not_le.mpr z.1) | exact absurd h11 z.2 | exact absurd ⟨Int32.not_le.mp h7, h11⟩ z))
  · -- 7f
    refine lv_iload_n hx hb dJ9_floorMod_10 rfl (lv_at hl 0 rfl) ?_
    refine lv_if_eq (tgt := 18) hx hb dJ9_floorMod_11 (by decide) (fun h11 => ?_) (fun h11 => ?_)
    · -- 11t
      refine lv_iload_n hx hb dJ9_floorMod_18 rfl (lv_at hl 0 rfl) ?_
      exact x_iret (D := (dC, dI)) (cl := vwCl) (A := A) () hQ hx hb hr hlk hP hD hS dJ9_floorMod_19 (by unfold dr_fm; split <;> first | rfl | (rename_i z; first | exact absurd h7 (Int32.not_le.mpr z.1) | exact absurd h11 z.2 | exact absurd ⟨Int32.not_le.mp h7, h11⟩ z))
    · -- 11f
      refine lv_iload_n hx hb dJ9_floorMod_14 rfl (lv_at hl 0 rfl) ?_
      refine lv_iload_n hx hb dJ9_floorMod_15 rfl (lv_at hl 2 rfl) ?_
      refine lv_iadd hx hb dJ9_floorMod_16 ?_
      exact x_iret (D := (dC, dI)) (cl := vwCl) (A := A) () hQ hx hb hr hlk hP hD hS dJ9_floorMod_17 (by unfold dr_fm; split <;> first | rfl | (rename_i z; first | exact absurd h7 (Int32.not_le.mpr z.1) | exact absurd h11 z.2 | exact absurd ⟨Int32.not_le.mp h7, h11⟩ z))

abbrev rm_c_place : Room := { frames := 0, cells := 0, slots := 0, locals := 0 }
set_option maxHeartbeats 4000000 in
set_option maxRecDepth 100000 in
theorem c_place (l : Launch) (dC : Nat → ClassId) (dI : Nat → Nat → Nat) (cI cB cQ cJ : ClassId) (aS : Nat) (P : Nat) (d : Nat) (k : Nat)  : MG l yX0_place (Cond.code yX0_place cX0_place 3 (some .int) :: TB) rm_c_place (dC, dI) vwCl (TY cI cB cQ cJ) [.ref aS, .int (nI d), .int (nI k)] [(aS, .inr (0, [.int (nI P), .int (nI (P - 2)), .int (nI (P - 1)), .int (nI (P * (P - 2)))]))] (fun (r : Int32) (u : Unit) => r = nI (d * P + k)) (fun (u : Unit) => [(aS, .inr (0, [.int (nI P), .int (nI (P - 2)), .int (nI (P - 1)), .int (nI (P * (P - 2)))]))]) := by
  refine MG.ofW (cc := cX0_place) (maxL := 3) (rt := .int) (by decide +kernel) rfl (Nat.le_of_ble_eq_true rfl) ?_
  intro p e s m args below meth c A ls Q H locs hQ hx hb hml hr hlk hts hown hK hP hD hS hA hl
  have hts : ∀ w ∈ TB, w.before args s = true := fun w h => hts w (List.mem_cons_of_mem _ h)
  have hown : s.vm.findClass RX0 = some m.cls := hown
  have hl : lv_has ls 3 [(0, .ref aS), (1, .int (nI d)), (2, .int (nI k))] := hl
  have hP : va_P (dC, dI) vwCl [(aS, .inr (0, [.int (nI P), .int (nI (P - 2)), .int (nI (P - 1)), .int (nI (P * (P - 2)))]))] H := hP
  have hD : va_D A [(aS, .inr (0, [.int (nI P), .int (nI (P - 2)), .int (nI (P - 1)), .int (nI (P * (P - 2)))]))] := hD
  refine lv_iload_n hx hb dX0_place_0 rfl (lv_at hl 1 rfl) ?_
  refine lv_aload_n hx hb dX0_place_1 rfl (lv_at hl 0 rfl) ?_
  refine va_get (D := (dC, dI)) (ci := 0) (v := .int (nI P)) (C := RX0) (T := TX0) (N := 4) hx hb hts inX0 hown hK hP 0 rfl rfl 0 (by decide) (hts _ t_fX0_7) (fun _ h9 => h9) rfl dX0_place_2 ?_
  refine x_mul hx hb dX0_place_5 ?_
  refine lv_iload_n hx hb dX0_place_6 rfl (lv_at hl 2 rfl) ?_
  refine x_add hx hb dX0_place_7 ?_
  exact x_iret (D := (dC, dI)) (cl := vwCl) (A := A) () hQ hx hb hr hlk hP hD hS dX0_place_8 (by first | rfl | (simp []; done) | (simp []; omega))

abbrev rm_c_dob : Room := { frames := 0, cells := 0, slots := 0, locals := 0 }
set_option maxHeartbeats 4000000 in
set_option maxRecDepth 100000 in
theorem c_dob (l : Launch) (dC : Nat → ClassId) (dI : Nat → Nat → Nat) (cI cB cQ cJ : ClassId) (aS : Nat) (P : Nat) (b : Nat) (hp5 : dr_P P) (hbb : b < 2 ^ 31) : MG l yX0_driveOfBlock (Cond.code yX0_driveOfBlock cX0_driveOfBlock 2 (some .int) :: TB) rm_c_dob (dC, dI) vwCl (TY cI cB cQ cJ) [.ref aS, .int (nI b)] [(aS, .inr (0, [.int (nI P), .int (nI (P - 2)), .int (nI (P - 1)), .int (nI (P * (P - 2)))]))] (fun (r : Int32) (u : Unit) => r = nI (b % (P * (P - 2)) % P)) (fun (u : Unit) => [(aS, .inr (0, [.int (nI P), .int (nI (P - 2)), .int (nI (P - 1)), .int (nI (P * (P - 2)))]))]) := by
  refine MG.ofW (cc := cX0_driveOfBlock) (maxL := 2) (rt := .int) (by decide +kernel) rfl (Nat.le_of_ble_eq_true rfl) ?_
  intro p e s m args below meth c A ls Q H locs hQ hx hb hml hr hlk hts hown hK hP hD hS hA hl
  have hts : ∀ w ∈ TB, w.before args s = true := fun w h => hts w (List.mem_cons_of_mem _ h)
  have hown : s.vm.findClass RX0 = some m.cls := hown
  have hl : lv_has ls 2 [(0, .ref aS), (1, .int (nI b))] := hl
  have hP : va_P (dC, dI) vwCl [(aS, .inr (0, [.int (nI P), .int (nI (P - 2)), .int (nI (P - 1)), .int (nI (P * (P - 2)))]))] H := hP
  have hD : va_D A [(aS, .inr (0, [.int (nI P), .int (nI (P - 2)), .int (nI (P - 1)), .int (nI (P * (P - 2)))]))] := hD
  have hp := hp5.le
  have hpp := dr_PP hp5
  have hpq := dr_PP2 hp5
  have hbm := Nat.mod_le b (P * (P - 2))
  refine lv_iload_n hx hb dX0_driveOfBlock_0 rfl (lv_at hl 1 rfl) ?_
  refine lv_aload_n hx hb dX0_driveOfBlock_1 rfl (lv_at hl 0 rfl) ?_
  refine va_get (D := (dC, dI)) (ci := 0) (v := .int (nI (P * (P - 2)))) (C := RX0) (T := TX0) (N := 4) hx hb hts inX0 hown hK hP 0 rfl rfl 3 (by decide) (hts _ t_fX0_19) (fun _ h9 => h9) rfl dX0_driveOfBlock_2 ?_
  refine x_rem hx hb dX0_driveOfBlock_5 (by omega) (by omega) (by omega) ?_
  refine lv_aload_n hx hb dX0_driveOfBlock_6 rfl (lv_at hl 0 rfl) ?_
  refine va_get (D := (dC, dI)) (ci := 0) (v := .int (nI P)) (C := RX0) (T := TX0) (N := 4) hx hb hts inX0 hown hK hP 0 rfl rfl 0 (by decide) (hts _ t_fX0_7) (fun _ h9 => h9) rfl dX0_driveOfBlock_7 ?_
  refine x_rem hx hb dX0_driveOfBlock_10 (by omega) (by omega) (by omega) ?_
  exact x_iret (D := (dC, dI)) (cl := vwCl) (A := A) () hQ hx hb hr hlk hP hD hS dX0_driveOfBlock_11 (by first | rfl | (simp []; done) | (simp []; omega))

abbrev rm_c_wob : Room := { frames := 0, cells := 0, slots := 0, locals := 0 }
set_option maxHeartbeats 4000000 in
set_option maxRecDepth 100000 in
theorem c_wob (l : Launch) (dC : Nat → ClassId) (dI : Nat → Nat → Nat) (cI cB cQ cJ : ClassId) (aS : Nat) (P : Nat) (b : Nat) (hp5 : dr_P P) (hbb : b < 2 ^ 31) : MG l yX0_wordOfBlock (Cond.code yX0_wordOfBlock cX0_wordOfBlock 2 (some .int) :: TB) rm_c_wob (dC, dI) vwCl (TY cI cB cQ cJ) [.ref aS, .int (nI b)] [(aS, .inr (0, [.int (nI P), .int (nI (P - 2)), .int (nI (P - 1)), .int (nI (P * (P - 2)))]))] (fun (r : Int32) (u : Unit) => r = nI (b % (P * (P - 2)) / P)) (fun (u : Unit) => [(aS, .inr (0, [.int (nI P), .int (nI (P - 2)), .int (nI (P - 1)), .int (nI (P * (P - 2)))]))]) := by
  refine MG.ofW (cc := cX0_wordOfBlock) (maxL := 2) (rt := .int) (by decide +kernel) rfl (Nat.le_of_ble_eq_true rfl) ?_
  intro p e s m args below meth c A ls Q H locs hQ hx hb hml hr hlk hts hown hK hP hD hS hA hl
  have hts : ∀ w ∈ TB, w.before args s = true := fun w h => hts w (List.mem_cons_of_mem _ h)
  have hown : s.vm.findClass RX0 = some m.cls := hown
  have hl : lv_has ls 2 [(0, .ref aS), (1, .int (nI b))] := hl
  have hP : va_P (dC, dI) vwCl [(aS, .inr (0, [.int (nI P), .int (nI (P - 2)), .int (nI (P - 1)), .int (nI (P * (P - 2)))]))] H := hP
  have hD : va_D A [(aS, .inr (0, [.int (nI P), .int (nI (P - 2)), .int (nI (P - 1)), .int (nI (P * (P - 2)))]))] := hD
  have hp := hp5.le
  have hpp := dr_PP hp5
  have hpq := dr_PP2 hp5
  have hbm := Nat.mod_le b (P * (P - 2))
  refine lv_iload_n hx hb dX0_wordOfBlock_0 rfl (lv_at hl 1 rfl) ?_
  refine lv_aload_n hx hb dX0_wordOfBlock_1 rfl (lv_at hl 0 rfl) ?_
  refine va_get (D := (dC, dI)) (ci := 0) (v := .int (nI (P * (P - 2)))) (C := RX0) (T := TX0) (N := 4) hx hb hts inX0 hown hK hP 0 rfl rfl 3 (by decide) (hts _ t_fX0_19) (fun _ h9 => h9) rfl dX0_wordOfBlock_2 ?_
  refine x_rem hx hb dX0_wordOfBlock_5 (by omega) (by omega) (by omega) ?_
  refine lv_aload_n hx hb dX0_wordOfBlock_6 rfl (lv_at hl 0 rfl) ?_
  refine va_get (D := (dC, dI)) (ci := 0) (v := .int (nI P)) (C := RX0) (T := TX0) (N := 4) hx hb hts inX0 hown hK hP 0 rfl rfl 0 (by decide) (hts _ t_fX0_7) (fun _ h9 => h9) rfl dX0_wordOfBlock_7 ?_
  refine x_div hx hb dX0_wordOfBlock_10 (by omega) (by omega) (by omega) ?_
  exact x_iret (D := (dC, dI)) (cl := vwCl) (A := A) () hQ hx hb hr hlk hP hD hS dX0_wordOfBlock_11 (by first | rfl | (simp []; done) | (simp []; omega))

abbrev rm_c_step : Room := { frames := 0, cells := 0, slots := 0, locals := 0 }
set_option maxHeartbeats 4000000 in
set_option maxRecDepth 100000 in
theorem c_step (l : Launch) (dC : Nat → ClassId) (dI : Nat → Nat → Nat) (cI cB cQ cJ : ClassId) (aS : Nat) (P : Nat) (k : Nat) (row : Nat) (hp5 : dr_P P) (hrw : row < P) : MG l yX0_step (Cond.code yX0_step cX0_step 3 (some .int) :: TB) rm_c_step (dC, dI) vwCl (TY cI cB cQ cJ) [.ref aS, .int (nI k), .int (nI row)] [(aS, .inr (0, [.int (nI P), .int (nI (P - 2)), .int (nI (P - 1)), .int (nI (P * (P - 2)))]))] (fun (r : Int32) (u : Unit) => r = dr_step P k row) (fun (u : Unit) => [(aS, .inr (0, [.int (nI P), .int (nI (P - 2)), .int (nI (P - 1)), .int (nI (P * (P - 2)))]))]) := by
  refine MG.ofW (cc := cX0_step) (maxL := 3) (rt := .int) (by decide +kernel) rfl (Nat.le_of_ble_eq_true rfl) ?_
  intro p e s m args below meth c A ls Q H locs hQ hx hb hml hr hlk hts hown hK hP hD hS hA hl
  have hts : ∀ w ∈ TB, w.before args s = true := fun w h => hts w (List.mem_cons_of_mem _ h)
  have hown : s.vm.findClass RX0 = some m.cls := hown
  have hl : lv_has ls 3 [(0, .ref aS), (1, .int (nI k)), (2, .int (nI row))] := hl
  have hP : va_P (dC, dI) vwCl [(aS, .inr (0, [.int (nI P), .int (nI (P - 2)), .int (nI (P - 1)), .int (nI (P * (P - 2)))]))] H := hP
  have hD : va_D A [(aS, .inr (0, [.int (nI P), .int (nI (P - 2)), .int (nI (P - 1)), .int (nI (P * (P - 2)))]))] := hD
  have hp := hp5.le
  have hpp := dr_PP hp5
  have hpq := dr_PP2 hp5
  refine lv_iload_n hx hb dX0_step_0 rfl (lv_at hl 2 rfl) ?_
  refine lv_aload_n hx hb dX0_step_1 rfl (lv_at hl 0 rfl) ?_
  refine va_get (D := (dC, dI)) (ci := 0) (v := .int (nI (P - 2))) (C := RX0) (T := TX0) (N := 4) hx hb hts inX0 hown hK hP 0 rfl rfl 1 (by decide) (hts _ t_fX0_13) (fun _ h9 => h9) rfl dX0_step_2 ?_
  refine x_cne (tgt := 14) hx hb dX0_step_5 (by decide) (by omega) (by omega) (fun h5 => ?_) (fun h5 => ?_)
  · -- 5t
    refine lv_iload_n hx hb dX0_step_14 rfl (lv_at hl 1 rfl) ?_
    refine lv_ineg hx hb dX0_step_15 ?_
    refine lv_iconst (v := 2) hx hb dX0_step_16 (by decide) ?_
    refine lv_isub hx hb dX0_step_17 ?_
    exact x_iret (D := (dC, dI)) (cl := vwCl) (A := A) () hQ hx hb hr hlk hP hD hS dX0_step_18 (by first | rfl | (simp [dr_step, h5]; done) | (simp [dr_step, h5]; omega))
  · -- 5f
    refine lv_iload_n hx hb dX0_step_8 rfl (lv_at hl 1 rfl) ?_
    refine lv_iconst (v := nI 2) hx hb dX0_step_9 (by decide) ?_
    refine x_add hx hb dX0_step_10 ?_
    refine lv_goto (tgt := 18) hx hb dX0_step_11 (by decide) ?_
    exact x_iret (D := (dC, dI)) (cl := vwCl) (A := A) () hQ hx hb hr hlk hP hD hS dX0_step_18 (by first | rfl | (simp [dr_step, h5]; done) | (simp [dr_step, h5]; omega))

abbrev rm_c_dd : Room := { frames := 1, cells := 0, slots := 0, locals := 22 }
set_option maxHeartbeats 4000000 in
set_option maxRecDepth 100000 in
theorem c_dd (l : Launch) (dC : Nat → ClassId) (dI : Nat → Nat → Nat) (cI cB cQ cJ : ClassId) (aS : Nat) (P : Nat) (o : Nat) (k : Nat) (row : Nat) (hp5 : dr_P P) (ho : o < P) (hk : k < P - 2) (hrw : dr_row P row) : MG l yX0_dataDrive (Cond.code yX0_dataDrive cX0_dataDrive 4 (some .int) :: TB) rm_c_dd (dC, dI) vwCl (TY cI cB cQ cJ) [.ref aS, .int (nI o), .int (nI k), .int (nI row)] [(aS, .inr (0, [.int (nI P), .int (nI (P - 2)), .int (nI (P - 1)), .int (nI (P * (P - 2)))]))] (fun (r : Int32) (u : Unit) => r = nI (dr_dd P o k row)) (fun (u : Unit) => [(aS, .inr (0, [.int (nI P), .int (nI (P - 2)), .int (nI (P - 1)), .int (nI (P * (P - 2)))]))]) := by
  refine MG.ofW (cc := cX0_dataDrive) (maxL := 4) (rt := .int) (by decide +kernel) rfl (Nat.le_of_ble_eq_true rfl) ?_
  intro p e s m args below meth c A ls Q H locs hQ hx hb hml hr hlk hts hown hK hP hD hS hA hl
  have hts : ∀ w ∈ TB, w.before args s = true := fun w h => hts w (List.mem_cons_of_mem _ h)
  have hown : s.vm.findClass RX0 = some m.cls := hown
  have hl : lv_has ls 4 [(0, .ref aS), (1, .int (nI o)), (2, .int (nI k)), (3, .int (nI row))] := hl
  have hP : va_P (dC, dI) vwCl [(aS, .inr (0, [.int (nI P), .int (nI (P - 2)), .int (nI (P - 1)), .int (nI (P * (P - 2)))]))] H := hP
  have hD : va_D A [(aS, .inr (0, [.int (nI P), .int (nI (P - 2)), .int (nI (P - 1)), .int (nI (P * (P - 2)))]))] := hD
  have hp := hp5.le
  have hpp := dr_PP hp5
  have hpq := dr_PP2 hp5
  have hrl : row < P := by rcases hrw with rfl | rfl <;> omega
  refine lv_iload_n hx hb dX0_dataDrive_0 rfl (lv_at hl 1 rfl) ?_
  refine lv_aload_n hx hb dX0_dataDrive_1 rfl (lv_at hl 0 rfl) ?_
  refine lv_iload_n hx hb dX0_dataDrive_2 rfl (lv_at hl 2 rfl) ?_
  refine lv_iload_n hx hb dX0_dataDrive_3 rfl (lv_at hl 3 rfl) ?_
  refine gV (wr := []) (pre := [(aS, .inr (0, [.int (nI P), .int (nI (P - 2)), .int (nI (P - 1)), .int (nI (P * (P - 2)))]))]) (tl := []) (G := fun (u : Unit) => [(aS, .inr (0, [.int (nI P), .int (nI (P - 2)), .int (nI (P - 1)), .int (nI (P * (P - 2)))]))]) (b := aS) (As := [.int (nI k), .int (nI row)]) (rst := [.int (nI o)]) ⟨hx, hb, hml, hown, hts⟩ (c_step l dC dI cI cB cQ cJ aS P k row hp5 hrl) (cwV 2 hts (gdV t_mX0_22 t_inst_X0_step t_sel_X0_step t_ini_X0 t_code_X0_step) rfl rfl rfl (by decide +kernel) ⟨Nat.le_of_ble_eq_true rfl, Nat.le_of_ble_eq_true rfl⟩) hK hP hD hS hA [0] [] [0] rfl (by decide) (fun _ => rfl) (by decide) (ci := 0) rfl rfl rfl rfl hl.1 rfl (Nat.le_of_ble_eq_true rfl) dX0_dataDrive_4 ⟨Nat.zero_le _, Nat.zero_le _⟩ (fun r u H locs hu1 hP hD hS => ?_)
  have hr4 := hu1
  have hr4 : r = dr_step P k row := hr4
  subst hr4
  have hP : va_P (dC, dI) vwCl [(aS, .inr (0, [.int (nI P), .int (nI (P - 2)), .int (nI (P - 1)), .int (nI (P * (P - 2)))]))] H := hP
  have hD : va_D A [(aS, .inr (0, [.int (nI P), .int (nI (P - 2)), .int (nI (P - 1)), .int (nI (P * (P - 2)))]))] := hD
  refine lv_iadd hx hb dX0_dataDrive_7 ?_
  refine lv_aload_n hx hb dX0_dataDrive_8 rfl (lv_at hl 0 rfl) ?_
  refine va_get (D := (dC, dI)) (ci := 0) (v := .int (nI P)) (C := RX0) (T := TX0) (N := 4) hx hb hts inX0 hown hK hP 0 rfl rfl 0 (by decide) (hts _ t_fX0_7) (fun _ h9 => h9) rfl dX0_dataDrive_9 ?_
  refine gS (wr := [(aS, .inr (0, [.int (nI P), .int (nI (P - 2)), .int (nI (P - 1)), .int (nI (P * (P - 2)))]))]) (pre := [(aS, .inr (0, [.int (nI P), .int (nI (P - 2)), .int (nI (P - 1)), .int (nI (P * (P - 2)))]))]) (tl := []) (G := fun (u : Unit) => [(aS, .inr (0, [.int (nI P), .int (nI (P - 2)), .int (nI (P - 1)), .int (nI (P * (P - 2)))]))]) (As := [.int ((nI o) + (dr_step P k row)), .int (nI P)]) (rst := []) ⟨hx, hb, hml, hown, hts⟩ (c_fm l dC dI cI cB cQ cJ ((nI o) + (dr_step P k row)) (nI P) (nI_ne0 (by omega) (by omega))) (va_cwS 2 hts (gdS t_mX0_26 t_stat_J9_floorMod t_ini_J9 t_code_J9_floorMod) rfl rfl rfl (by decide +kernel) ⟨Nat.le_of_ble_eq_true rfl, Nat.le_of_ble_eq_true rfl⟩) hK hP hD hS hA [] [0] [0] rfl (by decide) (fun _ => rfl) (by decide) rfl hl.1 rfl (Nat.le_of_ble_eq_true rfl) dX0_dataDrive_12 ⟨Nat.zero_le _, Nat.zero_le _⟩ (fun r u H locs hu2 hP hD hS => ?_)
  have hr12 := hu2
  have hr12 : r = dr_fm ((nI o) + (dr_step P k row)) (nI P) := hr12
  subst hr12
  have hP : va_P (dC, dI) vwCl [(aS, .inr (0, [.int (nI P), .int (nI (P - 2)), .int (nI (P - 1)), .int (nI (P * (P - 2)))]))] H := hP
  have hD : va_D A [(aS, .inr (0, [.int (nI P), .int (nI (P - 2)), .int (nI (P - 1)), .int (nI (P * (P - 2)))]))] := hD
  refine x_top (show dr_fm ((nI o) + (dr_step P k row)) (nI P) = nI (dr_dd P o k row) from (dr_fm_at hp5 ho (by omega) hrw).1) ?_
  exact x_iret (D := (dC, dI)) (cl := vwCl) (A := A) () hQ hx hb hr hlk hP hD hS dX0_dataDrive_15 (by first | rfl | (simp []; done) | (simp []; omega))

abbrev rm_c_pd : Room := { frames := 1, cells := 0, slots := 0, locals := 22 }
set_option maxHeartbeats 4000000 in
set_option maxRecDepth 100000 in
theorem c_pd (l : Launch) (dC : Nat → ClassId) (dI : Nat → Nat → Nat) (cI cB cQ cJ : ClassId) (aS : Nat) (P : Nat) (o : Nat) (k : Nat) (row : Nat) (hp5 : dr_P P) (ho : o < P) (hk : k < P - 2) (hrw : dr_row P row) : MG l yX0_parityDrive (Cond.code yX0_parityDrive cX0_parityDrive 4 (some .int) :: TB) rm_c_pd (dC, dI) vwCl (TY cI cB cQ cJ) [.ref aS, .int (nI o), .int (nI k), .int (nI row)] [(aS, .inr (0, [.int (nI P), .int (nI (P - 2)), .int (nI (P - 1)), .int (nI (P * (P - 2)))]))] (fun (r : Int32) (u : Unit) => r = nI (dr_pd P o k row)) (fun (u : Unit) => [(aS, .inr (0, [.int (nI P), .int (nI (P - 2)), .int (nI (P - 1)), .int (nI (P * (P - 2)))]))]) := by
  refine MG.ofW (cc := cX0_parityDrive) (maxL := 4) (rt := .int) (by decide +kernel) rfl (Nat.le_of_ble_eq_true rfl) ?_
  intro p e s m args below meth c A ls Q H locs hQ hx hb hml hr hlk hts hown hK hP hD hS hA hl
  have hts : ∀ w ∈ TB, w.before args s = true := fun w h => hts w (List.mem_cons_of_mem _ h)
  have hown : s.vm.findClass RX0 = some m.cls := hown
  have hl : lv_has ls 4 [(0, .ref aS), (1, .int (nI o)), (2, .int (nI k)), (3, .int (nI row))] := hl
  have hP : va_P (dC, dI) vwCl [(aS, .inr (0, [.int (nI P), .int (nI (P - 2)), .int (nI (P - 1)), .int (nI (P * (P - 2)))]))] H := hP
  have hD : va_D A [(aS, .inr (0, [.int (nI P), .int (nI (P - 2)), .int (nI (P - 1)), .int (nI (P * (P - 2)))]))] := hD
  have hp := hp5.le
  have hpp := dr_PP hp5
  have hpq := dr_PP2 hp5
  have hrl : row < P := by rcases hrw with rfl | rfl <;> omega
  refine lv_iload_n hx hb dX0_parityDrive_0 rfl (lv_at hl 1 rfl) ?_
  refine lv_aload_n hx hb dX0_parityDrive_1 rfl (lv_at hl 0 rfl) ?_
  refine lv_iload_n hx hb dX0_parityDrive_2 rfl (lv_at hl 2 rfl) ?_
  refine lv_iload_n hx hb dX0_parityDrive_3 rfl (lv_at hl 3 rfl) ?_
  refine gV (wr := []) (pre := [(aS, .inr (0, [.int (nI P), .int (nI (P - 2)), .int (nI (P - 1)), .int (nI (P * (P - 2)))]))]) (tl := []) (G := fun (u : Unit) => [(aS, .inr (0, [.int (nI P), .int (nI (P - 2)), .int (nI (P - 1)), .int (nI (P * (P - 2)))]))]) (b := aS) (As := [.int (nI k), .int (nI row)]) (rst := [.int (nI o)]) ⟨hx, hb, hml, hown, hts⟩ (c_step l dC dI cI cB cQ cJ aS P k row hp5 hrl) (cwV 2 hts (gdV t_mX0_22 t_inst_X0_step t_sel_X0_step t_ini_X0 t_code_X0_step) rfl rfl rfl (by decide +kernel) ⟨Nat.le_of_ble_eq_true rfl, Nat.le_of_ble_eq_true rfl⟩) hK hP hD hS hA [0] [] [0] rfl (by decide) (fun _ => rfl) (by decide) (ci := 0) rfl rfl rfl rfl hl.1 rfl (Nat.le_of_ble_eq_true rfl) dX0_parityDrive_4 ⟨Nat.zero_le _, Nat.zero_le _⟩ (fun r u H locs hu1 hP hD hS => ?_)
  have hr4 := hu1
  have hr4 : r = dr_step P k row := hr4
  subst hr4
  have hP : va_P (dC, dI) vwCl [(aS, .inr (0, [.int (nI P), .int (nI (P - 2)), .int (nI (P - 1)), .int (nI (P * (P - 2)))]))] H := hP
  have hD : va_D A [(aS, .inr (0, [.int (nI P), .int (nI (P - 2)), .int (nI (P - 1)), .int (nI (P * (P - 2)))]))] := hD
  refine lv_isub hx hb dX0_parityDrive_7 ?_
  refine lv_aload_n hx hb dX0_parityDrive_8 rfl (lv_at hl 0 rfl) ?_
  refine va_get (D := (dC, dI)) (ci := 0) (v := .int (nI P)) (C := RX0) (T := TX0) (N := 4) hx hb hts inX0 hown hK hP 0 rfl rfl 0 (by decide) (hts _ t_fX0_7) (fun _ h9 => h9) rfl dX0_parityDrive_9 ?_
  refine gS (wr := [(aS, .inr (0, [.int (nI P), .int (nI (P - 2)), .int (nI (P - 1)), .int (nI (P * (P - 2)))]))]) (pre := [(aS, .inr (0, [.int (nI P), .int (nI (P - 2)), .int (nI (P - 1)), .int (nI (P * (P - 2)))]))]) (tl := []) (G := fun (u : Unit) => [(aS, .inr (0, [.int (nI P), .int (nI (P - 2)), .int (nI (P - 1)), .int (nI (P * (P - 2)))]))]) (As := [.int ((nI o) - (dr_step P k row)), .int (nI P)]) (rst := []) ⟨hx, hb, hml, hown, hts⟩ (c_fm l dC dI cI cB cQ cJ ((nI o) - (dr_step P k row)) (nI P) (nI_ne0 (by omega) (by omega))) (va_cwS 2 hts (gdS t_mX0_26 t_stat_J9_floorMod t_ini_J9 t_code_J9_floorMod) rfl rfl rfl (by decide +kernel) ⟨Nat.le_of_ble_eq_true rfl, Nat.le_of_ble_eq_true rfl⟩) hK hP hD hS hA [] [0] [0] rfl (by decide) (fun _ => rfl) (by decide) rfl hl.1 rfl (Nat.le_of_ble_eq_true rfl) dX0_parityDrive_12 ⟨Nat.zero_le _, Nat.zero_le _⟩ (fun r u H locs hu2 hP hD hS => ?_)
  have hr12 := hu2
  have hr12 : r = dr_fm ((nI o) - (dr_step P k row)) (nI P) := hr12
  subst hr12
  have hP : va_P (dC, dI) vwCl [(aS, .inr (0, [.int (nI P), .int (nI (P - 2)), .int (nI (P - 1)), .int (nI (P * (P - 2)))]))] H := hP
  have hD : va_D A [(aS, .inr (0, [.int (nI P), .int (nI (P - 2)), .int (nI (P - 1)), .int (nI (P * (P - 2)))]))] := hD
  refine x_top (show dr_fm ((nI o) - (dr_step P k row)) (nI P) = nI (dr_pd P o k row) from (dr_fm_at hp5 ho (by omega) hrw).2) ?_
  exact x_iret (D := (dC, dI)) (cl := vwCl) (A := A) () hQ hx hb hr hlk hP hD hS dX0_parityDrive_15 (by first | rfl | (simp []; done) | (simp []; omega))
end
section
abbrev rm_c_md : Room := { frames := 0, cells := 0, slots := 0, locals := 0 }
set_option maxHeartbeats 4000000 in
set_option maxRecDepth 100000 in
theorem c_md (l : Launch) (dC : Nat → ClassId) (dI : Nat → Nat → Nat) (cI cB cQ cJ : ClassId) (aT : Nat) (aS : Nat) (aW : Nat) (aM : Nat) (P : Nat) (w : Nat → Int32) (ms : Nat → Bool) (mk : Bool) (hp5 : dr_P P) : MG l yX1_missingDrives (Cond.code yX1_missingDrives cX1_missingDrives 3 (some .int) :: TB) rm_c_md (dC, dI) vwCl (TY cI cB cQ cJ) [.ref aT] [(aT, .inr (1, [.ref aS, .ref aW, .ref aM, .int (bI mk)])), (aW, .inl (cI, P * P, .inl w)), (aM, .inl (cB, P, .inl (fun z9 => bI (ms z9)))), (aS, .inr (0, [.int (nI P), .int (nI (P - 2)), .int (nI (P - 1)), .int (nI (P * (P - 2)))]))] (fun (r : Int32) (u : Unit) => r = nI (dr_cnt ms P)) (fun (u : Unit) => [(aT, .inr (1, [.ref aS, .ref aW, .ref aM, .int (bI mk)])), (aW, .inl (cI, P * P, .inl w)), (aM, .inl (cB, P, .inl (fun z9 => bI (ms z9)))), (aS, .inr (0, [.int (nI P), .int (nI (P - 2)), .int (nI (P - 1)), .int (nI (P * (P - 2)))]))]) := by
  refine MG.ofW (cc := cX1_missingDrives) (maxL := 3) (rt := .int) (by decide +kernel) rfl (Nat.le_of_ble_eq_true rfl) ?_
  intro p e s m args below meth c A ls Q H locs hQ hx hb hml hr hlk hts hown hK hP hD hS hA hl
  have hts : ∀ w ∈ TB, w.before args s = true := fun w h => hts w (List.mem_cons_of_mem _ h)
  have hown : s.vm.findClass RX1 = some m.cls := hown
  have hl : lv_has ls 3 [(0, .ref aT)] := hl
  have hP : va_P (dC, dI) vwCl [(aT, .inr (1, [.ref aS, .ref aW, .ref aM, .int (bI mk)])), (aW, .inl (cI, P * P, .inl w)), (aM, .inl (cB, P, .inl (fun z9 => bI (ms z9)))), (aS, .inr (0, [.int (nI P), .int (nI (P - 2)), .int (nI (P - 1)), .int (nI (P * (P - 2)))]))] H := hP
  have hD : va_D A [(aT, .inr (1, [.ref aS, .ref aW, .ref aM, .int (bI mk)])), (aW, .inl (cI, P * P, .inl w)), (aM, .inl (cB, P, .inl (fun z9 => bI (ms z9)))), (aS, .inr (0, [.int (nI P), .int (nI (P - 2)), .int (nI (P - 1)), .int (nI (P * (P - 2)))]))] := hD
  have hp := hp5.le
  have hpp := dr_PP hp5
  have hpq := dr_PP2 hp5
  refine lv_iconst (v := nI 0) hx hb dX1_missingDrives_0 (by decide) ?_
  refine lv_istore_n hx hb dX1_missingDrives_1 rfl hl (by decide) rfl (fun ls hl => ?_)
  have hl : lv_has ls 3 [(1, .int (nI 0)), (0, .ref aT)] := hl
  refine lv_iconst (v := nI 0) hx hb dX1_missingDrives_2 (by decide) ?_
  refine lv_istore_n hx hb dX1_missingDrives_3 rfl hl (by decide) rfl (fun ls hl => ?_)
  have hl : lv_has ls 3 [(2, .int (nI 0)), (1, .int (nI 0)), (0, .ref aT)] := hl
  have lp4 : ∀ (n9 : Nat) (i : Nat) (ls : Array Slot) (H : Heap) (locs : List Loc), P - i < n9 → (i ≤ P) → lv_has ls 3 [(2, .int (nI i)), (1, .int (nI (dr_cnt ms i))), (0, .ref aT)] → va_P (dC, dI) vwCl [(aT, .inr (1, [.ref aS, .ref aW, .ref aM, .int (bI mk)])), (aW, .inl (cI, P * P, .inl w)), (aM, .inl (cB, P, .inl (fun z9 => bI (ms z9)))), (aS, .inr (0, [.int (nI P), .int (nI (P - 2)), .int (nI (P - 1)), .int (nI (P * (P - 2)))]))] H → va_D A [(aT, .inr (1, [.ref aS, .ref aW, .ref aM, .int (bI mk)])), (aW, .inl (cI, P * P, .inl w)), (aM, .inl (cB, P, .inl (fun z9 => bI (ms z9)))), (aS, .inr (0, [.int (nI P), .int (nI (P - 2)), .int (nI (P - 1)), .int (nI (P * (P - 2)))]))] → va_S A s.heap H locs → W p l e rm_c_md s m args below meth c H locs 0 0 Q (F0 m 4 ls []) := by
    intro n9
    induction n9 with
    | zero => intro i ls H locs hn9; omega
    | succ n9 ih4 =>
      intro i ls H locs hn9 hi hl hP hD hS
      refine lv_iload_n hx hb dX1_missingDrives_4 rfl (lv_at hl 0 rfl) ?_
      refine lv_aload_n hx hb dX1_missingDrives_5 rfl (lv_at hl 2 rfl) ?_
      refine va_get (D := (dC, dI)) (ci := 1) (v := .ref aS) (C := RX1) (T := TX1) (N := 4) hx hb hts inX1 hown hK hP 0 rfl rfl 0 (by decide) (hts _ t_fX1_9) (fun _ h9 => h9) rfl dX1_missingDrives_6 ?_
      refine va_get (D := (dC, dI)) (ci := 0) (v := .int (nI P)) (C := RX0) (T := TX0) (N := 4) hx hb hts inX0 hown hK hP 3 rfl rfl 0 (by decide) (hts _ t_fX1_15) (fun _ h9 => h9) rfl dX1_missingDrives_9 ?_
      refine x_cge (tgt := 33) hx hb dX1_missingDrives_12 (by decide) (by omega) (by omega) (fun h12 => ?_) (fun h12 => ?_)
      · -- 12t
        have hie12 : i = P := by omega
        try rw [hie12] at hl
        try rw [hie12] at hP
        try rw [hie12] at hD
        have hl : lv_has ls 3 [(2, .int (nI P)), (1, .int (nI (dr_cnt ms P))), (0, .ref aT)] := hl
        have hP : va_P (dC, dI) vwCl [(aT, .inr (1, [.ref aS, .ref aW, .ref aM, .int (bI mk)])), (aW, .inl (cI, P * P, .inl w)), (aM, .inl (cB, P, .inl (fun z9 => bI (ms z9)))), (aS, .inr (0, [.int (nI P), .int (nI (P - 2)), .int (nI (P - 1)), .int (nI (P * (P - 2)))]))] H := hP
        have hD : va_D A [(aT, .inr (1, [.ref aS, .ref aW, .ref aM, .int (bI mk)])), (aW, .inl (cI, P * P, .inl w)), (aM, .inl (cB, P, .inl (fun z9 => bI (ms z9)))), (aS, .inr (0, [.int (nI P), .int (nI (P - 2)), .int (nI (P - 1)), .int (nI (P * (P - 2)))]))] := hD
        refine lv_iload_n hx hb dX1_missingDrives_33 rfl (lv_at hl 1 rfl) ?_
        exact x_iret (D := (dC, dI)) (cl := vwCl) (A := A) () hQ hx hb hr hlk hP hD hS dX1_missingDrives_34 (by first | rfl | (simp [h12]; done) | (simp [h12]; omega))
      · -- 12f
        refine lv_aload_n hx hb dX1_missingDrives_15 rfl (lv_at hl 2 rfl) ?_
        refine va_get (D := (dC, dI)) (ci := 1) (v := .ref aM) (C := RX1) (T := TX1) (N := 4) hx hb hts inX1 hown hK hP 0 rfl rfl 2 (by decide) (hts _ t_fX1_25) (fun _ h9 => h9) rfl dX1_missingDrives_16 ?_
        refine lv_iload_n hx hb dX1_missingDrives_19 rfl (lv_at hl 0 rfl) ?_
        refine x_zald (g := ms) hx hb hK hP 2 1 rfl rfl dX1_missingDrives_20 (by omega) (by omega) ?_
        refine x_ifF (tgt := 27) hx hb dX1_missingDrives_21 (by decide) (fun h21 => ?_) (fun h21 => ?_)
        · -- 21t
          refine lv_iinc (v := nI (i + 1)) hx hb dX1_missingDrives_27 hl (k := 0) rfl (x_inc _) (by decide) rfl (fun ls hl => ?_)
          have hl : lv_has ls 3 [(2, .int (nI (i + 1))), (1, .int (nI (dr_cnt ms i))), (0, .ref aT)] := hl
          refine lv_goto (tgt := 4) hx hb dX1_missingDrives_30 (by decide) ?_
          have e1 : (dr_cnt ms (i + 1)) = (dr_cnt ms i) := by first | rfl | (simp [dr_cnt, h12, h21]; done) | (simp [dr_cnt, h12, h21]; omega)
          exact ih4 (i + 1) ls H locs (by omega) (by omega) (by rw [e1]; exact lv_sub hl [0, 1, 2] rfl) hP hD hS
        · -- 21f
          refine lv_iinc (v := nI (dr_cnt ms i + 1)) hx hb dX1_missingDrives_24 hl (k := 1) rfl (x_inc _) (by decide) rfl (fun ls hl => ?_)
          have hl : lv_has ls 3 [(1, .int (nI (dr_cnt ms i + 1))), (2, .int (nI i)), (0, .ref aT)] := hl
          refine lv_iinc (v := nI (i + 1)) hx hb dX1_missingDrives_27 hl (k := 1) rfl (x_inc _) (by decide) rfl (fun ls hl => ?_)
          have hl : lv_has ls 3 [(2, .int (nI (i + 1))), (1, .int (nI (dr_cnt ms i + 1))), (0, .ref aT)] := hl
          refine lv_goto (tgt := 4) hx hb dX1_missingDrives_30 (by decide) ?_
          have e2 : (dr_cnt ms (i + 1)) = (dr_cnt ms i + 1) := by first | rfl | (simp [dr_cnt, h12, h21]; done) | (simp [dr_cnt, h12, h21]; omega)
          exact ih4 (i + 1) ls H locs (by omega) (by omega) (by rw [e2]; exact lv_sub hl [0, 1, 2] rfl) hP hD hS
  have e3 : (dr_cnt ms 0) = 0 := by first | rfl | (simp [dr_cnt]; done) | (simp [dr_cnt]; omega)
  exact lp4 (P - 0 + 1) 0 ls H locs (by omega) (by omega) (by rw [e3]; exact lv_sub hl [0, 1, 2] rfl) hP hD hS

abbrev rm_c_unsure : Room := { frames := 1, cells := 0, slots := 0, locals := 22 }
set_option maxHeartbeats 4000000 in
set_option maxRecDepth 100000 in
theorem c_unsure (l : Launch) (dC : Nat → ClassId) (dI : Nat → Nat → Nat) (cI cB cQ cJ : ClassId) (aT : Nat) (aS : Nat) (aW : Nat) (aM : Nat) (P : Nat) (w : Nat → Int32) (ms : Nat → Bool) (mk : Bool) (hp5 : dr_P P) : MG l yX1_isUnsure (Cond.code yX1_isUnsure cX1_isUnsure 1 (some .boolean) :: TB) rm_c_unsure (dC, dI) vwCl (TY cI cB cQ cJ) [.ref aT] [(aT, .inr (1, [.ref aS, .ref aW, .ref aM, .int (bI mk)])), (aW, .inl (cI, P * P, .inl w)), (aM, .inl (cB, P, .inl (fun z9 => bI (ms z9)))), (aS, .inr (0, [.int (nI P), .int (nI (P - 2)), .int (nI (P - 1)), .int (nI (P * (P - 2)))]))] (fun (r : Int32) (u : Unit) => r = bI (mk && decide (0 < dr_cnt ms P))) (fun (u : Unit) => [(aT, .inr (1, [.ref aS, .ref aW, .ref aM, .int (bI mk)])), (aW, .inl (cI, P * P, .inl w)), (aM, .inl (cB, P, .inl (fun z9 => bI (ms z9)))), (aS, .inr (0, [.int (nI P), .int (nI (P - 2)), .int (nI (P - 1)), .int (nI (P * (P - 2)))]))]) := by
  refine MG.ofW (cc := cX1_isUnsure) (maxL := 1) (rt := .boolean) (by decide +kernel) rfl (Nat.le_of_ble_eq_true rfl) ?_
  intro p e s m args below meth c A ls Q H locs hQ hx hb hml hr hlk hts hown hK hP hD hS hA hl
  have hts : ∀ w ∈ TB, w.before args s = true := fun w h => hts w (List.mem_cons_of_mem _ h)
  have hown : s.vm.findClass RX1 = some m.cls := hown
  have hl : lv_has ls 1 [(0, .ref aT)] := hl
  have hP : va_P (dC, dI) vwCl [(aT, .inr (1, [.ref aS, .ref aW, .ref aM, .int (bI mk)])), (aW, .inl (cI, P * P, .inl w)), (aM, .inl (cB, P, .inl (fun z9 => bI (ms z9)))), (aS, .inr (0, [.int (nI P), .int (nI (P - 2)), .int (nI (P - 1)), .int (nI (P * (P - 2)))]))] H := hP
  have hD : va_D A [(aT, .inr (1, [.ref aS, .ref aW, .ref aM, .int (bI mk)])), (aW, .inl (cI, P * P, .inl w)), (aM, .inl (cB, P, .inl (fun z9 => bI (ms z9)))), (aS, .inr (0, [.int (nI P), .int (nI (P - 2)), .int (nI (P - 1)), .int (nI (P * (P - 2)))]))] := hD
  have hp := hp5.le
  have hpp := dr_PP hp5
  have hpq := dr_PP2 hp5
  have hc := dr_cnt_le (g := ms) P
  refine lv_aload_n hx hb dX1_isUnsure_0 rfl (lv_at hl 0 rfl) ?_
  refine va_get (D := (dC, dI)) (ci := 1) (v := .int (bI mk)) (C := RX1) (T := TX1) (N := 4) hx hb hts inX1 hown hK hP 0 rfl rfl 3 (by decide) (hts _ t_fX1_29) (fun _ h9 => h9) rfl dX1_isUnsure_1 ?_
  refine x_ifF (tgt := 18) hx hb dX1_isUnsure_4 (by decide) (fun h4 => ?_) (fun h4 => ?_)
  · -- 4t
    refine lv_iconst (v := bI false) hx hb dX1_isUnsure_18 (by decide) ?_
    exact x_zret (D := (dC, dI)) (cl := vwCl) (A := A) () hQ hx hb hr hlk hP hD hS dX1_isUnsure_19 (by first | rfl | (simp [h4]; done) | (simp [h4]; omega))
  · -- 4f
    refine lv_aload_n hx hb dX1_isUnsure_7 rfl (lv_at hl 0 rfl) ?_
    refine gV (wr := []) (pre := [(aT, .inr (1, [.ref aS, .ref aW, .ref aM, .int (bI mk)])), (aW, .inl (cI, P * P, .inl w)), (aM, .inl (cB, P, .inl (fun z9 => bI (ms z9)))), (aS, .inr (0, [.int (nI P), .int (nI (P - 2)), .int (nI (P - 1)), .int (nI (P * (P - 2)))]))]) (tl := []) (G := fun (u : Unit) => [(aT, .inr (1, [.ref aS, .ref aW, .ref aM, .int (bI mk)])), (aW, .inl (cI, P * P, .inl w)), (aM, .inl (cB, P, .inl (fun z9 => bI (ms z9)))), (aS, .inr (0, [.int (nI P), .int (nI (P - 2)), .int (nI (P - 1)), .int (nI (P * (P - 2)))]))]) (b := aT) (As := []) (rst := []) ⟨hx, hb, hml, hown, hts⟩ (c_md l dC dI cI cB cQ cJ aT aS aW aM P w ms mk hp5) (cwV 0 hts (gdV t_mX1_33 t_inst_X1_missingDrives t_sel_X1_missingDrives t_ini_X1 t_code_X1_missingDrives) rfl rfl rfl (by decide +kernel) ⟨Nat.le_of_ble_eq_true rfl, Nat.le_of_ble_eq_true rfl⟩) hK hP hD hS hA [0, 1, 2, 3] [] [0, 1, 2, 3] rfl (by decide) (fun _ => rfl) (by decide) (ci := 1) rfl rfl rfl rfl hl.1 rfl (Nat.le_of_ble_eq_true rfl) dX1_isUnsure_8 ⟨Nat.zero_le _, Nat.zero_le _⟩ (fun r u H locs hu1 hP hD hS => ?_)
    have hr8 := hu1
    have hr8 : r = nI (dr_cnt ms P) := hr8
    subst hr8
    have hP : va_P (dC, dI) vwCl [(aT, .inr (1, [.ref aS, .ref aW, .ref aM, .int (bI mk)])), (aW, .inl (cI, P * P, .inl w)), (aM, .inl (cB, P, .inl (fun z9 => bI (ms z9)))), (aS, .inr (0, [.int (nI P), .int (nI (P - 2)), .int (nI (P - 1)), .int (nI (P * (P - 2)))]))] H := hP
    have hD : va_D A [(aT, .inr (1, [.ref aS, .ref aW, .ref aM, .int (bI mk)])), (aW, .inl (cI, P * P, .inl w)), (aM, .inl (cB, P, .inl (fun z9 => bI (ms z9)))), (aS, .inr (0, [.int (nI P), .int (nI (P - 2)), .int (nI (P - 1)), .int (nI (P * (P - 2)))]))] := hD
    refine x_lez (tgt := 18) hx hb dX1_isUnsure_11 (by decide) (by omega) (fun h11 => ?_) (fun h11 => ?_)
    · -- 11t
      refine lv_iconst (v := bI false) hx hb dX1_isUnsure_18 (by decide) ?_
      exact x_zret (D := (dC, dI)) (cl := vwCl) (A := A) () hQ hx hb hr hlk hP hD hS dX1_isUnsure_19 (by first | rfl | (simp [h4, h11]; done) | (simp [h4, h11]; omega))
    · -- 11f
      refine lv_iconst (v := bI true) hx hb dX1_isUnsure_14 (by decide) ?_
      refine lv_goto (tgt := 19) hx hb dX1_isUnsure_15 (by decide) ?_
      exact x_zret (D := (dC, dI)) (cl := vwCl) (A := A) () hQ hx hb hr hlk hP hD hS dX1_isUnsure_19 (by first | rfl | (simp [h4, h11]; done) | (simp [h4, h11]; omega))

abbrev rm_c_told : Room := { frames := 1, cells := 0, slots := 0, locals := 22 }
set_option maxHeartbeats 4000000 in
set_option maxRecDepth 100000 in
theorem c_told (l : Launch) (dC : Nat → ClassId) (dI : Nat → Nat → Nat) (cI cB cQ cJ : ClassId) (aT : Nat) (aS : Nat) (aW : Nat) (aM : Nat) (P : Nat) (w : Nat → Int32) (ms : Nat → Bool) (mk : Bool) (hp5 : dr_P P) : MG l yX1_isTold (Cond.code yX1_isTold cX1_isTold 1 (some .boolean) :: TB) rm_c_told (dC, dI) vwCl (TY cI cB cQ cJ) [.ref aT] [(aT, .inr (1, [.ref aS, .ref aW, .ref aM, .int (bI mk)])), (aW, .inl (cI, P * P, .inl w)), (aM, .inl (cB, P, .inl (fun z9 => bI (ms z9)))), (aS, .inr (0, [.int (nI P), .int (nI (P - 2)), .int (nI (P - 1)), .int (nI (P * (P - 2)))]))] (fun (r : Int32) (u : Unit) => r = bI (!mk && decide (dr_cnt ms P ≤ 2))) (fun (u : Unit) => [(aT, .inr (1, [.ref aS, .ref aW, .ref aM, .int (bI mk)])), (aW, .inl (cI, P * P, .inl w)), (aM, .inl (cB, P, .inl (fun z9 => bI (ms z9)))), (aS, .inr (0, [.int (nI P), .int (nI (P - 2)), .int (nI (P - 1)), .int (nI (P * (P - 2)))]))]) := by
  refine MG.ofW (cc := cX1_isTold) (maxL := 1) (rt := .boolean) (by decide +kernel) rfl (Nat.le_of_ble_eq_true rfl) ?_
  intro p e s m args below meth c A ls Q H locs hQ hx hb hml hr hlk hts hown hK hP hD hS hA hl
  have hts : ∀ w ∈ TB, w.before args s = true := fun w h => hts w (List.mem_cons_of_mem _ h)
  have hown : s.vm.findClass RX1 = some m.cls := hown
  have hl : lv_has ls 1 [(0, .ref aT)] := hl
  have hP : va_P (dC, dI) vwCl [(aT, .inr (1, [.ref aS, .ref aW, .ref aM, .int (bI mk)])), (aW, .inl (cI, P * P, .inl w)), (aM, .inl (cB, P, .inl (fun z9 => bI (ms z9)))), (aS, .inr (0, [.int (nI P), .int (nI (P - 2)), .int (nI (P - 1)), .int (nI (P * (P - 2)))]))] H := hP
  have hD : va_D A [(aT, .inr (1, [.ref aS, .ref aW, .ref aM, .int (bI mk)])), (aW, .inl (cI, P * P, .inl w)), (aM, .inl (cB, P, .inl (fun z9 => bI (ms z9)))), (aS, .inr (0, [.int (nI P), .int (nI (P - 2)), .int (nI (P - 1)), .int (nI (P * (P - 2)))]))] := hD
  have hp := hp5.le
  have hpp := dr_PP hp5
  have hpq := dr_PP2 hp5
  have hc := dr_cnt_le (g := ms) P
  refine lv_aload_n hx hb dX1_isTold_0 rfl (lv_at hl 0 rfl) ?_
  refine va_get (D := (dC, dI)) (ci := 1) (v := .int (bI mk)) (C := RX1) (T := TX1) (N := 4) hx hb hts inX1 hown hK hP 0 rfl rfl 3 (by decide) (hts _ t_fX1_29) (fun _ h9 => h9) rfl dX1_isTold_1 ?_
  refine x_ifT (tgt := 19) hx hb dX1_isTold_4 (by decide) (fun h4 => ?_) (fun h4 => ?_)
  · -- 4t
    refine lv_iconst (v := bI false) hx hb dX1_isTold_19 (by decide) ?_
    exact x_zret (D := (dC, dI)) (cl := vwCl) (A := A) () hQ hx hb hr hlk hP hD hS dX1_isTold_20 (by first | rfl | (simp [h4]; done) | (simp [h4, h12]; done) | (rw [h4, decide_eq_false (by omega)]; rfl))
  · -- 4f
    refine lv_aload_n hx hb dX1_isTold_7 rfl (lv_at hl 0 rfl) ?_
    refine gV (wr := []) (pre := [(aT, .inr (1, [.ref aS, .ref aW, .ref aM, .int (bI mk)])), (aW, .inl (cI, P * P, .inl w)), (aM, .inl (cB, P, .inl (fun z9 => bI (ms z9)))), (aS, .inr (0, [.int (nI P), .int (nI (P - 2)), .int (nI (P - 1)), .int (nI (P * (P - 2)))]))]) (tl := []) (G := fun (u : Unit) => [(aT, .inr (1, [.ref aS, .ref aW, .ref aM, .int (bI mk)])), (aW, .inl (cI, P * P, .inl w)), (aM, .inl (cB, P, .inl (fun z9 => bI (ms z9)))), (aS, .inr (0, [.int (nI P), .int (nI (P - 2)), .int (nI (P - 1)), .int (nI (P * (P - 2)))]))]) (b := aT) (As := []) (rst := []) ⟨hx, hb, hml, hown, hts⟩ (c_md l dC dI cI cB cQ cJ aT aS aW aM P w ms mk hp5) (cwV 0 hts (gdV t_mX1_33 t_inst_X1_missingDrives t_sel_X1_missingDrives t_ini_X1 t_code_X1_missingDrives) rfl rfl rfl (by decide +kernel) ⟨Nat.le_of_ble_eq_true rfl, Nat.le_of_ble_eq_true rfl⟩) hK hP hD hS hA [0, 1, 2, 3] [] [0, 1, 2, 3] rfl (by decide) (fun _ => rfl) (by decide) (ci := 1) rfl rfl rfl rfl hl.1 rfl (Nat.le_of_ble_eq_true rfl) dX1_isTold_8 ⟨Nat.zero_le _, Nat.zero_le _⟩ (fun r u H locs hu1 hP hD hS => ?_)
    have hr8 := hu1
    have hr8 : r = nI (dr_cnt ms P) := hr8
    subst hr8
    have hP : va_P (dC, dI) vwCl [(aT, .inr (1, [.ref aS, .ref aW, .ref aM, .int (bI mk)])), (aW, .inl (cI, P * P, .inl w)), (aM, .inl (cB, P, .inl (fun z9 => bI (ms z9)))), (aS, .inr (0, [.int (nI P), .int (nI (P - 2)), .int (nI (P - 1)), .int (nI (P * (P - 2)))]))] H := hP
    have hD : va_D A [(aT, .inr (1, [.ref aS, .ref aW, .ref aM, .int (bI mk)])), (aW, .inl (cI, P * P, .inl w)), (aM, .inl (cB, P, .inl (fun z9 => bI (ms z9)))), (aS, .inr (0, [.int (nI P), .int (nI (P - 2)), .int (nI (P - 1)), .int (nI (P * (P - 2)))]))] := hD
    refine lv_iconst (v := nI 2) hx hb dX1_isTold_11 (by decide) ?_
    refine x_cgt (tgt := 19) hx hb dX1_isTold_12 (by decide) (by omega) (by omega) (fun h12 => ?_) (fun h12 => ?_)
    · -- 12t
      refine lv_iconst (v := bI false) hx hb dX1_isTold_19 (by decide) ?_
      exact x_zret (D := (dC, dI)) (cl := vwCl) (A := A) () hQ hx hb hr hlk hP hD hS dX1_isTold_20 (by first | rfl | (simp [h4]; done) | (simp [h4, h12]; done) | (rw [h4, decide_eq_false (by omega)]; rfl))
    · -- 12f
      refine lv_iconst (v := bI true) hx hb dX1_isTold_15 (by decide) ?_
      refine lv_goto (tgt := 20) hx hb dX1_isTold_16 (by decide) ?_
      exact x_zret (D := (dC, dI)) (cl := vwCl) (A := A) () hQ hx hb hr hlk hP hD hS dX1_isTold_20 (by first | rfl | (simp [h4]; done) | (simp [h4, h12]; done) | (rw [h4, decide_eq_false (by omega)]; rfl))

abbrev rm_c_drop : Room := { frames := 1, cells := 0, slots := 0, locals := 22 }
set_option maxHeartbeats 4000000 in
set_option maxRecDepth 100000 in
theorem c_drop (l : Launch) (dC : Nat → ClassId) (dI : Nat → Nat → Nat) (cI cB cQ cJ : ClassId) (aT : Nat) (aS : Nat) (aW : Nat) (aM : Nat) (P : Nat) (w : Nat → Int32) (ms : Nat → Bool) (mk : Bool) (d : Nat) (hp5 : dr_P P) (hd : d < P) : MV l yX1_drop (Cond.code yX1_drop cX1_drop 3 none :: TB) rm_c_drop (dC, dI) vwCl (TY cI cB cQ cJ) [.ref aT, .int (nI d)] [(aT, .inr (1, [.ref aS, .ref aW, .ref aM, .int (bI mk)])), (aW, .inl (cI, P * P, .inl w)), (aM, .inl (cB, P, .inl (fun z9 => bI (ms z9)))), (aS, .inr (0, [.int (nI P), .int (nI (P - 2)), .int (nI (P - 1)), .int (nI (P * (P - 2)))]))] (fun (u : Unit) => True) (fun (u : Unit) => [(aT, .inr (1, [.ref aS, .ref aW, .ref aM, .int (bI mk)])), (aW, .inl (cI, P * P, .inl (dr_zr P w d P))), (aM, .inl (cB, P, .inl (fun z9 => bI ((va_up ms d true) z9)))), (aS, .inr (0, [.int (nI P), .int (nI (P - 2)), .int (nI (P - 1)), .int (nI (P * (P - 2)))]))]) := by
  refine MV.ofW (cc := cX1_drop) (maxL := 3) (by decide +kernel) rfl (Nat.le_of_ble_eq_true rfl) ?_
  intro p e s m args below meth c A ls Q H locs hQ hx hb hml hr hlk hts hown hK hP hD hS hA hl
  have hts : ∀ w ∈ TB, w.before args s = true := fun w h => hts w (List.mem_cons_of_mem _ h)
  have hown : s.vm.findClass RX1 = some m.cls := hown
  have hl : lv_has ls 3 [(0, .ref aT), (1, .int (nI d))] := hl
  have hP : va_P (dC, dI) vwCl [(aT, .inr (1, [.ref aS, .ref aW, .ref aM, .int (bI mk)])), (aW, .inl (cI, P * P, .inl w)), (aM, .inl (cB, P, .inl (fun z9 => bI (ms z9)))), (aS, .inr (0, [.int (nI P), .int (nI (P - 2)), .int (nI (P - 1)), .int (nI (P * (P - 2)))]))] H := hP
  have hD : va_D A [(aT, .inr (1, [.ref aS, .ref aW, .ref aM, .int (bI mk)])), (aW, .inl (cI, P * P, .inl w)), (aM, .inl (cB, P, .inl (fun z9 => bI (ms z9)))), (aS, .inr (0, [.int (nI P), .int (nI (P - 2)), .int (nI (P - 1)), .int (nI (P * (P - 2)))]))] := hD
  have hp := hp5.le
  have hpp := dr_PP hp5
  have hpq := dr_PP2 hp5
  refine lv_aload_n hx hb dX1_drop_0 rfl (lv_at hl 0 rfl) ?_
  refine va_get (D := (dC, dI)) (ci := 1) (v := .ref aM) (C := RX1) (T := TX1) (N := 4) hx hb hts inX1 hown hK hP 0 rfl rfl 2 (by decide) (hts _ t_fX1_25) (fun _ h9 => h9) rfl dX1_drop_1 ?_
  refine lv_iload_n hx hb dX1_drop_4 rfl (lv_at hl 1 rfl) ?_
  refine lv_iconst (v := bI true) hx hb dX1_drop_5 (by decide) ?_
  refine x_zast (g := ms) hx hb hK hP hD hS 2 1 rfl rfl dX1_drop_6 (by omega) (by omega) (fun H locs hP hD hS => ?_)
  have hP : va_P (dC, dI) vwCl [(aT, .inr (1, [.ref aS, .ref aW, .ref aM, .int (bI mk)])), (aW, .inl (cI, P * P, .inl w)), (aM, .inl (cB, P, .inl (fun z9 => bI ((va_up ms d true) z9)))), (aS, .inr (0, [.int (nI P), .int (nI (P - 2)), .int (nI (P - 1)), .int (nI (P * (P - 2)))]))] H := hP
  have hD : va_D A [(aT, .inr (1, [.ref aS, .ref aW, .ref aM, .int (bI mk)])), (aW, .inl (cI, P * P, .inl w)), (aM, .inl (cB, P, .inl (fun z9 => bI ((va_up ms d true) z9)))), (aS, .inr (0, [.int (nI P), .int (nI (P - 2)), .int (nI (P - 1)), .int (nI (P * (P - 2)))]))] := hD
  refine lv_iconst (v := nI 0) hx hb dX1_drop_7 (by decide) ?_
  refine lv_istore_n hx hb dX1_drop_8 rfl hl (by decide) rfl (fun ls hl => ?_)
  have hl : lv_has ls 3 [(2, .int (nI 0)), (0, .ref aT), (1, .int (nI d))] := hl
  have lp9 : ∀ (n9 : Nat) (i : Nat) (ls : Array Slot) (H : Heap) (locs : List Loc), P - i < n9 → (i ≤ P) → lv_has ls 3 [(2, .int (nI i)), (1, .int (nI d)), (0, .ref aT)] → va_P (dC, dI) vwCl [(aT, .inr (1, [.ref aS, .ref aW, .ref aM, .int (bI mk)])), (aW, .inl (cI, P * P, .inl (dr_zr P w d i))), (aM, .inl (cB, P, .inl (fun z9 => bI ((va_up ms d true) z9)))), (aS, .inr (0, [.int (nI P), .int (nI (P - 2)), .int (nI (P - 1)), .int (nI (P * (P - 2)))]))] H → va_D A [(aT, .inr (1, [.ref aS, .ref aW, .ref aM, .int (bI mk)])), (aW, .inl (cI, P * P, .inl (dr_zr P w d i))), (aM, .inl (cB, P, .inl (fun z9 => bI ((va_up ms d true) z9)))), (aS, .inr (0, [.int (nI P), .int (nI (P - 2)), .int (nI (P - 1)), .int (nI (P * (P - 2)))]))] → va_S A s.heap H locs → W p l e rm_c_drop s m args below meth c H locs 0 0 Q (F0 m 9 ls []) := by
    intro n9
    induction n9 with
    | zero => intro i ls H locs hn9; omega
    | succ n9 ih9 =>
      intro i ls H locs hn9 hi hl hP hD hS
      refine lv_iload_n hx hb dX1_drop_9 rfl (lv_at hl 0 rfl) ?_
      refine lv_aload_n hx hb dX1_drop_10 rfl (lv_at hl 2 rfl) ?_
      refine va_get (D := (dC, dI)) (ci := 1) (v := .ref aS) (C := RX1) (T := TX1) (N := 4) hx hb hts inX1 hown hK hP 0 rfl rfl 0 (by decide) (hts _ t_fX1_9) (fun _ h9 => h9) rfl dX1_drop_11 ?_
      refine va_get (D := (dC, dI)) (ci := 0) (v := .int (nI P)) (C := RX0) (T := TX0) (N := 4) hx hb hts inX0 hown hK hP 3 rfl rfl 0 (by decide) (hts _ t_fX1_15) (fun _ h9 => h9) rfl dX1_drop_14 ?_
      refine x_cge (tgt := 41) hx hb dX1_drop_17 (by decide) (by omega) (by omega) (fun h17 => ?_) (fun h17 => ?_)
      · -- 17t
        have hie17 : i = P := by omega
        try rw [hie17] at hl
        try rw [hie17] at hP
        try rw [hie17] at hD
        have hl : lv_has ls 3 [(2, .int (nI P)), (1, .int (nI d)), (0, .ref aT)] := hl
        have hP : va_P (dC, dI) vwCl [(aT, .inr (1, [.ref aS, .ref aW, .ref aM, .int (bI mk)])), (aW, .inl (cI, P * P, .inl (dr_zr P w d P))), (aM, .inl (cB, P, .inl (fun z9 => bI ((va_up ms d true) z9)))), (aS, .inr (0, [.int (nI P), .int (nI (P - 2)), .int (nI (P - 1)), .int (nI (P * (P - 2)))]))] H := hP
        have hD : va_D A [(aT, .inr (1, [.ref aS, .ref aW, .ref aM, .int (bI mk)])), (aW, .inl (cI, P * P, .inl (dr_zr P w d P))), (aM, .inl (cB, P, .inl (fun z9 => bI ((va_up ms d true) z9)))), (aS, .inr (0, [.int (nI P), .int (nI (P - 2)), .int (nI (P - 1)), .int (nI (P * (P - 2)))]))] := hD
        exact x_vret (D := (dC, dI)) (cl := vwCl) (A := A) () hQ hx hb hr hlk hP hD hS dX1_drop_41 trivial
      · -- 17f
        refine lv_aload_n hx hb dX1_drop_20 rfl (lv_at hl 2 rfl) ?_
        refine va_get (D := (dC, dI)) (ci := 1) (v := .ref aW) (C := RX1) (T := TX1) (N := 4) hx hb hts inX1 hown hK hP 0 rfl rfl 1 (by decide) (hts _ t_fX1_21) (fun _ h9 => h9) rfl dX1_drop_21 ?_
        refine lv_aload_n hx hb dX1_drop_24 rfl (lv_at hl 2 rfl) ?_
        refine va_get (D := (dC, dI)) (ci := 1) (v := .ref aS) (C := RX1) (T := TX1) (N := 4) hx hb hts inX1 hown hK hP 0 rfl rfl 0 (by decide) (hts _ t_fX1_9) (fun _ h9 => h9) rfl dX1_drop_25 ?_
        refine lv_iload_n hx hb dX1_drop_28 rfl (lv_at hl 1 rfl) ?_
        refine lv_iload_n hx hb dX1_drop_29 rfl (lv_at hl 0 rfl) ?_
        refine gV (wr := [(aT, .inr (1, [.ref aS, .ref aW, .ref aM, .int (bI mk)])), (aW, .inl (cI, P * P, .inl (dr_zr P w d i))), (aM, .inl (cB, P, .inl (fun z9 => bI ((va_up ms d true) z9))))]) (pre := [(aT, .inr (1, [.ref aS, .ref aW, .ref aM, .int (bI mk)])), (aW, .inl (cI, P * P, .inl (dr_zr P w d i))), (aM, .inl (cB, P, .inl (fun z9 => bI ((va_up ms d true) z9)))), (aS, .inr (0, [.int (nI P), .int (nI (P - 2)), .int (nI (P - 1)), .int (nI (P * (P - 2)))]))]) (tl := []) (G := fun (u : Unit) => [(aT, .inr (1, [.ref aS, .ref aW, .ref aM, .int (bI mk)])), (aW, .inl (cI, P * P, .inl (dr_zr P w d i))), (aM, .inl (cB, P, .inl (fun z9 => bI ((va_up ms d true) z9)))), (aS, .inr (0, [.int (nI P), .int (nI (P - 2)), .int (nI (P - 1)), .int (nI (P * (P - 2)))]))]) (b := aS) (As := [.int (nI d), .int (nI i)]) (rst := [.ref aW]) ⟨hx, hb, hml, hown, hts⟩ (c_place l dC dI cI cB cQ cJ aS P d i ) (cwV 2 hts (gdV t_mX1_37 t_inst_X0_place t_sel_X0_place t_ini_X0 t_code_X0_place) rfl rfl rfl (by decide +kernel) ⟨Nat.le_of_ble_eq_true rfl, Nat.le_of_ble_eq_true rfl⟩) hK hP hD hS hA [3] [0, 1, 2] [1, 2, 3, 0] rfl (by decide) (fun _ => rfl) (by decide) (ci := 0) rfl rfl rfl rfl hl.1 rfl (Nat.le_of_ble_eq_true rfl) dX1_drop_30 ⟨Nat.zero_le _, Nat.zero_le _⟩ (fun r u H locs hu1 hP hD hS => ?_)
        have hr30 := hu1
        have hr30 : r = nI (d * P + i) := hr30
        subst hr30
        have hP : va_P (dC, dI) vwCl [(aT, .inr (1, [.ref aS, .ref aW, .ref aM, .int (bI mk)])), (aW, .inl (cI, P * P, .inl (dr_zr P w d i))), (aM, .inl (cB, P, .inl (fun z9 => bI ((va_up ms d true) z9)))), (aS, .inr (0, [.int (nI P), .int (nI (P - 2)), .int (nI (P - 1)), .int (nI (P * (P - 2)))]))] H := hP
        have hD : va_D A [(aT, .inr (1, [.ref aS, .ref aW, .ref aM, .int (bI mk)])), (aW, .inl (cI, P * P, .inl (dr_zr P w d i))), (aM, .inl (cB, P, .inl (fun z9 => bI ((va_up ms d true) z9)))), (aS, .inr (0, [.int (nI P), .int (nI (P - 2)), .int (nI (P - 1)), .int (nI (P * (P - 2)))]))] := hD
        refine lv_iconst (v := 0) hx hb dX1_drop_33 (by decide) ?_
        refine x_iast (f := dr_zr P w d i) hx hb hK hP hD hS 1 0 rfl rfl dX1_drop_34 (dr_pl hd (by omega)) (by omega) (fun H locs hP hD hS => ?_)
        have hP : va_P (dC, dI) vwCl [(aT, .inr (1, [.ref aS, .ref aW, .ref aM, .int (bI mk)])), (aW, .inl (cI, P * P, .inl (va_up (dr_zr P w d i) (d * P + i) 0))), (aM, .inl (cB, P, .inl (fun z9 => bI ((va_up ms d true) z9)))), (aS, .inr (0, [.int (nI P), .int (nI (P - 2)), .int (nI (P - 1)), .int (nI (P * (P - 2)))]))] H := hP
        have hD : va_D A [(aT, .inr (1, [.ref aS, .ref aW, .ref aM, .int (bI mk)])), (aW, .inl (cI, P * P, .inl (va_up (dr_zr P w d i) (d * P + i) 0))), (aM, .inl (cB, P, .inl (fun z9 => bI ((va_up ms d true) z9)))), (aS, .inr (0, [.int (nI P), .int (nI (P - 2)), .int (nI (P - 1)), .int (nI (P * (P - 2)))]))] := hD
        refine lv_iinc (v := nI (i + 1)) hx hb dX1_drop_35 hl (k := 0) rfl (x_inc _) (by decide) rfl (fun ls hl => ?_)
        have hl : lv_has ls 3 [(2, .int (nI (i + 1))), (1, .int (nI d)), (0, .ref aT)] := hl
        refine lv_goto (tgt := 9) hx hb dX1_drop_38 (by decide) ?_
        have e2 : (dr_zr P w d (i + 1)) = (va_up (dr_zr P w d i) (d * P + i) 0) := by first | rfl | (simp [h17]; done) | (simp [h17]; omega)
        exact ih9 (i + 1) ls H locs (by omega) (by omega) (lv_sub hl [0, 1, 2] rfl) (by rw [e2]; exact hP) (by rw [e2]; exact hD) hS
  have e3 : (dr_zr P w d 0) = w := by first | rfl | (simp []; done) | (simp []; omega)
  exact lp9 (P - 0 + 1) 0 ls H locs (by omega) (by omega) (lv_sub hl [0, 2, 1] rfl) (by rw [e3]; exact hP) (by rw [e3]; exact hD) hS

abbrev rm_c_sum : Room := { frames := 2, cells := 0, slots := 0, locals := 45 }
set_option maxHeartbeats 4000000 in
set_option maxRecDepth 100000 in
theorem c_sum (l : Launch) (dC : Nat → ClassId) (dI : Nat → Nat → Nat) (cI cB cQ cJ : ClassId) (aT : Nat) (aS : Nat) (aW : Nat) (aM : Nat) (P : Nat) (w : Nat → Int32) (ms : Nat → Bool) (mk : Bool) (o : Nat) (row : Nat) (hp5 : dr_P P) (ho : o < P) (hrw : dr_row P row) : MG l yX1_dataSum (Cond.code yX1_dataSum cX1_dataSum 5 (some .int) :: TB) rm_c_sum (dC, dI) vwCl (TY cI cB cQ cJ) [.ref aT, .int (nI o), .int (nI row)] [(aT, .inr (1, [.ref aS, .ref aW, .ref aM, .int (bI mk)])), (aW, .inl (cI, P * P, .inl w)), (aM, .inl (cB, P, .inl (fun z9 => bI (ms z9)))), (aS, .inr (0, [.int (nI P), .int (nI (P - 2)), .int (nI (P - 1)), .int (nI (P * (P - 2)))]))] (fun (r : Int32) (u : Unit) => r = dr_sum P w o row (P - 2)) (fun (u : Unit) => [(aT, .inr (1, [.ref aS, .ref aW, .ref aM, .int (bI mk)])), (aW, .inl (cI, P * P, .inl w)), (aM, .inl (cB, P, .inl (fun z9 => bI (ms z9)))), (aS, .inr (0, [.int (nI P), .int (nI (P - 2)), .int (nI (P - 1)), .int (nI (P * (P - 2)))]))]) := by
  refine MG.ofW (cc := cX1_dataSum) (maxL := 5) (rt := .int) (by decide +kernel) rfl (Nat.le_of_ble_eq_true rfl) ?_
  intro p e s m args below meth c A ls Q H locs hQ hx hb hml hr hlk hts hown hK hP hD hS hA hl
  have hts : ∀ w ∈ TB, w.before args s = true := fun w h => hts w (List.mem_cons_of_mem _ h)
  have hown : s.vm.findClass RX1 = some m.cls := hown
  have hl : lv_has ls 5 [(0, .ref aT), (1, .int (nI o)), (2, .int (nI row))] := hl
  have hP : va_P (dC, dI) vwCl [(aT, .inr (1, [.ref aS, .ref aW, .ref aM, .int (bI mk)])), (aW, .inl (cI, P * P, .inl w)), (aM, .inl (cB, P, .inl (fun z9 => bI (ms z9)))), (aS, .inr (0, [.int (nI P), .int (nI (P - 2)), .int (nI (P - 1)), .int (nI (P * (P - 2)))]))] H := hP
  have hD : va_D A [(aT, .inr (1, [.ref aS, .ref aW, .ref aM, .int (bI mk)])), (aW, .inl (cI, P * P, .inl w)), (aM, .inl (cB, P, .inl (fun z9 => bI (ms z9)))), (aS, .inr (0, [.int (nI P), .int (nI (P - 2)), .int (nI (P - 1)), .int (nI (P * (P - 2)))]))] := hD
  have hp := hp5.le
  have hpp := dr_PP hp5
  have hpq := dr_PP2 hp5
  have hrl : row < P := by rcases hrw with rfl | rfl <;> omega
  refine lv_iconst (v := 0) hx hb dX1_dataSum_0 (by decide) ?_
  refine lv_istore_n hx hb dX1_dataSum_1 rfl hl (by decide) rfl (fun ls hl => ?_)
  have hl : lv_has ls 5 [(3, .int 0), (0, .ref aT), (1, .int (nI o)), (2, .int (nI row))] := hl
  refine lv_iconst (v := nI 0) hx hb dX1_dataSum_2 (by decide) ?_
  refine lv_istore hx hb dX1_dataSum_3 hl (by decide) rfl (fun ls hl => ?_)
  have hl : lv_has ls 5 [(4, .int (nI 0)), (3, .int 0), (0, .ref aT), (1, .int (nI o)), (2, .int (nI row))] := hl
  have lp5 : ∀ (n9 : Nat) (i : Nat) (ls : Array Slot) (H : Heap) (locs : List Loc), P - 2 - i < n9 → (i ≤ P - 2) → lv_has ls 5 [(4, .int (nI i)), (3, .int (dr_sum P w o row i)), (2, .int (nI row)), (1, .int (nI o)), (0, .ref aT)] → va_P (dC, dI) vwCl [(aT, .inr (1, [.ref aS, .ref aW, .ref aM, .int (bI mk)])), (aW, .inl (cI, P * P, .inl w)), (aM, .inl (cB, P, .inl (fun z9 => bI (ms z9)))), (aS, .inr (0, [.int (nI P), .int (nI (P - 2)), .int (nI (P - 1)), .int (nI (P * (P - 2)))]))] H → va_D A [(aT, .inr (1, [.ref aS, .ref aW, .ref aM, .int (bI mk)])), (aW, .inl (cI, P * P, .inl w)), (aM, .inl (cB, P, .inl (fun z9 => bI (ms z9)))), (aS, .inr (0, [.int (nI P), .int (nI (P - 2)), .int (nI (P - 1)), .int (nI (P * (P - 2)))]))] → va_S A s.heap H locs → W p l e rm_c_sum s m args below meth c H locs 0 0 Q (F0 m 5 ls []) := by
    intro n9
    induction n9 with
    | zero => intro i ls H locs hn9; omega
    | succ n9 ih5 =>
      intro i ls H locs hn9 hi hl hP hD hS
      refine lv_iload hx hb dX1_dataSum_5 (lv_at hl 0 rfl) ?_
      refine lv_aload_n hx hb dX1_dataSum_7 rfl (lv_at hl 4 rfl) ?_
      refine va_get (D := (dC, dI)) (ci := 1) (v := .ref aS) (C := RX1) (T := TX1) (N := 4) hx hb hts inX1 hown hK hP 0 rfl rfl 0 (by decide) (hts _ t_fX1_9) (fun _ h9 => h9) rfl dX1_dataSum_8 ?_
      refine va_get (D := (dC, dI)) (ci := 0) (v := .int (nI (P - 2))) (C := RX0) (T := TX0) (N := 4) hx hb hts inX0 hown hK hP 3 rfl rfl 1 (by decide) (hts _ t_fX1_41) (fun _ h9 => h9) rfl dX1_dataSum_11 ?_
      refine x_cge (tgt := 51) hx hb dX1_dataSum_14 (by decide) (by omega) (by omega) (fun h14 => ?_) (fun h14 => ?_)
      · -- 14t
        have hie14 : i = P - 2 := by omega
        try rw [hie14] at hl
        try rw [hie14] at hP
        try rw [hie14] at hD
        have hl : lv_has ls 5 [(4, .int (nI (P - 2))), (3, .int (dr_sum P w o row (P - 2))), (2, .int (nI row)), (1, .int (nI o)), (0, .ref aT)] := hl
        have hP : va_P (dC, dI) vwCl [(aT, .inr (1, [.ref aS, .ref aW, .ref aM, .int (bI mk)])), (aW, .inl (cI, P * P, .inl w)), (aM, .inl (cB, P, .inl (fun z9 => bI (ms z9)))), (aS, .inr (0, [.int (nI P), .int (nI (P - 2)), .int (nI (P - 1)), .int (nI (P * (P - 2)))]))] H := hP
        have hD : va_D A [(aT, .inr (1, [.ref aS, .ref aW, .ref aM, .int (bI mk)])), (aW, .inl (cI, P * P, .inl w)), (aM, .inl (cB, P, .inl (fun z9 => bI (ms z9)))), (aS, .inr (0, [.int (nI P), .int (nI (P - 2)), .int (nI (P - 1)), .int (nI (P * (P - 2)))]))] := hD
        refine lv_iload_n hx hb dX1_dataSum_51 rfl (lv_at hl 1 rfl) ?_
        exact x_iret (D := (dC, dI)) (cl := vwCl) (A := A) () hQ hx hb hr hlk hP hD hS dX1_dataSum_52 (by first | rfl | (simp [h14]; done) | (simp [h14]; omega))
      · -- 14f
        refine lv_iload_n hx hb dX1_dataSum_17 rfl (lv_at hl 1 rfl) ?_
        refine lv_aload_n hx hb dX1_dataSum_18 rfl (lv_at hl 4 rfl) ?_
        refine va_get (D := (dC, dI)) (ci := 1) (v := .ref aW) (C := RX1) (T := TX1) (N := 4) hx hb hts inX1 hown hK hP 0 rfl rfl 1 (by decide) (hts _ t_fX1_21) (fun _ h9 => h9) rfl dX1_dataSum_19 ?_
        refine lv_aload_n hx hb dX1_dataSum_22 rfl (lv_at hl 4 rfl) ?_
        refine va_get (D := (dC, dI)) (ci := 1) (v := .ref aS) (C := RX1) (T := TX1) (N := 4) hx hb hts inX1 hown hK hP 0 rfl rfl 0 (by decide) (hts _ t_fX1_9) (fun _ h9 => h9) rfl dX1_dataSum_23 ?_
        refine lv_aload_n hx hb dX1_dataSum_26 rfl (lv_at hl 4 rfl) ?_
        refine va_get (D := (dC, dI)) (ci := 1) (v := .ref aS) (C := RX1) (T := TX1) (N := 4) hx hb hts inX1 hown hK hP 0 rfl rfl 0 (by decide) (hts _ t_fX1_9) (fun _ h9 => h9) rfl dX1_dataSum_27 ?_
        refine lv_iload_n hx hb dX1_dataSum_30 rfl (lv_at hl 3 rfl) ?_
        refine lv_iload hx hb dX1_dataSum_31 (lv_at hl 0 rfl) ?_
        refine lv_iload_n hx hb dX1_dataSum_33 rfl (lv_at hl 2 rfl) ?_
        refine gV (wr := [(aT, .inr (1, [.ref aS, .ref aW, .ref aM, .int (bI mk)])), (aW, .inl (cI, P * P, .inl w)), (aM, .inl (cB, P, .inl (fun z9 => bI (ms z9))))]) (pre := [(aT, .inr (1, [.ref aS, .ref aW, .ref aM, .int (bI mk)])), (aW, .inl (cI, P * P, .inl w)), (aM, .inl (cB, P, .inl (fun z9 => bI (ms z9)))), (aS, .inr (0, [.int (nI P), .int (nI (P - 2)), .int (nI (P - 1)), .int (nI (P * (P - 2)))]))]) (tl := []) (G := fun (u : Unit) => [(aT, .inr (1, [.ref aS, .ref aW, .ref aM, .int (bI mk)])), (aW, .inl (cI, P * P, .inl w)), (aM, .inl (cB, P, .inl (fun z9 => bI (ms z9)))), (aS, .inr (0, [.int (nI P), .int (nI (P - 2)), .int (nI (P - 1)), .int (nI (P * (P - 2)))]))]) (b := aS) (As := [.int (nI o), .int (nI i), .int (nI row)]) (rst := [.ref aS, .ref aW, .int (dr_sum P w o row i)]) ⟨hx, hb, hml, hown, hts⟩ (c_dd l dC dI cI cB cQ cJ aS P o i row hp5 ho (by omega) hrw) (cwV 3 hts (gdV t_mX1_57 t_inst_X0_dataDrive t_sel_X0_dataDrive t_ini_X0 t_code_X0_dataDrive) rfl rfl rfl (by decide +kernel) ⟨Nat.le_of_ble_eq_true rfl, Nat.le_of_ble_eq_true rfl⟩) hK hP hD hS hA [3] [0, 1, 2] [1, 2, 3, 0] rfl (by decide) (fun _ => rfl) (by decide) (ci := 0) rfl rfl rfl rfl hl.1 rfl (Nat.le_of_ble_eq_true rfl) dX1_dataSum_34 ⟨Nat.zero_le _, Nat.zero_le _⟩ (fun r u H locs hu1 hP hD hS => ?_)
        have hr34 := hu1
        have hr34 : r = nI (dr_dd P o i row) := hr34
        subst hr34
        have hP : va_P (dC, dI) vwCl [(aT, .inr (1, [.ref aS, .ref aW, .ref aM, .int (bI mk)])), (aW, .inl (cI, P * P, .inl w)), (aM, .inl (cB, P, .inl (fun z9 => bI (ms z9)))), (aS, .inr (0, [.int (nI P), .int (nI (P - 2)), .int (nI (P - 1)), .int (nI (P * (P - 2)))]))] H := hP
        have hD : va_D A [(aT, .inr (1, [.ref aS, .ref aW, .ref aM, .int (bI mk)])), (aW, .inl (cI, P * P, .inl w)), (aM, .inl (cB, P, .inl (fun z9 => bI (ms z9)))), (aS, .inr (0, [.int (nI P), .int (nI (P - 2)), .int (nI (P - 1)), .int (nI (P * (P - 2)))]))] := hD
        refine lv_iload hx hb dX1_dataSum_37 (lv_at hl 0 rfl) ?_
        refine gV (wr := [(aT, .inr (1, [.ref aS, .ref aW, .ref aM, .int (bI mk)])), (aW, .inl (cI, P * P, .inl w)), (aM, .inl (cB, P, .inl (fun z9 => bI (ms z9))))]) (pre := [(aT, .inr (1, [.ref aS, .ref aW, .ref aM, .int (bI mk)])), (aW, .inl (cI, P * P, .inl w)), (aM, .inl (cB, P, .inl (fun z9 => bI (ms z9)))), (aS, .inr (0, [.int (nI P), .int (nI (P - 2)), .int (nI (P - 1)), .int (nI (P * (P - 2)))]))]) (tl := []) (G := fun (u : Unit) => [(aT, .inr (1, [.ref aS, .ref aW, .ref aM, .int (bI mk)])), (aW, .inl (cI, P * P, .inl w)), (aM, .inl (cB, P, .inl (fun z9 => bI (ms z9)))), (aS, .inr (0, [.int (nI P), .int (nI (P - 2)), .int (nI (P - 1)), .int (nI (P * (P - 2)))]))]) (b := aS) (As := [.int (nI (dr_dd P o i row)), .int (nI i)]) (rst := [.ref aW, .int (dr_sum P w o row i)]) ⟨hx, hb, hml, hown, hts⟩ (c_place l dC dI cI cB cQ cJ aS P (dr_dd P o i row) i ) (cwV 2 hts (gdV t_mX1_37 t_inst_X0_place t_sel_X0_place t_ini_X0 t_code_X0_place) rfl rfl rfl (by decide +kernel) ⟨Nat.le_of_ble_eq_true rfl, Nat.le_of_ble_eq_true rfl⟩) hK hP hD hS hA [3] [0, 1, 2] [1, 2, 3, 0] rfl (by decide) (fun _ => rfl) (by decide) (ci := 0) rfl rfl rfl rfl hl.1 rfl (Nat.le_of_ble_eq_true rfl) dX1_dataSum_39 ⟨Nat.zero_le _, Nat.zero_le _⟩ (fun r u H locs hu2 hP hD hS => ?_)
        have hr39 := hu2
        have hr39 : r = nI ((dr_dd P o i row) * P + i) := hr39
        subst hr39
        have hP : va_P (dC, dI) vwCl [(aT, .inr (1, [.ref aS, .ref aW, .ref aM, .int (bI mk)])), (aW, .inl (cI, P * P, .inl w)), (aM, .inl (cB, P, .inl (fun z9 => bI (ms z9)))), (aS, .inr (0, [.int (nI P), .int (nI (P - 2)), .int (nI (P - 1)), .int (nI (P * (P - 2)))]))] H := hP
        have hD : va_D A [(aT, .inr (1, [.ref aS, .ref aW, .ref aM, .int (bI mk)])), (aW, .inl (cI, P * P, .inl w)), (aM, .inl (cB, P, .inl (fun z9 => bI (ms z9)))), (aS, .inr (0, [.int (nI P), .int (nI (P - 2)), .int (nI (P - 1)), .int (nI (P * (P - 2)))]))] := hD
        refine x_iald (f := w) hx hb hK hP 1 0 rfl rfl dX1_dataSum_42 (dr_pl (dr_dd_lt hp5) (by omega)) (by omega) ?_
        refine lv_ixor hx hb dX1_dataSum_43 ?_
        refine lv_istore_n hx hb dX1_dataSum_44 rfl hl (by decide) rfl (fun ls hl => ?_)
        have hl : lv_has ls 5 [(3, .int ((dr_sum P w o row i) ^^^ (w ((dr_dd P o i row) * P + i)))), (4, .int (nI i)), (2, .int (nI row)), (1, .int (nI o)), (0, .ref aT)] := hl
        refine lv_iinc (v := nI (i + 1)) hx hb dX1_dataSum_45 hl (k := 1) rfl (x_inc _) (by decide) rfl (fun ls hl => ?_)
        have hl : lv_has ls 5 [(4, .int (nI (i + 1))), (3, .int ((dr_sum P w o row i) ^^^ (w ((dr_dd P o i row) * P + i)))), (2, .int (nI row)), (1, .int (nI o)), (0, .ref aT)] := hl
        refine lv_goto (tgt := 5) hx hb dX1_dataSum_48 (by decide) ?_
        have e3 : (dr_sum P w o row (i + 1)) = ((dr_sum P w o row i) ^^^ (w ((dr_dd P o i row) * P + i))) := by first | rfl | (simp [h14]; done) | (simp [h14]; omega)
        exact ih5 (i + 1) ls H locs (by omega) (by omega) (by rw [e3]; exact lv_sub hl [0, 1, 2, 3, 4] rfl) hP hD hS
  have e4 : (dr_sum P w o row 0) = 0 := by first | rfl | (simp []; done) | (simp []; omega)
  exact lp5 (P - 2 - 0 + 1) 0 ls H locs (by omega) (by omega) (by rw [e4]; exact lv_sub hl [0, 1, 4, 3, 2] rfl) hP hD hS

abbrev rm_c_whole : Room := { frames := 2, cells := 0, slots := 0, locals := 45 }
set_option maxHeartbeats 4000000 in
set_option maxRecDepth 100000 in
theorem c_whole (l : Launch) (dC : Nat → ClassId) (dI : Nat → Nat → Nat) (cI cB cQ cJ : ClassId) (aT : Nat) (aS : Nat) (aW : Nat) (aM : Nat) (P : Nat) (w : Nat → Int32) (ms : Nat → Bool) (mk : Bool) (o : Nat) (row : Nat) (hp5 : dr_P P) (ho : o < P) (hrw : dr_row P row) : MG l yX1_isWhole (Cond.code yX1_isWhole cX1_isWhole 4 (some .boolean) :: TB) rm_c_whole (dC, dI) vwCl (TY cI cB cQ cJ) [.ref aT, .int (nI o), .int (nI row)] [(aT, .inr (1, [.ref aS, .ref aW, .ref aM, .int (bI mk)])), (aW, .inl (cI, P * P, .inl w)), (aM, .inl (cB, P, .inl (fun z9 => bI (ms z9)))), (aS, .inr (0, [.int (nI P), .int (nI (P - 2)), .int (nI (P - 1)), .int (nI (P * (P - 2)))]))] (fun (r : Int32) (u : Unit) => r = bI (dr_whole P ms o row)) (fun (u : Unit) => [(aT, .inr (1, [.ref aS, .ref aW, .ref aM, .int (bI mk)])), (aW, .inl (cI, P * P, .inl w)), (aM, .inl (cB, P, .inl (fun z9 => bI (ms z9)))), (aS, .inr (0, [.int (nI P), .int (nI (P - 2)), .int (nI (P - 1)), .int (nI (P * (P - 2)))]))]) := by
  refine MG.ofW (cc := cX1_isWhole) (maxL := 4) (rt := .boolean) (by decide +kernel) rfl (Nat.le_of_ble_eq_true rfl) ?_
  intro p e s m args below meth c A ls Q H locs hQ hx hb hml hr hlk hts hown hK hP hD hS hA hl
  have hts : ∀ w ∈ TB, w.before args s = true := fun w h => hts w (List.mem_cons_of_mem _ h)
  have hown : s.vm.findClass RX1 = some m.cls := hown
  have hl : lv_has ls 4 [(0, .ref aT), (1, .int (nI o)), (2, .int (nI row))] := hl
  have hP : va_P (dC, dI) vwCl [(aT, .inr (1, [.ref aS, .ref aW, .ref aM, .int (bI mk)])), (aW, .inl (cI, P * P, .inl w)), (aM, .inl (cB, P, .inl (fun z9 => bI (ms z9)))), (aS, .inr (0, [.int (nI P), .int (nI (P - 2)), .int (nI (P - 1)), .int (nI (P * (P - 2)))]))] H := hP
  have hD : va_D A [(aT, .inr (1, [.ref aS, .ref aW, .ref aM, .int (bI mk)])), (aW, .inl (cI, P * P, .inl w)), (aM, .inl (cB, P, .inl (fun z9 => bI (ms z9)))), (aS, .inr (0, [.int (nI P), .int (nI (P - 2)), .int (nI (P - 1)), .int (nI (P * (P - 2)))]))] := hD
  have hp := hp5.le
  have hpp := dr_PP hp5
  have hpq := dr_PP2 hp5
  have hrl : row < P := by rcases hrw with rfl | rfl <;> omega
  refine lv_iconst (v := nI 0) hx hb dX1_isWhole_0 (by decide) ?_
  refine lv_istore_n hx hb dX1_isWhole_1 rfl hl (by decide) rfl (fun ls hl => ?_)
  have hl : lv_has ls 4 [(3, .int (nI 0)), (0, .ref aT), (1, .int (nI o)), (2, .int (nI row))] := hl
  have lp2 : ∀ (n9 : Nat) (i : Nat) (ls : Array Slot) (H : Heap) (locs : List Loc), P - 2 - i < n9 → (i ≤ P - 2) → (dr_any (fun k => ms (dr_dd P o k row)) i = false) → lv_has ls 4 [(3, .int (nI i)), (2, .int (nI row)), (1, .int (nI o)), (0, .ref aT)] → va_P (dC, dI) vwCl [(aT, .inr (1, [.ref aS, .ref aW, .ref aM, .int (bI mk)])), (aW, .inl (cI, P * P, .inl w)), (aM, .inl (cB, P, .inl (fun z9 => bI (ms z9)))), (aS, .inr (0, [.int (nI P), .int (nI (P - 2)), .int (nI (P - 1)), .int (nI (P * (P - 2)))]))] H → va_D A [(aT, .inr (1, [.ref aS, .ref aW, .ref aM, .int (bI mk)])), (aW, .inl (cI, P * P, .inl w)), (aM, .inl (cB, P, .inl (fun z9 => bI (ms z9)))), (aS, .inr (0, [.int (nI P), .int (nI (P - 2)), .int (nI (P - 1)), .int (nI (P * (P - 2)))]))] → va_S A s.heap H locs → W p l e rm_c_whole s m args below meth c H locs 0 0 Q (F0 m 2 ls []) := by
    intro n9
    induction n9 with
    | zero => intro i ls H locs hn9; omega
    | succ n9 ih2 =>
      intro i ls H locs hn9 hi ha hl hP hD hS
      refine lv_iload_n hx hb dX1_isWhole_2 rfl (lv_at hl 0 rfl) ?_
      refine lv_aload_n hx hb dX1_isWhole_3 rfl (lv_at hl 3 rfl) ?_
      refine va_get (D := (dC, dI)) (ci := 1) (v := .ref aS) (C := RX1) (T := TX1) (N := 4) hx hb hts inX1 hown hK hP 0 rfl rfl 0 (by decide) (hts _ t_fX1_9) (fun _ h9 => h9) rfl dX1_isWhole_4 ?_
      refine va_get (D := (dC, dI)) (ci := 0) (v := .int (nI (P - 2))) (C := RX0) (T := TX0) (N := 4) hx hb hts inX0 hown hK hP 3 rfl rfl 1 (by decide) (hts _ t_fX1_41) (fun _ h9 => h9) rfl dX1_isWhole_7 ?_
      refine x_cge (tgt := 39) hx hb dX1_isWhole_10 (by decide) (by omega) (by omega) (fun h10 => ?_) (fun h10 => ?_)
      · -- 10t
        refine lv_aload_n hx hb dX1_isWhole_39 rfl (lv_at hl 3 rfl) ?_
        refine va_get (D := (dC, dI)) (ci := 1) (v := .ref aM) (C := RX1) (T := TX1) (N := 4) hx hb hts inX1 hown hK hP 0 rfl rfl 2 (by decide) (hts _ t_fX1_25) (fun _ h9 => h9) rfl dX1_isWhole_40 ?_
        refine lv_iload_n hx hb dX1_isWhole_43 rfl (lv_at hl 2 rfl) ?_
        refine x_zald (g := ms) hx hb hK hP 2 1 rfl rfl dX1_isWhole_44 (by omega) (by omega) ?_
        refine x_ifT (tgt := 52) hx hb dX1_isWhole_45 (by decide) (fun h45 => ?_) (fun h45 => ?_)
        · -- 45t
          refine lv_iconst (v := bI false) hx hb dX1_isWhole_52 (by decide) ?_
          exact x_zret (D := (dC, dI)) (cl := vwCl) (A := A) () hQ hx hb hr hlk hP hD hS dX1_isWhole_53 (by have e9 : i = P - 2 := (by omega); rw [e9] at ha; simp [dr_whole, ha, h45])
        · -- 45f
          refine lv_iconst (v := bI true) hx hb dX1_isWhole_48 (by decide) ?_
          refine lv_goto (tgt := 53) hx hb dX1_isWhole_49 (by decide) ?_
          exact x_zret (D := (dC, dI)) (cl := vwCl) (A := A) () hQ hx hb hr hlk hP hD hS dX1_isWhole_53 (by have e9 : i = P - 2 := (by omega); rw [e9] at ha; simp [dr_whole, ha, h45])
      · -- 10f
        refine lv_aload_n hx hb dX1_isWhole_13 rfl (lv_at hl 3 rfl) ?_
        refine va_get (D := (dC, dI)) (ci := 1) (v := .ref aM) (C := RX1) (T := TX1) (N := 4) hx hb hts inX1 hown hK hP 0 rfl rfl 2 (by decide) (hts _ t_fX1_25) (fun _ h9 => h9) rfl dX1_isWhole_14 ?_
        refine lv_aload_n hx hb dX1_isWhole_17 rfl (lv_at hl 3 rfl) ?_
        refine va_get (D := (dC, dI)) (ci := 1) (v := .ref aS) (C := RX1) (T := TX1) (N := 4) hx hb hts inX1 hown hK hP 0 rfl rfl 0 (by decide) (hts _ t_fX1_9) (fun _ h9 => h9) rfl dX1_isWhole_18 ?_
        refine lv_iload_n hx hb dX1_isWhole_21 rfl (lv_at hl 2 rfl) ?_
        refine lv_iload_n hx hb dX1_isWhole_22 rfl (lv_at hl 0 rfl) ?_
        refine lv_iload_n hx hb dX1_isWhole_23 rfl (lv_at hl 1 rfl) ?_
        refine gV (wr := [(aT, .inr (1, [.ref aS, .ref aW, .ref aM, .int (bI mk)])), (aW, .inl (cI, P * P, .inl w)), (aM, .inl (cB, P, .inl (fun z9 => bI (ms z9))))]) (pre := [(aT, .inr (1, [.ref aS, .ref aW, .ref aM, .int (bI mk)])), (aW, .inl (cI, P * P, .inl w)), (aM, .inl (cB, P, .inl (fun z9 => bI (ms z9)))), (aS, .inr (0, [.int (nI P), .int (nI (P - 2)), .int (nI (P - 1)), .int (nI (P * (P - 2)))]))]) (tl := []) (G := fun (u : Unit) => [(aT, .inr (1, [.ref aS, .ref aW, .ref aM, .int (bI mk)])), (aW, .inl (cI, P * P, .inl w)), (aM, .inl (cB, P, .inl (fun z9 => bI (ms z9)))), (aS, .inr (0, [.int (nI P), .int (nI (P - 2)), .int (nI (P - 1)), .int (nI (P * (P - 2)))]))]) (b := aS) (As := [.int (nI o), .int (nI i), .int (nI row)]) (rst := [.ref aM]) ⟨hx, hb, hml, hown, hts⟩ (c_dd l dC dI cI cB cQ cJ aS P o i row hp5 ho (by omega) hrw) (cwV 3 hts (gdV t_mX1_57 t_inst_X0_dataDrive t_sel_X0_dataDrive t_ini_X0 t_code_X0_dataDrive) rfl rfl rfl (by decide +kernel) ⟨Nat.le_of_ble_eq_true rfl, Nat.le_of_ble_eq_true rfl⟩) hK hP hD hS hA [3] [0, 1, 2] [1, 2, 3, 0] rfl (by decide) (fun _ => rfl) (by decide) (ci := 0) rfl rfl rfl rfl hl.1 rfl (Nat.le_of_ble_eq_true rfl) dX1_isWhole_24 ⟨Nat.zero_le _, Nat.zero_le _⟩ (fun r u H locs hu1 hP hD hS => ?_)
        have hr24 := hu1
        have hr24 : r = nI (dr_dd P o i row) := hr24
        subst hr24
        have hP : va_P (dC, dI) vwCl [(aT, .inr (1, [.ref aS, .ref aW, .ref aM, .int (bI mk)])), (aW, .inl (cI, P * P, .inl w)), (aM, .inl (cB, P, .inl (fun z9 => bI (ms z9)))), (aS, .inr (0, [.int (nI P), .int (nI (P - 2)), .int (nI (P - 1)), .int (nI (P * (P - 2)))]))] H := hP
        have hD : va_D A [(aT, .inr (1, [.ref aS, .ref aW, .ref aM, .int (bI mk)])), (aW, .inl (cI, P * P, .inl w)), (aM, .inl (cB, P, .inl (fun z9 => bI (ms z9)))), (aS, .inr (0, [.int (nI P), .int (nI (P - 2)), .int (nI (P - 1)), .int (nI (P * (P - 2)))]))] := hD
        refine x_zald (g := ms) hx hb hK hP 2 1 rfl rfl dX1_isWhole_27 (dr_dd_lt hp5) (by omega) ?_
        refine x_ifF (tgt := 33) hx hb dX1_isWhole_28 (by decide) (fun h28 => ?_) (fun h28 => ?_)
        · -- 28t
          refine lv_iinc (v := nI (i + 1)) hx hb dX1_isWhole_33 hl (k := 0) rfl (x_inc _) (by decide) rfl (fun ls hl => ?_)
          have hl : lv_has ls 4 [(3, .int (nI (i + 1))), (2, .int (nI row)), (1, .int (nI o)), (0, .ref aT)] := hl
          refine lv_goto (tgt := 2) hx hb dX1_isWhole_36 (by decide) ?_
          exact ih2 (i + 1) ls H locs (by omega) (by omega) (by first | rfl | simp [dr_any, ha, h28]) (lv_sub hl [0, 1, 2, 3] rfl) hP hD hS
        · -- 28f
          refine lv_iconst (v := bI false) hx hb dX1_isWhole_31 (by decide) ?_
          exact x_zret (D := (dC, dI)) (cl := vwCl) (A := A) () hQ hx hb hr hlk hP hD hS dX1_isWhole_32 (by rw [dr_whole, dr_any_true (i := i) (by omega) h28]; rfl)
  exact lp2 (P - 2 - 0 + 1) 0 ls H locs (by omega) (by omega) (by first | rfl | simp [dr_any, ha, h28]) (lv_sub hl [0, 3, 2, 1] rfl) hP hD hS

abbrev rm_c_agrees : Room := { frames := 3, cells := 0, slots := 0, locals := 69 }
set_option maxHeartbeats 4000000 in
set_option maxRecDepth 100000 in
theorem c_agrees (l : Launch) (dC : Nat → ClassId) (dI : Nat → Nat → Nat) (cI cB cQ cJ : ClassId) (aT : Nat) (aS : Nat) (aW : Nat) (aM : Nat) (P : Nat) (w : Nat → Int32) (ms : Nat → Bool) (mk : Bool) (o : Nat) (row : Nat) (hp5 : dr_P P) (ho : o < P) (hrw : dr_row P row) : MG l yX1_agrees (Cond.code yX1_agrees cX1_agrees 3 (some .boolean) :: TB) rm_c_agrees (dC, dI) vwCl (TY cI cB cQ cJ) [.ref aT, .int (nI o), .int (nI row)] [(aT, .inr (1, [.ref aS, .ref aW, .ref aM, .int (bI mk)])), (aW, .inl (cI, P * P, .inl w)), (aM, .inl (cB, P, .inl (fun z9 => bI (ms z9)))), (aS, .inr (0, [.int (nI P), .int (nI (P - 2)), .int (nI (P - 1)), .int (nI (P * (P - 2)))]))] (fun (r : Int32) (u : Unit) => r = bI (dr_ag P ms w o row)) (fun (u : Unit) => [(aT, .inr (1, [.ref aS, .ref aW, .ref aM, .int (bI mk)])), (aW, .inl (cI, P * P, .inl w)), (aM, .inl (cB, P, .inl (fun z9 => bI (ms z9)))), (aS, .inr (0, [.int (nI P), .int (nI (P - 2)), .int (nI (P - 1)), .int (nI (P * (P - 2)))]))]) := by
  refine MG.ofW (cc := cX1_agrees) (maxL := 3) (rt := .boolean) (by decide +kernel) rfl (Nat.le_of_ble_eq_true rfl) ?_
  intro p e s m args below meth c A ls Q H locs hQ hx hb hml hr hlk hts hown hK hP hD hS hA hl
  have hts : ∀ w ∈ TB, w.before args s = true := fun w h => hts w (List.mem_cons_of_mem _ h)
  have hown : s.vm.findClass RX1 = some m.cls := hown
  have hl : lv_has ls 3 [(0, .ref aT), (1, .int (nI o)), (2, .int (nI row))] := hl
  have hP : va_P (dC, dI) vwCl [(aT, .inr (1, [.ref aS, .ref aW, .ref aM, .int (bI mk)])), (aW, .inl (cI, P * P, .inl w)), (aM, .inl (cB, P, .inl (fun z9 => bI (ms z9)))), (aS, .inr (0, [.int (nI P), .int (nI (P - 2)), .int (nI (P - 1)), .int (nI (P * (P - 2)))]))] H := hP
  have hD : va_D A [(aT, .inr (1, [.ref aS, .ref aW, .ref aM, .int (bI mk)])), (aW, .inl (cI, P * P, .inl w)), (aM, .inl (cB, P, .inl (fun z9 => bI (ms z9)))), (aS, .inr (0, [.int (nI P), .int (nI (P - 2)), .int (nI (P - 1)), .int (nI (P * (P - 2)))]))] := hD
  have hp := hp5.le
  have hpp := dr_PP hp5
  have hpq := dr_PP2 hp5
  have hrl : row < P := by rcases hrw with rfl | rfl <;> omega
  refine lv_aload_n hx hb dX1_agrees_0 rfl (lv_at hl 0 rfl) ?_
  refine lv_iload_n hx hb dX1_agrees_1 rfl (lv_at hl 1 rfl) ?_
  refine lv_iload_n hx hb dX1_agrees_2 rfl (lv_at hl 2 rfl) ?_
  refine gV (wr := []) (pre := [(aT, .inr (1, [.ref aS, .ref aW, .ref aM, .int (bI mk)])), (aW, .inl (cI, P * P, .inl w)), (aM, .inl (cB, P, .inl (fun z9 => bI (ms z9)))), (aS, .inr (0, [.int (nI P), .int (nI (P - 2)), .int (nI (P - 1)), .int (nI (P * (P - 2)))]))]) (tl := []) (G := fun (u : Unit) => [(aT, .inr (1, [.ref aS, .ref aW, .ref aM, .int (bI mk)])), (aW, .inl (cI, P * P, .inl w)), (aM, .inl (cB, P, .inl (fun z9 => bI (ms z9)))), (aS, .inr (0, [.int (nI P), .int (nI (P - 2)), .int (nI (P - 1)), .int (nI (P * (P - 2)))]))]) (b := aT) (As := [.int (nI o), .int (nI row)]) (rst := []) ⟨hx, hb, hml, hown, hts⟩ (c_whole l dC dI cI cB cQ cJ aT aS aW aM P w ms mk o row hp5 ho hrw) (cwV 2 hts (gdV t_mX1_54 t_inst_X1_isWhole t_sel_X1_isWhole t_ini_X1 t_code_X1_isWhole) rfl rfl rfl (by decide +kernel) ⟨Nat.le_of_ble_eq_true rfl, Nat.le_of_ble_eq_true rfl⟩) hK hP hD hS hA [0, 1, 2, 3] [] [0, 1, 2, 3] rfl (by decide) (fun _ => rfl) (by decide) (ci := 1) rfl rfl rfl rfl hl.1 rfl (Nat.le_of_ble_eq_true rfl) dX1_agrees_3 ⟨Nat.zero_le _, Nat.zero_le _⟩ (fun r u H locs hu1 hP hD hS => ?_)
  have hr3 := hu1
  have hr3 : r = bI (dr_whole P ms o row) := hr3
  subst hr3
  have hP : va_P (dC, dI) vwCl [(aT, .inr (1, [.ref aS, .ref aW, .ref aM, .int (bI mk)])), (aW, .inl (cI, P * P, .inl w)), (aM, .inl (cB, P, .inl (fun z9 => bI (ms z9)))), (aS, .inr (0, [.int (nI P), .int (nI (P - 2)), .int (nI (P - 1)), .int (nI (P * (P - 2)))]))] H := hP
  have hD : va_D A [(aT, .inr (1, [.ref aS, .ref aW, .ref aM, .int (bI mk)])), (aW, .inl (cI, P * P, .inl w)), (aM, .inl (cB, P, .inl (fun z9 => bI (ms z9)))), (aS, .inr (0, [.int (nI P), .int (nI (P - 2)), .int (nI (P - 1)), .int (nI (P * (P - 2)))]))] := hD
  refine x_ifF (tgt := 36) hx hb dX1_agrees_6 (by decide) (fun h6 => ?_) (fun h6 => ?_)
  · -- 6t
    refine lv_iconst (v := bI false) hx hb dX1_agrees_36 (by decide) ?_
    exact x_zret (D := (dC, dI)) (cl := vwCl) (A := A) () hQ hx hb hr hlk hP hD hS dX1_agrees_37 (by first | rfl | (simp [dr_ag, h6]; done) | (simp [dr_ag, h6]; omega))
  · -- 6f
    refine lv_aload_n hx hb dX1_agrees_9 rfl (lv_at hl 0 rfl) ?_
    refine va_get (D := (dC, dI)) (ci := 1) (v := .ref aW) (C := RX1) (T := TX1) (N := 4) hx hb hts inX1 hown hK hP 0 rfl rfl 1 (by decide) (hts _ t_fX1_21) (fun _ h9 => h9) rfl dX1_agrees_10 ?_
    refine lv_aload_n hx hb dX1_agrees_13 rfl (lv_at hl 0 rfl) ?_
    refine va_get (D := (dC, dI)) (ci := 1) (v := .ref aS) (C := RX1) (T := TX1) (N := 4) hx hb hts inX1 hown hK hP 0 rfl rfl 0 (by decide) (hts _ t_fX1_9) (fun _ h9 => h9) rfl dX1_agrees_14 ?_
    refine lv_iload_n hx hb dX1_agrees_17 rfl (lv_at hl 1 rfl) ?_
    refine lv_iload_n hx hb dX1_agrees_18 rfl (lv_at hl 2 rfl) ?_
    refine gV (wr := [(aT, .inr (1, [.ref aS, .ref aW, .ref aM, .int (bI mk)])), (aW, .inl (cI, P * P, .inl w)), (aM, .inl (cB, P, .inl (fun z9 => bI (ms z9))))]) (pre := [(aT, .inr (1, [.ref aS, .ref aW, .ref aM, .int (bI mk)])), (aW, .inl (cI, P * P, .inl w)), (aM, .inl (cB, P, .inl (fun z9 => bI (ms z9)))), (aS, .inr (0, [.int (nI P), .int (nI (P - 2)), .int (nI (P - 1)), .int (nI (P * (P - 2)))]))]) (tl := []) (G := fun (u : Unit) => [(aT, .inr (1, [.ref aS, .ref aW, .ref aM, .int (bI mk)])), (aW, .inl (cI, P * P, .inl w)), (aM, .inl (cB, P, .inl (fun z9 => bI (ms z9)))), (aS, .inr (0, [.int (nI P), .int (nI (P - 2)), .int (nI (P - 1)), .int (nI (P * (P - 2)))]))]) (b := aS) (As := [.int (nI o), .int (nI row)]) (rst := [.ref aW]) ⟨hx, hb, hml, hown, hts⟩ (c_place l dC dI cI cB cQ cJ aS P o row ) (cwV 2 hts (gdV t_mX1_37 t_inst_X0_place t_sel_X0_place t_ini_X0 t_code_X0_place) rfl rfl rfl (by decide +kernel) ⟨Nat.le_of_ble_eq_true rfl, Nat.le_of_ble_eq_true rfl⟩) hK hP hD hS hA [3] [0, 1, 2] [1, 2, 3, 0] rfl (by decide) (fun _ => rfl) (by decide) (ci := 0) rfl rfl rfl rfl hl.1 rfl (Nat.le_of_ble_eq_true rfl) dX1_agrees_19 ⟨Nat.zero_le _, Nat.zero_le _⟩ (fun r u H locs hu2 hP hD hS => ?_)
    have hr19 := hu2
    have hr19 : r = nI (o * P + row) := hr19
    subst hr19
    have hP : va_P (dC, dI) vwCl [(aT, .inr (1, [.ref aS, .ref aW, .ref aM, .int (bI mk)])), (aW, .inl (cI, P * P, .inl w)), (aM, .inl (cB, P, .inl (fun z9 => bI (ms z9)))), (aS, .inr (0, [.int (nI P), .int (nI (P - 2)), .int (nI (P - 1)), .int (nI (P * (P - 2)))]))] H := hP
    have hD : va_D A [(aT, .inr (1, [.ref aS, .ref aW, .ref aM, .int (bI mk)])), (aW, .inl (cI, P * P, .inl w)), (aM, .inl (cB, P, .inl (fun z9 => bI (ms z9)))), (aS, .inr (0, [.int (nI P), .int (nI (P - 2)), .int (nI (P - 1)), .int (nI (P * (P - 2)))]))] := hD
    refine x_iald (f := w) hx hb hK hP 1 0 rfl rfl dX1_agrees_22 (dr_pl ho hrl) (by omega) ?_
    refine lv_aload_n hx hb dX1_agrees_23 rfl (lv_at hl 0 rfl) ?_
    refine lv_iload_n hx hb dX1_agrees_24 rfl (lv_at hl 1 rfl) ?_
    refine lv_iload_n hx hb dX1_agrees_25 rfl (lv_at hl 2 rfl) ?_
    refine gV (wr := []) (pre := [(aT, .inr (1, [.ref aS, .ref aW, .ref aM, .int (bI mk)])), (aW, .inl (cI, P * P, .inl w)), (aM, .inl (cB, P, .inl (fun z9 => bI (ms z9)))), (aS, .inr (0, [.int (nI P), .int (nI (P - 2)), .int (nI (P - 1)), .int (nI (P * (P - 2)))]))]) (tl := []) (G := fun (u : Unit) => [(aT, .inr (1, [.ref aS, .ref aW, .ref aM, .int (bI mk)])), (aW, .inl (cI, P * P, .inl w)), (aM, .inl (cB, P, .inl (fun z9 => bI (ms z9)))), (aS, .inr (0, [.int (nI P), .int (nI (P - 2)), .int (nI (P - 1)), .int (nI (P * (P - 2)))]))]) (b := aT) (As := [.int (nI o), .int (nI row)]) (rst := [.int (w (o * P + row))]) ⟨hx, hb, hml, hown, hts⟩ (c_sum l dC dI cI cB cQ cJ aT aS aW aM P w ms mk o row hp5 ho hrw) (cwV 2 hts (gdV t_mX1_44 t_inst_X1_dataSum t_sel_X1_dataSum t_ini_X1 t_code_X1_dataSum) rfl rfl rfl (by decide +kernel) ⟨Nat.le_of_ble_eq_true rfl, Nat.le_of_ble_eq_true rfl⟩) hK hP hD hS hA [0, 1, 2, 3] [] [0, 1, 2, 3] rfl (by decide) (fun _ => rfl) (by decide) (ci := 1) rfl rfl rfl rfl hl.1 rfl (Nat.le_of_ble_eq_true rfl) dX1_agrees_26 ⟨Nat.zero_le _, Nat.zero_le _⟩ (fun r u H locs hu3 hP hD hS => ?_)
    have hr26 := hu3
    have hr26 : r = dr_sum P w o row (P - 2) := hr26
    subst hr26
    have hP : va_P (dC, dI) vwCl [(aT, .inr (1, [.ref aS, .ref aW, .ref aM, .int (bI mk)])), (aW, .inl (cI, P * P, .inl w)), (aM, .inl (cB, P, .inl (fun z9 => bI (ms z9)))), (aS, .inr (0, [.int (nI P), .int (nI (P - 2)), .int (nI (P - 1)), .int (nI (P * (P - 2)))]))] H := hP
    have hD : va_D A [(aT, .inr (1, [.ref aS, .ref aW, .ref aM, .int (bI mk)])), (aW, .inl (cI, P * P, .inl w)), (aM, .inl (cB, P, .inl (fun z9 => bI (ms z9)))), (aS, .inr (0, [.int (nI P), .int (nI (P - 2)), .int (nI (P - 1)), .int (nI (P * (P - 2)))]))] := hD
    refine lv_icmp_ne (tgt := 36) hx hb dX1_agrees_29 (by decide) (fun h29 => ?_) (fun h29 => ?_)
    · -- 29t
      refine lv_iconst (v := bI false) hx hb dX1_agrees_36 (by decide) ?_
      exact x_zret (D := (dC, dI)) (cl := vwCl) (A := A) () hQ hx hb hr hlk hP hD hS dX1_agrees_37 (by first | rfl | (simp [dr_ag, h6, h29]; done) | (simp [dr_ag, h6, h29]; omega))
    · -- 29f
      refine lv_iconst (v := bI true) hx hb dX1_agrees_32 (by decide) ?_
      refine lv_goto (tgt := 37) hx hb dX1_agrees_33 (by decide) ?_
      exact x_zret (D := (dC, dI)) (cl := vwCl) (A := A) () hQ hx hb hr hlk hP hD hS dX1_agrees_37 (by first | rfl | (simp [dr_ag, h6, h29]; done) | (simp [dr_ag, h6, h29]; omega))

abbrev rm_c_renew : Room := { frames := 3, cells := 0, slots := 0, locals := 69 }
set_option maxHeartbeats 4000000 in
set_option maxRecDepth 100000 in
theorem c_renew (l : Launch) (dC : Nat → ClassId) (dI : Nat → Nat → Nat) (cI cB cQ cJ : ClassId) (aT : Nat) (aS : Nat) (aW : Nat) (aM : Nat) (P : Nat) (w : Nat → Int32) (ms : Nat → Bool) (mk : Bool) (hp5 : dr_P P) : MV l yX1_renewParities (Cond.code yX1_renewParities cX1_renewParities 2 none :: TB) rm_c_renew (dC, dI) vwCl (TY cI cB cQ cJ) [.ref aT] [(aT, .inr (1, [.ref aS, .ref aW, .ref aM, .int (bI mk)])), (aW, .inl (cI, P * P, .inl w)), (aM, .inl (cB, P, .inl (fun z9 => bI (ms z9)))), (aS, .inr (0, [.int (nI P), .int (nI (P - 2)), .int (nI (P - 1)), .int (nI (P * (P - 2)))]))] (fun (u : Unit) => True) (fun (u : Unit) => [(aT, .inr (1, [.ref aS, .ref aW, .ref aM, .int (bI mk)])), (aW, .inl (cI, P * P, .inl (dr_rn P w P))), (aM, .inl (cB, P, .inl (fun z9 => bI (ms z9)))), (aS, .inr (0, [.int (nI P), .int (nI (P - 2)), .int (nI (P - 1)), .int (nI (P * (P - 2)))]))]) := by
  refine MV.ofW (cc := cX1_renewParities) (maxL := 2) (by decide +kernel) rfl (Nat.le_of_ble_eq_true rfl) ?_
  intro p e s m args below meth c A ls Q H locs hQ hx hb hml hr hlk hts hown hK hP hD hS hA hl
  have hts : ∀ w ∈ TB, w.before args s = true := fun w h => hts w (List.mem_cons_of_mem _ h)
  have hown : s.vm.findClass RX1 = some m.cls := hown
  have hl : lv_has ls 2 [(0, .ref aT)] := hl
  have hP : va_P (dC, dI) vwCl [(aT, .inr (1, [.ref aS, .ref aW, .ref aM, .int (bI mk)])), (aW, .inl (cI, P * P, .inl w)), (aM, .inl (cB, P, .inl (fun z9 => bI (ms z9)))), (aS, .inr (0, [.int (nI P), .int (nI (P - 2)), .int (nI (P - 1)), .int (nI (P * (P - 2)))]))] H := hP
  have hD : va_D A [(aT, .inr (1, [.ref aS, .ref aW, .ref aM, .int (bI mk)])), (aW, .inl (cI, P * P, .inl w)), (aM, .inl (cB, P, .inl (fun z9 => bI (ms z9)))), (aS, .inr (0, [.int (nI P), .int (nI (P - 2)), .int (nI (P - 1)), .int (nI (P * (P - 2)))]))] := hD
  have hp := hp5.le
  have hpp := dr_PP hp5
  have hpq := dr_PP2 hp5
  refine lv_iconst (v := nI 0) hx hb dX1_renewParities_0 (by decide) ?_
  refine lv_istore_n hx hb dX1_renewParities_1 rfl hl (by decide) rfl (fun ls hl => ?_)
  have hl : lv_has ls 2 [(1, .int (nI 0)), (0, .ref aT)] := hl
  have lp2 : ∀ (n9 : Nat) (i : Nat) (ls : Array Slot) (H : Heap) (locs : List Loc), P - i < n9 → (i ≤ P) → lv_has ls 2 [(1, .int (nI i)), (0, .ref aT)] → va_P (dC, dI) vwCl [(aT, .inr (1, [.ref aS, .ref aW, .ref aM, .int (bI mk)])), (aW, .inl (cI, P * P, .inl (dr_rn P w i))), (aM, .inl (cB, P, .inl (fun z9 => bI (ms z9)))), (aS, .inr (0, [.int (nI P), .int (nI (P - 2)), .int (nI (P - 1)), .int (nI (P * (P - 2)))]))] H → va_D A [(aT, .inr (1, [.ref aS, .ref aW, .ref aM, .int (bI mk)])), (aW, .inl (cI, P * P, .inl (dr_rn P w i))), (aM, .inl (cB, P, .inl (fun z9 => bI (ms z9)))), (aS, .inr (0, [.int (nI P), .int (nI (P - 2)), .int (nI (P - 1)), .int (nI (P * (P - 2)))]))] → va_S A s.heap H locs → W p l e rm_c_renew s m args below meth c H locs 0 0 Q (F0 m 2 ls []) := by
    intro n9
    induction n9 with
    | zero => intro i ls H locs hn9; omega
    | succ n9 ih2 =>
      intro i ls H locs hn9 hi hl hP hD hS
      refine lv_iload_n hx hb dX1_renewParities_2 rfl (lv_at hl 0 rfl) ?_
      refine lv_aload_n hx hb dX1_renewParities_3 rfl (lv_at hl 1 rfl) ?_
      refine va_get (D := (dC, dI)) (ci := 1) (v := .ref aS) (C := RX1) (T := TX1) (N := 4) hx hb hts inX1 hown hK hP 0 rfl rfl 0 (by decide) (hts _ t_fX1_9) (fun _ h9 => h9) rfl dX1_renewParities_4 ?_
      refine va_get (D := (dC, dI)) (ci := 0) (v := .int (nI P)) (C := RX0) (T := TX0) (N := 4) hx hb hts inX0 hown hK hP 3 rfl rfl 0 (by decide) (hts _ t_fX1_15) (fun _ h9 => h9) rfl dX1_renewParities_7 ?_
      refine x_cge (tgt := 83) hx hb dX1_renewParities_10 (by decide) (by omega) (by omega) (fun h10 => ?_) (fun h10 => ?_)
      · -- 10t
        have hie10 : i = P := by omega
        try rw [hie10] at hl
        try rw [hie10] at hP
        try rw [hie10] at hD
        have hl : lv_has ls 2 [(1, .int (nI P)), (0, .ref aT)] := hl
        have hP : va_P (dC, dI) vwCl [(aT, .inr (1, [.ref aS, .ref aW, .ref aM, .int (bI mk)])), (aW, .inl (cI, P * P, .inl (dr_rn P w P))), (aM, .inl (cB, P, .inl (fun z9 => bI (ms z9)))), (aS, .inr (0, [.int (nI P), .int (nI (P - 2)), .int (nI (P - 1)), .int (nI (P * (P - 2)))]))] H := hP
        have hD : va_D A [(aT, .inr (1, [.ref aS, .ref aW, .ref aM, .int (bI mk)])), (aW, .inl (cI, P * P, .inl (dr_rn P w P))), (aM, .inl (cB, P, .inl (fun z9 => bI (ms z9)))), (aS, .inr (0, [.int (nI P), .int (nI (P - 2)), .int (nI (P - 1)), .int (nI (P * (P - 2)))]))] := hD
        exact x_vret (D := (dC, dI)) (cl := vwCl) (A := A) () hQ hx hb hr hlk hP hD hS dX1_renewParities_83 trivial
      · -- 10f
        refine lv_aload_n hx hb dX1_renewParities_13 rfl (lv_at hl 1 rfl) ?_
        refine va_get (D := (dC, dI)) (ci := 1) (v := .ref aW) (C := RX1) (T := TX1) (N := 4) hx hb hts inX1 hown hK hP 0 rfl rfl 1 (by decide) (hts _ t_fX1_21) (fun _ h9 => h9) rfl dX1_renewParities_14 ?_
        refine lv_aload_n hx hb dX1_renewParities_17 rfl (lv_at hl 1 rfl) ?_
        refine va_get (D := (dC, dI)) (ci := 1) (v := .ref aS) (C := RX1) (T := TX1) (N := 4) hx hb hts inX1 hown hK hP 0 rfl rfl 0 (by decide) (hts _ t_fX1_9) (fun _ h9 => h9) rfl dX1_renewParities_18 ?_
        refine lv_iload_n hx hb dX1_renewParities_21 rfl (lv_at hl 0 rfl) ?_
        refine lv_aload_n hx hb dX1_renewParities_22 rfl (lv_at hl 1 rfl) ?_
        refine va_get (D := (dC, dI)) (ci := 1) (v := .ref aS) (C := RX1) (T := TX1) (N := 4) hx hb hts inX1 hown hK hP 0 rfl rfl 0 (by decide) (hts _ t_fX1_9) (fun _ h9 => h9) rfl dX1_renewParities_23 ?_
        refine va_get (D := (dC, dI)) (ci := 0) (v := .int (nI (P - 2))) (C := RX0) (T := TX0) (N := 4) hx hb hts inX0 hown hK hP 3 rfl rfl 1 (by decide) (hts _ t_fX1_41) (fun _ h9 => h9) rfl dX1_renewParities_26 ?_
        refine gV (wr := [(aT, .inr (1, [.ref aS, .ref aW, .ref aM, .int (bI mk)])), (aW, .inl (cI, P * P, .inl (dr_rn P w i))), (aM, .inl (cB, P, .inl (fun z9 => bI (ms z9))))]) (pre := [(aT, .inr (1, [.ref aS, .ref aW, .ref aM, .int (bI mk)])), (aW, .inl (cI, P * P, .inl (dr_rn P w i))), (aM, .inl (cB, P, .inl (fun z9 => bI (ms z9)))), (aS, .inr (0, [.int (nI P), .int (nI (P - 2)), .int (nI (P - 1)), .int (nI (P * (P - 2)))]))]) (tl := []) (G := fun (u : Unit) => [(aT, .inr (1, [.ref aS, .ref aW, .ref aM, .int (bI mk)])), (aW, .inl (cI, P * P, .inl (dr_rn P w i))), (aM, .inl (cB, P, .inl (fun z9 => bI (ms z9)))), (aS, .inr (0, [.int (nI P), .int (nI (P - 2)), .int (nI (P - 1)), .int (nI (P * (P - 2)))]))]) (b := aS) (As := [.int (nI i), .int (nI (P - 2))]) (rst := [.ref aW]) ⟨hx, hb, hml, hown, hts⟩ (c_place l dC dI cI cB cQ cJ aS P i (P - 2) ) (cwV 2 hts (gdV t_mX1_37 t_inst_X0_place t_sel_X0_place t_ini_X0 t_code_X0_place) rfl rfl rfl (by decide +kernel) ⟨Nat.le_of_ble_eq_true rfl, Nat.le_of_ble_eq_true rfl⟩) hK hP hD hS hA [3] [0, 1, 2] [1, 2, 3, 0] rfl (by decide) (fun _ => rfl) (by decide) (ci := 0) rfl rfl rfl rfl hl.1 rfl (Nat.le_of_ble_eq_true rfl) dX1_renewParities_29 ⟨Nat.zero_le _, Nat.zero_le _⟩ (fun r u H locs hu1 hP hD hS => ?_)
        have hr29 := hu1
        have hr29 : r = nI (i * P + (P - 2)) := hr29
        subst hr29
        have hP : va_P (dC, dI) vwCl [(aT, .inr (1, [.ref aS, .ref aW, .ref aM, .int (bI mk)])), (aW, .inl (cI, P * P, .inl (dr_rn P w i))), (aM, .inl (cB, P, .inl (fun z9 => bI (ms z9)))), (aS, .inr (0, [.int (nI P), .int (nI (P - 2)), .int (nI (P - 1)), .int (nI (P * (P - 2)))]))] H := hP
        have hD : va_D A [(aT, .inr (1, [.ref aS, .ref aW, .ref aM, .int (bI mk)])), (aW, .inl (cI, P * P, .inl (dr_rn P w i))), (aM, .inl (cB, P, .inl (fun z9 => bI (ms z9)))), (aS, .inr (0, [.int (nI P), .int (nI (P - 2)), .int (nI (P - 1)), .int (nI (P * (P - 2)))]))] := hD
        refine lv_aload_n hx hb dX1_renewParities_32 rfl (lv_at hl 1 rfl) ?_
        refine lv_iload_n hx hb dX1_renewParities_33 rfl (lv_at hl 0 rfl) ?_
        refine lv_aload_n hx hb dX1_renewParities_34 rfl (lv_at hl 1 rfl) ?_
        refine va_get (D := (dC, dI)) (ci := 1) (v := .ref aS) (C := RX1) (T := TX1) (N := 4) hx hb hts inX1 hown hK hP 0 rfl rfl 0 (by decide) (hts _ t_fX1_9) (fun _ h9 => h9) rfl dX1_renewParities_35 ?_
        refine va_get (D := (dC, dI)) (ci := 0) (v := .int (nI (P - 2))) (C := RX0) (T := TX0) (N := 4) hx hb hts inX0 hown hK hP 3 rfl rfl 1 (by decide) (hts _ t_fX1_41) (fun _ h9 => h9) rfl dX1_renewParities_38 ?_
        refine gV (wr := []) (pre := [(aT, .inr (1, [.ref aS, .ref aW, .ref aM, .int (bI mk)])), (aW, .inl (cI, P * P, .inl (dr_rn P w i))), (aM, .inl (cB, P, .inl (fun z9 => bI (ms z9)))), (aS, .inr (0, [.int (nI P), .int (nI (P - 2)), .int (nI (P - 1)), .int (nI (P * (P - 2)))]))]) (tl := []) (G := fun (u : Unit) => [(aT, .inr (1, [.ref aS, .ref aW, .ref aM, .int (bI mk)])), (aW, .inl (cI, P * P, .inl (dr_rn P w i))), (aM, .inl (cB, P, .inl (fun z9 => bI (ms z9)))), (aS, .inr (0, [.int (nI P), .int (nI (P - 2)), .int (nI (P - 1)), .int (nI (P * (P - 2)))]))]) (b := aT) (As := [.int (nI i), .int (nI (P - 2))]) (rst := [.int (nI (i * P + (P - 2))), .ref aW]) ⟨hx, hb, hml, hown, hts⟩ (c_sum l dC dI cI cB cQ cJ aT aS aW aM P (dr_rn P w i) ms mk i (P - 2) hp5 (by omega) (Or.inl rfl)) (cwV 2 hts (gdV t_mX1_44 t_inst_X1_dataSum t_sel_X1_dataSum t_ini_X1 t_code_X1_dataSum) rfl rfl rfl (by decide +kernel) ⟨Nat.le_of_ble_eq_true rfl, Nat.le_of_ble_eq_true rfl⟩) hK hP hD hS hA [0, 1, 2, 3] [] [0, 1, 2, 3] rfl (by decide) (fun _ => rfl) (by decide) (ci := 1) rfl rfl rfl rfl hl.1 rfl (Nat.le_of_ble_eq_true rfl) dX1_renewParities_41 ⟨Nat.zero_le _, Nat.zero_le _⟩ (fun r u H locs hu2 hP hD hS => ?_)
        have hr41 := hu2
        have hr41 : r = dr_sum P (dr_rn P w i) i (P - 2) (P - 2) := hr41
        subst hr41
        have hP : va_P (dC, dI) vwCl [(aT, .inr (1, [.ref aS, .ref aW, .ref aM, .int (bI mk)])), (aW, .inl (cI, P * P, .inl (dr_rn P w i))), (aM, .inl (cB, P, .inl (fun z9 => bI (ms z9)))), (aS, .inr (0, [.int (nI P), .int (nI (P - 2)), .int (nI (P - 1)), .int (nI (P * (P - 2)))]))] H := hP
        have hD : va_D A [(aT, .inr (1, [.ref aS, .ref aW, .ref aM, .int (bI mk)])), (aW, .inl (cI, P * P, .inl (dr_rn P w i))), (aM, .inl (cB, P, .inl (fun z9 => bI (ms z9)))), (aS, .inr (0, [.int (nI P), .int (nI (P - 2)), .int (nI (P - 1)), .int (nI (P * (P - 2)))]))] := hD
        refine x_iast (f := (dr_rn P w i)) hx hb hK hP hD hS 1 0 rfl rfl dX1_renewParities_44 (dr_pl (by omega) (by omega)) (by omega) (fun H locs hP hD hS => ?_)
        have hP : va_P (dC, dI) vwCl [(aT, .inr (1, [.ref aS, .ref aW, .ref aM, .int (bI mk)])), (aW, .inl (cI, P * P, .inl (dr_rn1 P (dr_rn P w i) i (P - 2)))), (aM, .inl (cB, P, .inl (fun z9 => bI (ms z9)))), (aS, .inr (0, [.int (nI P), .int (nI (P - 2)), .int (nI (P - 1)), .int (nI (P * (P - 2)))]))] H := hP
        have hD : va_D A [(aT, .inr (1, [.ref aS, .ref aW, .ref aM, .int (bI mk)])), (aW, .inl (cI, P * P, .inl (dr_rn1 P (dr_rn P w i) i (P - 2)))), (aM, .inl (cB, P, .inl (fun z9 => bI (ms z9)))), (aS, .inr (0, [.int (nI P), .int (nI (P - 2)), .int (nI (P - 1)), .int (nI (P * (P - 2)))]))] := hD
        refine lv_aload_n hx hb dX1_renewParities_45 rfl (lv_at hl 1 rfl) ?_
        refine va_get (D := (dC, dI)) (ci := 1) (v := .ref aW) (C := RX1) (T := TX1) (N := 4) hx hb hts inX1 hown hK hP 0 rfl rfl 1 (by decide) (hts _ t_fX1_21) (fun _ h9 => h9) rfl dX1_renewParities_46 ?_
        refine lv_aload_n hx hb dX1_renewParities_49 rfl (lv_at hl 1 rfl) ?_
        refine va_get (D := (dC, dI)) (ci := 1) (v := .ref aS) (C := RX1) (T := TX1) (N := 4) hx hb hts inX1 hown hK hP 0 rfl rfl 0 (by decide) (hts _ t_fX1_9) (fun _ h9 => h9) rfl dX1_renewParities_50 ?_
        refine lv_iload_n hx hb dX1_renewParities_53 rfl (lv_at hl 0 rfl) ?_
        refine lv_aload_n hx hb dX1_renewParities_54 rfl (lv_at hl 1 rfl) ?_
        refine va_get (D := (dC, dI)) (ci := 1) (v := .ref aS) (C := RX1) (T := TX1) (N := 4) hx hb hts inX1 hown hK hP 0 rfl rfl 0 (by decide) (hts _ t_fX1_9) (fun _ h9 => h9) rfl dX1_renewParities_55 ?_
        refine va_get (D := (dC, dI)) (ci := 0) (v := .int (nI (P - 1))) (C := RX0) (T := TX0) (N := 4) hx hb hts inX0 hown hK hP 3 rfl rfl 2 (by decide) (hts _ t_fX1_47) (fun _ h9 => h9) rfl dX1_renewParities_58 ?_
        refine gV (wr := [(aT, .inr (1, [.ref aS, .ref aW, .ref aM, .int (bI mk)])), (aW, .inl (cI, P * P, .inl (dr_rn1 P (dr_rn P w i) i (P - 2)))), (aM, .inl (cB, P, .inl (fun z9 => bI (ms z9))))]) (pre := [(aT, .inr (1, [.ref aS, .ref aW, .ref aM, .int (bI mk)])), (aW, .inl (cI, P * P, .inl (dr_rn1 P (dr_rn P w i) i (P - 2)))), (aM, .inl (cB, P, .inl (fun z9 => bI (ms z9)))), (aS, .inr (0, [.int (nI P), .int (nI (P - 2)), .int (nI (P - 1)), .int (nI (P * (P - 2)))]))]) (tl := []) (G := fun (u : Unit) => [(aT, .inr (1, [.ref aS, .ref aW, .ref aM, .int (bI mk)])), (aW, .inl (cI, P * P, .inl (dr_rn1 P (dr_rn P w i) i (P - 2)))), (aM, .inl (cB, P, .inl (fun z9 => bI (ms z9)))), (aS, .inr (0, [.int (nI P), .int (nI (P - 2)), .int (nI (P - 1)), .int (nI (P * (P - 2)))]))]) (b := aS) (As := [.int (nI i), .int (nI (P - 1))]) (rst := [.ref aW]) ⟨hx, hb, hml, hown, hts⟩ (c_place l dC dI cI cB cQ cJ aS P i (P - 1) ) (cwV 2 hts (gdV t_mX1_37 t_inst_X0_place t_sel_X0_place t_ini_X0 t_code_X0_place) rfl rfl rfl (by decide +kernel) ⟨Nat.le_of_ble_eq_true rfl, Nat.le_of_ble_eq_true rfl⟩) hK hP hD hS hA [3] [0, 1, 2] [1, 2, 3, 0] rfl (by decide) (fun _ => rfl) (by decide) (ci := 0) rfl rfl rfl rfl hl.1 rfl (Nat.le_of_ble_eq_true rfl) dX1_renewParities_61 ⟨Nat.zero_le _, Nat.zero_le _⟩ (fun r u H locs hu3 hP hD hS => ?_)
        have hr61 := hu3
        have hr61 : r = nI (i * P + (P - 1)) := hr61
        subst hr61
        have hP : va_P (dC, dI) vwCl [(aT, .inr (1, [.ref aS, .ref aW, .ref aM, .int (bI mk)])), (aW, .inl (cI, P * P, .inl (dr_rn1 P (dr_rn P w i) i (P - 2)))), (aM, .inl (cB, P, .inl (fun z9 => bI (ms z9)))), (aS, .inr (0, [.int (nI P), .int (nI (P - 2)), .int (nI (P - 1)), .int (nI (P * (P - 2)))]))] H := hP
        have hD : va_D A [(aT, .inr (1, [.ref aS, .ref aW, .ref aM, .int (bI mk)])), (aW, .inl (cI, P * P, .inl (dr_rn1 P (dr_rn P w i) i (P - 2)))), (aM, .inl (cB, P, .inl (fun z9 => bI (ms z9)))), (aS, .inr (0, [.int (nI P), .int (nI (P - 2)), .int (nI (P - 1)), .int (nI (P * (P - 2)))]))] := hD
        refine lv_aload_n hx hb dX1_renewParities_64 rfl (lv_at hl 1 rfl) ?_
        refine lv_iload_n hx hb dX1_renewParities_65 rfl (lv_at hl 0 rfl) ?_
        refine lv_aload_n hx hb dX1_renewParities_66 rfl (lv_at hl 1 rfl) ?_
        refine va_get (D := (dC, dI)) (ci := 1) (v := .ref aS) (C := RX1) (T := TX1) (N := 4) hx hb hts inX1 hown hK hP 0 rfl rfl 0 (by decide) (hts _ t_fX1_9) (fun _ h9 => h9) rfl dX1_renewParities_67 ?_
        refine va_get (D := (dC, dI)) (ci := 0) (v := .int (nI (P - 1))) (C := RX0) (T := TX0) (N := 4) hx hb hts inX0 hown hK hP 3 rfl rfl 2 (by decide) (hts _ t_fX1_47) (fun _ h9 => h9) rfl dX1_renewParities_70 ?_
        refine gV (wr := []) (pre := [(aT, .inr (1, [.ref aS, .ref aW, .ref aM, .int (bI mk)])), (aW, .inl (cI, P * P, .inl (dr_rn1 P (dr_rn P w i) i (P - 2)))), (aM, .inl (cB, P, .inl (fun z9 => bI (ms z9)))), (aS, .inr (0, [.int (nI P), .int (nI (P - 2)), .int (nI (P - 1)), .int (nI (P * (P - 2)))]))]) (tl := []) (G := fun (u : Unit) => [(aT, .inr (1, [.ref aS, .ref aW, .ref aM, .int (bI mk)])), (aW, .inl (cI, P * P, .inl (dr_rn1 P (dr_rn P w i) i (P - 2)))), (aM, .inl (cB, P, .inl (fun z9 => bI (ms z9)))), (aS, .inr (0, [.int (nI P), .int (nI (P - 2)), .int (nI (P - 1)), .int (nI (P * (P - 2)))]))]) (b := aT) (As := [.int (nI i), .int (nI (P - 1))]) (rst := [.int (nI (i * P + (P - 1))), .ref aW]) ⟨hx, hb, hml, hown, hts⟩ (c_sum l dC dI cI cB cQ cJ aT aS aW aM P (dr_rn1 P (dr_rn P w i) i (P - 2)) ms mk i (P - 1) hp5 (by omega) (Or.inr rfl)) (cwV 2 hts (gdV t_mX1_44 t_inst_X1_dataSum t_sel_X1_dataSum t_ini_X1 t_code_X1_dataSum) rfl rfl rfl (by decide +kernel) ⟨Nat.le_of_ble_eq_true rfl, Nat.le_of_ble_eq_true rfl⟩) hK hP hD hS hA [0, 1, 2, 3] [] [0, 1, 2, 3] rfl (by decide) (fun _ => rfl) (by decide) (ci := 1) rfl rfl rfl rfl hl.1 rfl (Nat.le_of_ble_eq_true rfl) dX1_renewParities_73 ⟨Nat.zero_le _, Nat.zero_le _⟩ (fun r u H locs hu4 hP hD hS => ?_)
        have hr73 := hu4
        have hr73 : r = dr_sum P (dr_rn1 P (dr_rn P w i) i (P - 2)) i (P - 1) (P - 2) := hr73
        subst hr73
        have hP : va_P (dC, dI) vwCl [(aT, .inr (1, [.ref aS, .ref aW, .ref aM, .int (bI mk)])), (aW, .inl (cI, P * P, .inl (dr_rn1 P (dr_rn P w i) i (P - 2)))), (aM, .inl (cB, P, .inl (fun z9 => bI (ms z9)))), (aS, .inr (0, [.int (nI P), .int (nI (P - 2)), .int (nI (P - 1)), .int (nI (P * (P - 2)))]))] H := hP
        have hD : va_D A [(aT, .inr (1, [.ref aS, .ref aW, .ref aM, .int (bI mk)])), (aW, .inl (cI, P * P, .inl (dr_rn1 P (dr_rn P w i) i (P - 2)))), (aM, .inl (cB, P, .inl (fun z9 => bI (ms z9)))), (aS, .inr (0, [.int (nI P), .int (nI (P - 2)), .int (nI (P - 1)), .int (nI (P * (P - 2)))]))] := hD
        refine x_iast (f := (dr_rn1 P (dr_rn P w i) i (P - 2))) hx hb hK hP hD hS 1 0 rfl rfl dX1_renewParities_76 (dr_pl (by omega) (by omega)) (by omega) (fun H locs hP hD hS => ?_)
        have hP : va_P (dC, dI) vwCl [(aT, .inr (1, [.ref aS, .ref aW, .ref aM, .int (bI mk)])), (aW, .inl (cI, P * P, .inl (dr_rn1 P (dr_rn1 P (dr_rn P w i) i (P - 2)) i (P - 1)))), (aM, .inl (cB, P, .inl (fun z9 => bI (ms z9)))), (aS, .inr (0, [.int (nI P), .int (nI (P - 2)), .int (nI (P - 1)), .int (nI (P * (P - 2)))]))] H := hP
        have hD : va_D A [(aT, .inr (1, [.ref aS, .ref aW, .ref aM, .int (bI mk)])), (aW, .inl (cI, P * P, .inl (dr_rn1 P (dr_rn1 P (dr_rn P w i) i (P - 2)) i (P - 1)))), (aM, .inl (cB, P, .inl (fun z9 => bI (ms z9)))), (aS, .inr (0, [.int (nI P), .int (nI (P - 2)), .int (nI (P - 1)), .int (nI (P * (P - 2)))]))] := hD
        refine lv_iinc (v := nI (i + 1)) hx hb dX1_renewParities_77 hl (k := 0) rfl (x_inc _) (by decide) rfl (fun ls hl => ?_)
        have hl : lv_has ls 2 [(1, .int (nI (i + 1))), (0, .ref aT)] := hl
        refine lv_goto (tgt := 2) hx hb dX1_renewParities_80 (by decide) ?_
        have e5 : (dr_rn P w (i + 1)) = (dr_rn1 P (dr_rn1 P (dr_rn P w i) i (P - 2)) i (P - 1)) := by first | rfl | (simp [h10]; done) | (simp [h10]; omega)
        exact ih2 (i + 1) ls H locs (by omega) (by omega) (lv_sub hl [0, 1] rfl) (by rw [e5]; exact hP) (by rw [e5]; exact hD) hS
  have e6 : (dr_rn P w 0) = w := by first | rfl | (simp []; done) | (simp []; omega)
  exact lp2 (P - 0 + 1) 0 ls H locs (by omega) (by omega) (lv_sub hl [0, 1] rfl) (by rw [e6]; exact hP) (by rw [e6]; exact hD) hS

abbrev rm_c_agn : Room := { frames := 4, cells := 0, slots := 0, locals := 91 }
set_option maxHeartbeats 4000000 in
set_option maxRecDepth 100000 in
theorem c_agn (l : Launch) (dC : Nat → ClassId) (dI : Nat → Nat → Nat) (cI cB cQ cJ : ClassId) (aT : Nat) (aS : Nat) (aW : Nat) (aM : Nat) (P : Nat) (w : Nat → Int32) (ms : Nat → Bool) (mk : Bool) (hp5 : dr_P P) : MG l yX1_agreeingParities (Cond.code yX1_agreeingParities cX1_agreeingParities 3 (some .int) :: TB) rm_c_agn (dC, dI) vwCl (TY cI cB cQ cJ) [.ref aT] [(aT, .inr (1, [.ref aS, .ref aW, .ref aM, .int (bI mk)])), (aW, .inl (cI, P * P, .inl w)), (aM, .inl (cB, P, .inl (fun z9 => bI (ms z9)))), (aS, .inr (0, [.int (nI P), .int (nI (P - 2)), .int (nI (P - 1)), .int (nI (P * (P - 2)))]))] (fun (r : Int32) (u : Unit) => r = nI (dr_agn P ms w P)) (fun (u : Unit) => [(aT, .inr (1, [.ref aS, .ref aW, .ref aM, .int (bI mk)])), (aW, .inl (cI, P * P, .inl w)), (aM, .inl (cB, P, .inl (fun z9 => bI (ms z9)))), (aS, .inr (0, [.int (nI P), .int (nI (P - 2)), .int (nI (P - 1)), .int (nI (P * (P - 2)))]))]) := by
  refine MG.ofW (cc := cX1_agreeingParities) (maxL := 3) (rt := .int) (by decide +kernel) rfl (Nat.le_of_ble_eq_true rfl) ?_
  intro p e s m args below meth c A ls Q H locs hQ hx hb hml hr hlk hts hown hK hP hD hS hA hl
  have hts : ∀ w ∈ TB, w.before args s = true := fun w h => hts w (List.mem_cons_of_mem _ h)
  have hown : s.vm.findClass RX1 = some m.cls := hown
  have hl : lv_has ls 3 [(0, .ref aT)] := hl
  have hP : va_P (dC, dI) vwCl [(aT, .inr (1, [.ref aS, .ref aW, .ref aM, .int (bI mk)])), (aW, .inl (cI, P * P, .inl w)), (aM, .inl (cB, P, .inl (fun z9 => bI (ms z9)))), (aS, .inr (0, [.int (nI P), .int (nI (P - 2)), .int (nI (P - 1)), .int (nI (P * (P - 2)))]))] H := hP
  have hD : va_D A [(aT, .inr (1, [.ref aS, .ref aW, .ref aM, .int (bI mk)])), (aW, .inl (cI, P * P, .inl w)), (aM, .inl (cB, P, .inl (fun z9 => bI (ms z9)))), (aS, .inr (0, [.int (nI P), .int (nI (P - 2)), .int (nI (P - 1)), .int (nI (P * (P - 2)))]))] := hD
  have hp := hp5.le
  have hpp := dr_PP hp5
  have hpq := dr_PP2 hp5
  refine lv_iconst (v := nI 0) hx hb dX1_agreeingParities_0 (by decide) ?_
  refine lv_istore_n hx hb dX1_agreeingParities_1 rfl hl (by decide) rfl (fun ls hl => ?_)
  have hl : lv_has ls 3 [(1, .int (nI 0)), (0, .ref aT)] := hl
  refine lv_iconst (v := nI 0) hx hb dX1_agreeingParities_2 (by decide) ?_
  refine lv_istore_n hx hb dX1_agreeingParities_3 rfl hl (by decide) rfl (fun ls hl => ?_)
  have hl : lv_has ls 3 [(2, .int (nI 0)), (1, .int (nI 0)), (0, .ref aT)] := hl
  have lp4 : ∀ (n9 : Nat) (i : Nat) (ls : Array Slot) (H : Heap) (locs : List Loc), P - i < n9 → (i ≤ P) → lv_has ls 3 [(2, .int (nI i)), (1, .int (nI (dr_agn P ms w i))), (0, .ref aT)] → va_P (dC, dI) vwCl [(aT, .inr (1, [.ref aS, .ref aW, .ref aM, .int (bI mk)])), (aW, .inl (cI, P * P, .inl w)), (aM, .inl (cB, P, .inl (fun z9 => bI (ms z9)))), (aS, .inr (0, [.int (nI P), .int (nI (P - 2)), .int (nI (P - 1)), .int (nI (P * (P - 2)))]))] H → va_D A [(aT, .inr (1, [.ref aS, .ref aW, .ref aM, .int (bI mk)])), (aW, .inl (cI, P * P, .inl w)), (aM, .inl (cB, P, .inl (fun z9 => bI (ms z9)))), (aS, .inr (0, [.int (nI P), .int (nI (P - 2)), .int (nI (P - 1)), .int (nI (P * (P - 2)))]))] → va_S A s.heap H locs → W p l e rm_c_agn s m args below meth c H locs 0 0 Q (F0 m 4 ls []) := by
    intro n9
    induction n9 with
    | zero => intro i ls H locs hn9; omega
    | succ n9 ih4 =>
      intro i ls H locs hn9 hi hl hP hD hS
      refine lv_iload_n hx hb dX1_agreeingParities_4 rfl (lv_at hl 0 rfl) ?_
      refine lv_aload_n hx hb dX1_agreeingParities_5 rfl (lv_at hl 2 rfl) ?_
      refine va_get (D := (dC, dI)) (ci := 1) (v := .ref aS) (C := RX1) (T := TX1) (N := 4) hx hb hts inX1 hown hK hP 0 rfl rfl 0 (by decide) (hts _ t_fX1_9) (fun _ h9 => h9) rfl dX1_agreeingParities_6 ?_
      refine va_get (D := (dC, dI)) (ci := 0) (v := .int (nI P)) (C := RX0) (T := TX0) (N := 4) hx hb hts inX0 hown hK hP 3 rfl rfl 0 (by decide) (hts _ t_fX1_15) (fun _ h9 => h9) rfl dX1_agreeingParities_9 ?_
      refine x_cge (tgt := 57) hx hb dX1_agreeingParities_12 (by decide) (by omega) (by omega) (fun h12 => ?_) (fun h12 => ?_)
      · -- 12t
        have hie12 : i = P := by omega
        try rw [hie12] at hl
        try rw [hie12] at hP
        try rw [hie12] at hD
        have hl : lv_has ls 3 [(2, .int (nI P)), (1, .int (nI (dr_agn P ms w P))), (0, .ref aT)] := hl
        have hP : va_P (dC, dI) vwCl [(aT, .inr (1, [.ref aS, .ref aW, .ref aM, .int (bI mk)])), (aW, .inl (cI, P * P, .inl w)), (aM, .inl (cB, P, .inl (fun z9 => bI (ms z9)))), (aS, .inr (0, [.int (nI P), .int (nI (P - 2)), .int (nI (P - 1)), .int (nI (P * (P - 2)))]))] H := hP
        have hD : va_D A [(aT, .inr (1, [.ref aS, .ref aW, .ref aM, .int (bI mk)])), (aW, .inl (cI, P * P, .inl w)), (aM, .inl (cB, P, .inl (fun z9 => bI (ms z9)))), (aS, .inr (0, [.int (nI P), .int (nI (P - 2)), .int (nI (P - 1)), .int (nI (P * (P - 2)))]))] := hD
        refine lv_iload_n hx hb dX1_agreeingParities_57 rfl (lv_at hl 1 rfl) ?_
        exact x_iret (D := (dC, dI)) (cl := vwCl) (A := A) () hQ hx hb hr hlk hP hD hS dX1_agreeingParities_58 (by first | rfl | (simp [h12]; done) | (simp [h12]; omega))
      · -- 12f
        refine lv_aload_n hx hb dX1_agreeingParities_15 rfl (lv_at hl 2 rfl) ?_
        refine lv_iload_n hx hb dX1_agreeingParities_16 rfl (lv_at hl 0 rfl) ?_
        refine lv_aload_n hx hb dX1_agreeingParities_17 rfl (lv_at hl 2 rfl) ?_
        refine va_get (D := (dC, dI)) (ci := 1) (v := .ref aS) (C := RX1) (T := TX1) (N := 4) hx hb hts inX1 hown hK hP 0 rfl rfl 0 (by decide) (hts _ t_fX1_9) (fun _ h9 => h9) rfl dX1_agreeingParities_18 ?_
        refine va_get (D := (dC, dI)) (ci := 0) (v := .int (nI (P - 2))) (C := RX0) (T := TX0) (N := 4) hx hb hts inX0 hown hK hP 3 rfl rfl 1 (by decide) (hts _ t_fX1_41) (fun _ h9 => h9) rfl dX1_agreeingParities_21 ?_
        refine gV (wr := []) (pre := [(aT, .inr (1, [.ref aS, .ref aW, .ref aM, .int (bI mk)])), (aW, .inl (cI, P * P, .inl w)), (aM, .inl (cB, P, .inl (fun z9 => bI (ms z9)))), (aS, .inr (0, [.int (nI P), .int (nI (P - 2)), .int (nI (P - 1)), .int (nI (P * (P - 2)))]))]) (tl := []) (G := fun (u : Unit) => [(aT, .inr (1, [.ref aS, .ref aW, .ref aM, .int (bI mk)])), (aW, .inl (cI, P * P, .inl w)), (aM, .inl (cB, P, .inl (fun z9 => bI (ms z9)))), (aS, .inr (0, [.int (nI P), .int (nI (P - 2)), .int (nI (P - 1)), .int (nI (P * (P - 2)))]))]) (b := aT) (As := [.int (nI i), .int (nI (P - 2))]) (rst := []) ⟨hx, hb, hml, hown, hts⟩ (c_agrees l dC dI cI cB cQ cJ aT aS aW aM P w ms mk i (P - 2) hp5 (by omega) (Or.inl rfl)) (cwV 2 hts (gdV t_mX1_50 t_inst_X1_agrees t_sel_X1_agrees t_ini_X1 t_code_X1_agrees) rfl rfl rfl (by decide +kernel) ⟨Nat.le_of_ble_eq_true rfl, Nat.le_of_ble_eq_true rfl⟩) hK hP hD hS hA [0, 1, 2, 3] [] [0, 1, 2, 3] rfl (by decide) (fun _ => rfl) (by decide) (ci := 1) rfl rfl rfl rfl hl.1 rfl (Nat.le_of_ble_eq_true rfl) dX1_agreeingParities_24 ⟨Nat.zero_le _, Nat.zero_le _⟩ (fun r u H locs hu1 hP hD hS => ?_)
        have hr24 := hu1
        have hr24 : r = bI (dr_ag P ms w i (P - 2)) := hr24
        subst hr24
        have hP : va_P (dC, dI) vwCl [(aT, .inr (1, [.ref aS, .ref aW, .ref aM, .int (bI mk)])), (aW, .inl (cI, P * P, .inl w)), (aM, .inl (cB, P, .inl (fun z9 => bI (ms z9)))), (aS, .inr (0, [.int (nI P), .int (nI (P - 2)), .int (nI (P - 1)), .int (nI (P * (P - 2)))]))] H := hP
        have hD : va_D A [(aT, .inr (1, [.ref aS, .ref aW, .ref aM, .int (bI mk)])), (aW, .inl (cI, P * P, .inl w)), (aM, .inl (cB, P, .inl (fun z9 => bI (ms z9)))), (aS, .inr (0, [.int (nI P), .int (nI (P - 2)), .int (nI (P - 1)), .int (nI (P * (P - 2)))]))] := hD
        refine x_ifF (tgt := 33) hx hb dX1_agreeingParities_27 (by decide) (fun h27 => ?_) (fun h27 => ?_)
        · -- 27t
          refine lv_aload_n hx hb dX1_agreeingParities_33 rfl (lv_at hl 2 rfl) ?_
          refine lv_iload_n hx hb dX1_agreeingParities_34 rfl (lv_at hl 0 rfl) ?_
          refine lv_aload_n hx hb dX1_agreeingParities_35 rfl (lv_at hl 2 rfl) ?_
          refine va_get (D := (dC, dI)) (ci := 1) (v := .ref aS) (C := RX1) (T := TX1) (N := 4) hx hb hts inX1 hown hK hP 0 rfl rfl 0 (by decide) (hts _ t_fX1_9) (fun _ h9 => h9) rfl dX1_agreeingParities_36 ?_
          refine va_get (D := (dC, dI)) (ci := 0) (v := .int (nI (P - 1))) (C := RX0) (T := TX0) (N := 4) hx hb hts inX0 hown hK hP 3 rfl rfl 2 (by decide) (hts _ t_fX1_47) (fun _ h9 => h9) rfl dX1_agreeingParities_39 ?_
          refine gV (wr := []) (pre := [(aT, .inr (1, [.ref aS, .ref aW, .ref aM, .int (bI mk)])), (aW, .inl (cI, P * P, .inl w)), (aM, .inl (cB, P, .inl (fun z9 => bI (ms z9)))), (aS, .inr (0, [.int (nI P), .int (nI (P - 2)), .int (nI (P - 1)), .int (nI (P * (P - 2)))]))]) (tl := []) (G := fun (u : Unit) => [(aT, .inr (1, [.ref aS, .ref aW, .ref aM, .int (bI mk)])), (aW, .inl (cI, P * P, .inl w)), (aM, .inl (cB, P, .inl (fun z9 => bI (ms z9)))), (aS, .inr (0, [.int (nI P), .int (nI (P - 2)), .int (nI (P - 1)), .int (nI (P * (P - 2)))]))]) (b := aT) (As := [.int (nI i), .int (nI (P - 1))]) (rst := []) ⟨hx, hb, hml, hown, hts⟩ (c_agrees l dC dI cI cB cQ cJ aT aS aW aM P w ms mk i (P - 1) hp5 (by omega) (Or.inr rfl)) (cwV 2 hts (gdV t_mX1_50 t_inst_X1_agrees t_sel_X1_agrees t_ini_X1 t_code_X1_agrees) rfl rfl rfl (by decide +kernel) ⟨Nat.le_of_ble_eq_true rfl, Nat.le_of_ble_eq_true rfl⟩) hK hP hD hS hA [0, 1, 2, 3] [] [0, 1, 2, 3] rfl (by decide) (fun _ => rfl) (by decide) (ci := 1) rfl rfl rfl rfl hl.1 rfl (Nat.le_of_ble_eq_true rfl) dX1_agreeingParities_42 ⟨Nat.zero_le _, Nat.zero_le _⟩ (fun r u H locs hu2 hP hD hS => ?_)
          have hr42 := hu2
          have hr42 : r = bI (dr_ag P ms w i (P - 1)) := hr42
          subst hr42
          have hP : va_P (dC, dI) vwCl [(aT, .inr (1, [.ref aS, .ref aW, .ref aM, .int (bI mk)])), (aW, .inl (cI, P * P, .inl w)), (aM, .inl (cB, P, .inl (fun z9 => bI (ms z9)))), (aS, .inr (0, [.int (nI P), .int (nI (P - 2)), .int (nI (P - 1)), .int (nI (P * (P - 2)))]))] H := hP
          have hD : va_D A [(aT, .inr (1, [.ref aS, .ref aW, .ref aM, .int (bI mk)])), (aW, .inl (cI, P * P, .inl w)), (aM, .inl (cB, P, .inl (fun z9 => bI (ms z9)))), (aS, .inr (0, [.int (nI P), .int (nI (P - 2)), .int (nI (P - 1)), .int (nI (P * (P - 2)))]))] := hD
          refine x_ifF (tgt := 51) hx hb dX1_agreeingParities_45 (by decide) (fun h45 => ?_) (fun h45 => ?_)
          · -- 45t
            refine lv_iinc (v := nI (i + 1)) hx hb dX1_agreeingParities_51 hl (k := 0) rfl (x_inc _) (by decide) rfl (fun ls hl => ?_)
            have hl : lv_has ls 3 [(2, .int (nI (i + 1))), (1, .int (nI (dr_agn P ms w i))), (0, .ref aT)] := hl
            refine lv_goto (tgt := 4) hx hb dX1_agreeingParities_54 (by decide) ?_
            have e3 : (dr_agn P ms w (i + 1)) = (dr_agn P ms w i) := by first | rfl | (simp [dr_agn, h12, h27, h45]; done) | (simp [dr_agn, h12, h27, h45]; omega)
            exact ih4 (i + 1) ls H locs (by omega) (by omega) (by rw [e3]; exact lv_sub hl [0, 1, 2] rfl) hP hD hS
          · -- 45f
            refine lv_iinc (v := nI (dr_agn P ms w i + 1)) hx hb dX1_agreeingParities_48 hl (k := 1) rfl (x_inc _) (by decide) rfl (fun ls hl => ?_)
            have hl : lv_has ls 3 [(1, .int (nI (dr_agn P ms w i + 1))), (2, .int (nI i)), (0, .ref aT)] := hl
            refine lv_iinc (v := nI (i + 1)) hx hb dX1_agreeingParities_51 hl (k := 1) rfl (x_inc _) (by decide) rfl (fun ls hl => ?_)
            have hl : lv_has ls 3 [(2, .int (nI (i + 1))), (1, .int (nI (dr_agn P ms w i + 1))), (0, .ref aT)] := hl
            refine lv_goto (tgt := 4) hx hb dX1_agreeingParities_54 (by decide) ?_
            have e4 : (dr_agn P ms w (i + 1)) = (dr_agn P ms w i + 1) := by first | rfl | (simp [dr_agn, h12, h27, h45]; done) | (simp [dr_agn, h12, h27, h45]; omega)
            exact ih4 (i + 1) ls H locs (by omega) (by omega) (by rw [e4]; exact lv_sub hl [0, 1, 2] rfl) hP hD hS
        · -- 27f
          refine lv_iinc (v := nI (dr_agn P ms w i + 1)) hx hb dX1_agreeingParities_30 hl (k := 1) rfl (x_inc _) (by decide) rfl (fun ls hl => ?_)
          have hl : lv_has ls 3 [(1, .int (nI (dr_agn P ms w i + 1))), (2, .int (nI i)), (0, .ref aT)] := hl
          refine lv_aload_n hx hb dX1_agreeingParities_33 rfl (lv_at hl 2 rfl) ?_
          refine lv_iload_n hx hb dX1_agreeingParities_34 rfl (lv_at hl 1 rfl) ?_
          refine lv_aload_n hx hb dX1_agreeingParities_35 rfl (lv_at hl 2 rfl) ?_
          refine va_get (D := (dC, dI)) (ci := 1) (v := .ref aS) (C := RX1) (T := TX1) (N := 4) hx hb hts inX1 hown hK hP 0 rfl rfl 0 (by decide) (hts _ t_fX1_9) (fun _ h9 => h9) rfl dX1_agreeingParities_36 ?_
          refine va_get (D := (dC, dI)) (ci := 0) (v := .int (nI (P - 1))) (C := RX0) (T := TX0) (N := 4) hx hb hts inX0 hown hK hP 3 rfl rfl 2 (by decide) (hts _ t_fX1_47) (fun _ h9 => h9) rfl dX1_agreeingParities_39 ?_
          refine gV (wr := []) (pre := [(aT, .inr (1, [.ref aS, .ref aW, .ref aM, .int (bI mk)])), (aW, .inl (cI, P * P, .inl w)), (aM, .inl (cB, P, .inl (fun z9 => bI (ms z9)))), (aS, .inr (0, [.int (nI P), .int (nI (P - 2)), .int (nI (P - 1)), .int (nI (P * (P - 2)))]))]) (tl := []) (G := fun (u : Unit) => [(aT, .inr (1, [.ref aS, .ref aW, .ref aM, .int (bI mk)])), (aW, .inl (cI, P * P, .inl w)), (aM, .inl (cB, P, .inl (fun z9 => bI (ms z9)))), (aS, .inr (0, [.int (nI P), .int (nI (P - 2)), .int (nI (P - 1)), .int (nI (P * (P - 2)))]))]) (b := aT) (As := [.int (nI i), .int (nI (P - 1))]) (rst := []) ⟨hx, hb, hml, hown, hts⟩ (c_agrees l dC dI cI cB cQ cJ aT aS aW aM P w ms mk i (P - 1) hp5 (by omega) (Or.inr rfl)) (cwV 2 hts (gdV t_mX1_50 t_inst_X1_agrees t_sel_X1_agrees t_ini_X1 t_code_X1_agrees) rfl rfl rfl (by decide +kernel) ⟨Nat.le_of_ble_eq_true rfl, Nat.le_of_ble_eq_true rfl⟩) hK hP hD hS hA [0, 1, 2, 3] [] [0, 1, 2, 3] rfl (by decide) (fun _ => rfl) (by decide) (ci := 1) rfl rfl rfl rfl hl.1 rfl (Nat.le_of_ble_eq_true rfl) dX1_agreeingParities_42 ⟨Nat.zero_le _, Nat.zero_le _⟩ (fun r u H locs hu5 hP hD hS => ?_)
          have hr42 := hu5
          have hr42 : r = bI (dr_ag P ms w i (P - 1)) := hr42
          subst hr42
          have hP : va_P (dC, dI) vwCl [(aT, .inr (1, [.ref aS, .ref aW, .ref aM, .int (bI mk)])), (aW, .inl (cI, P * P, .inl w)), (aM, .inl (cB, P, .inl (fun z9 => bI (ms z9)))), (aS, .inr (0, [.int (nI P), .int (nI (P - 2)), .int (nI (P - 1)), .int (nI (P * (P - 2)))]))] H := hP
          have hD : va_D A [(aT, .inr (1, [.ref aS, .ref aW, .ref aM, .int (bI mk)])), (aW, .inl (cI, P * P, .inl w)), (aM, .inl (cB, P, .inl (fun z9 => bI (ms z9)))), (aS, .inr (0, [.int (nI P), .int (nI (P - 2)), .int (nI (P - 1)), .int (nI (P * (P - 2)))]))] := hD
          refine x_ifF (tgt := 51) hx hb dX1_agreeingParities_45 (by decide) (fun h45 => ?_) (fun h45 => ?_)
          · -- 45t
            refine lv_iinc (v := nI (i + 1)) hx hb dX1_agreeingParities_51 hl (k := 1) rfl (x_inc _) (by decide) rfl (fun ls hl => ?_)
            have hl : lv_has ls 3 [(2, .int (nI (i + 1))), (1, .int (nI (dr_agn P ms w i + 1))), (0, .ref aT)] := hl
            refine lv_goto (tgt := 4) hx hb dX1_agreeingParities_54 (by decide) ?_
            have e6 : (dr_agn P ms w (i + 1)) = (dr_agn P ms w i + 1) := by first | rfl | (simp [dr_agn, h12, h27, h45]; done) | (simp [dr_agn, h12, h27, h45]; omega)
            exact ih4 (i + 1) ls H locs (by omega) (by omega) (by rw [e6]; exact lv_sub hl [0, 1, 2] rfl) hP hD hS
          · -- 45f
            refine lv_iinc (v := nI (dr_agn P ms w i + 1 + 1)) hx hb dX1_agreeingParities_48 hl (k := 0) rfl (x_inc _) (by decide) rfl (fun ls hl => ?_)
            have hl : lv_has ls 3 [(1, .int (nI (dr_agn P ms w i + 1 + 1))), (2, .int (nI i)), (0, .ref aT)] := hl
            refine lv_iinc (v := nI (i + 1)) hx hb dX1_agreeingParities_51 hl (k := 1) rfl (x_inc _) (by decide) rfl (fun ls hl => ?_)
            have hl : lv_has ls 3 [(2, .int (nI (i + 1))), (1, .int (nI (dr_agn P ms w i + 1 + 1))), (0, .ref aT)] := hl
            refine lv_goto (tgt := 4) hx hb dX1_agreeingParities_54 (by decide) ?_
            have e7 : (dr_agn P ms w (i + 1)) = (dr_agn P ms w i + 1 + 1) := by first | rfl | (simp [dr_agn, h12, h27, h45]; done) | (simp [dr_agn, h12, h27, h45]; omega)
            exact ih4 (i + 1) ls H locs (by omega) (by omega) (by rw [e7]; exact lv_sub hl [0, 1, 2] rfl) hP hD hS
  have e8 : (dr_agn P ms w 0) = 0 := by first | rfl | (simp [dr_agn]; done) | (simp [dr_agn]; omega)
  exact lp4 (P - 0 + 1) 0 ls H locs (by omega) (by omega) (by rw [e8]; exact lv_sub hl [0, 1, 2] rfl) hP hD hS
end
section
abbrev rm_c_settle : Room := { frames := 2, cells := 0, slots := 0, locals := 45 }
set_option maxHeartbeats 4000000 in
set_option maxRecDepth 100000 in
theorem c_settle (l : Launch) (dC : Nat → ClassId) (dI : Nat → Nat → Nat) (cI cB cQ cJ : ClassId) (aE : Nat) (aS : Nat) (aEW : Nat) (aEK : Nat) (P : Nat) (tw : Nat → Int32) (kn : Nat → Bool) (un : Int32) (o : Nat) (row : Nat) (hp5 : dr_P P) (ho : o < P) (hrw : dr_row P row) : MV l yX2_settle (Cond.code yX2_settle cX2_settle 9 none :: TB) rm_c_settle (dC, dI) vwCl (TY cI cB cQ cJ) [.ref aE, .int (nI o), .int (nI row)] [(aE, .inr (2, [.ref aS, .ref aEW, .ref aEK, .int un])), (aEW, .inl (cI, P * P, .inl tw)), (aEK, .inl (cB, P * P, .inl (fun z9 => bI (kn z9)))), (aS, .inr (0, [.int (nI P), .int (nI (P - 2)), .int (nI (P - 1)), .int (nI (P * (P - 2)))]))] (fun (u : Unit) => True) (fun (u : Unit) => [(aE, .inr (2, [.ref aS, .ref aEW, .ref aEK, .int ((dr_st P o row (kn, tw, un)).2.2)])), (aEW, .inl (cI, P * P, .inl ((dr_st P o row (kn, tw, un)).2.1))), (aEK, .inl (cB, P * P, .inl (fun z9 => bI (((dr_st P o row (kn, tw, un)).1) z9)))), (aS, .inr (0, [.int (nI P), .int (nI (P - 2)), .int (nI (P - 1)), .int (nI (P * (P - 2)))]))]) := by
  refine MV.ofW (cc := cX2_settle) (maxL := 9) (by decide +kernel) rfl (Nat.le_of_ble_eq_true rfl) ?_
  intro p e s m args below meth c A ls Q H locs hQ hx hb hml hr hlk hts hown hK hP hD hS hA hl
  have hts : ∀ w ∈ TB, w.before args s = true := fun w h => hts w (List.mem_cons_of_mem _ h)
  have hown : s.vm.findClass RX2 = some m.cls := hown
  have hl : lv_has ls 9 [(0, .ref aE), (1, .int (nI o)), (2, .int (nI row))] := hl
  have hP : va_P (dC, dI) vwCl [(aE, .inr (2, [.ref aS, .ref aEW, .ref aEK, .int un])), (aEW, .inl (cI, P * P, .inl tw)), (aEK, .inl (cB, P * P, .inl (fun z9 => bI (kn z9)))), (aS, .inr (0, [.int (nI P), .int (nI (P - 2)), .int (nI (P - 1)), .int (nI (P * (P - 2)))]))] H := hP
  have hD : va_D A [(aE, .inr (2, [.ref aS, .ref aEW, .ref aEK, .int un])), (aEW, .inl (cI, P * P, .inl tw)), (aEK, .inl (cB, P * P, .inl (fun z9 => bI (kn z9)))), (aS, .inr (0, [.int (nI P), .int (nI (P - 2)), .int (nI (P - 1)), .int (nI (P * (P - 2)))]))] := hD
  have hp := hp5.le
  have hpp := dr_PP hp5
  have hpq := dr_PP2 hp5
  have hrl : row < P := by rcases hrw with rfl | rfl <;> omega
  have hsl := dr_sh_le P kn o row (P - 2)
  have hso := dr_so_lt hp5 (kn := kn) ho hrw (P - 2) (Nat.le_refl _)
  refine lv_aload_n hx hb dX2_settle_0 rfl (lv_at hl 0 rfl) ?_
  refine va_get (D := (dC, dI)) (ci := 2) (v := .ref aS) (C := RX2) (T := TX2) (N := 4) hx hb hts inX2 hown hK hP 0 rfl rfl 0 (by decide) (hts _ t_fX2_7) (fun _ h9 => h9) rfl dX2_settle_1 ?_
  refine lv_iload_n hx hb dX2_settle_4 rfl (lv_at hl 1 rfl) ?_
  refine lv_iload_n hx hb dX2_settle_5 rfl (lv_at hl 2 rfl) ?_
  refine gV (wr := [(aE, .inr (2, [.ref aS, .ref aEW, .ref aEK, .int un])), (aEW, .inl (cI, P * P, .inl tw)), (aEK, .inl (cB, P * P, .inl (fun z9 => bI (kn z9))))]) (pre := [(aE, .inr (2, [.ref aS, .ref aEW, .ref aEK, .int un])), (aEW, .inl (cI, P * P, .inl tw)), (aEK, .inl (cB, P * P, .inl (fun z9 => bI (kn z9)))), (aS, .inr (0, [.int (nI P), .int (nI (P - 2)), .int (nI (P - 1)), .int (nI (P * (P - 2)))]))]) (tl := []) (G := fun (u : Unit) => [(aE, .inr (2, [.ref aS, .ref aEW, .ref aEK, .int un])), (aEW, .inl (cI, P * P, .inl tw)), (aEK, .inl (cB, P * P, .inl (fun z9 => bI (kn z9)))), (aS, .inr (0, [.int (nI P), .int (nI (P - 2)), .int (nI (P - 1)), .int (nI (P * (P - 2)))]))]) (b := aS) (As := [.int (nI o), .int (nI row)]) (rst := []) ⟨hx, hb, hml, hown, hts⟩ (c_place l dC dI cI cB cQ cJ aS P o row ) (cwV 2 hts (gdV t_mX2_44 t_inst_X0_place t_sel_X0_place t_ini_X0 t_code_X0_place) rfl rfl rfl (by decide +kernel) ⟨Nat.le_of_ble_eq_true rfl, Nat.le_of_ble_eq_true rfl⟩) hK hP hD hS hA [3] [0, 1, 2] [1, 2, 3, 0] rfl (by decide) (fun _ => rfl) (by decide) (ci := 0) rfl rfl rfl rfl hl.1 rfl (Nat.le_of_ble_eq_true rfl) dX2_settle_6 ⟨Nat.zero_le _, Nat.zero_le _⟩ (fun r u H locs hu1 hP hD hS => ?_)
  have hr6 := hu1
  have hr6 : r = nI (o * P + row) := hr6
  subst hr6
  have hP : va_P (dC, dI) vwCl [(aE, .inr (2, [.ref aS, .ref aEW, .ref aEK, .int un])), (aEW, .inl (cI, P * P, .inl tw)), (aEK, .inl (cB, P * P, .inl (fun z9 => bI (kn z9)))), (aS, .inr (0, [.int (nI P), .int (nI (P - 2)), .int (nI (P - 1)), .int (nI (P * (P - 2)))]))] H := hP
  have hD : va_D A [(aE, .inr (2, [.ref aS, .ref aEW, .ref aEK, .int un])), (aEW, .inl (cI, P * P, .inl tw)), (aEK, .inl (cB, P * P, .inl (fun z9 => bI (kn z9)))), (aS, .inr (0, [.int (nI P), .int (nI (P - 2)), .int (nI (P - 1)), .int (nI (P * (P - 2)))]))] := hD
  refine lv_istore_n hx hb dX2_settle_9 rfl hl (by decide) rfl (fun ls hl => ?_)
  have hl : lv_has ls 9 [(3, .int (nI (o * P + row))), (0, .ref aE), (1, .int (nI o)), (2, .int (nI row))] := hl
  refine lv_aload_n hx hb dX2_settle_10 rfl (lv_at hl 1 rfl) ?_
  refine va_get (D := (dC, dI)) (ci := 2) (v := .ref aEW) (C := RX2) (T := TX2) (N := 4) hx hb hts inX2 hown hK hP 0 rfl rfl 1 (by decide) (hts _ t_fX2_19) (fun _ h9 => h9) rfl dX2_settle_11 ?_
  refine lv_iload_n hx hb dX2_settle_14 rfl (lv_at hl 0 rfl) ?_
  refine x_iald (f := tw) hx hb hK hP 1 0 rfl rfl dX2_settle_15 (dr_pl ho hrl) (by omega) ?_
  refine lv_istore hx hb dX2_settle_16 hl (by decide) rfl (fun ls hl => ?_)
  have hl : lv_has ls 9 [(4, .int (tw (o * P + row))), (3, .int (nI (o * P + row))), (0, .ref aE), (1, .int (nI o)), (2, .int (nI row))] := hl
  refine lv_aload_n hx hb dX2_settle_18 rfl (lv_at hl 2 rfl) ?_
  refine va_get (D := (dC, dI)) (ci := 2) (v := .ref aEK) (C := RX2) (T := TX2) (N := 4) hx hb hts inX2 hown hK hP 0 rfl rfl 2 (by decide) (hts _ t_fX2_23) (fun _ h9 => h9) rfl dX2_settle_19 ?_
  refine lv_iload_n hx hb dX2_settle_22 rfl (lv_at hl 1 rfl) ?_
  refine x_zald (g := kn) hx hb hK hP 2 1 rfl rfl dX2_settle_23 (dr_pl ho hrl) (by omega) ?_
  refine x_ifF (tgt := 31) hx hb dX2_settle_24 (by decide) (fun h24 => ?_) (fun h24 => ?_)
  · -- 24t
    refine lv_iconst (v := nI 1) hx hb dX2_settle_31 (by decide) ?_
    refine x_top (show nI 1 = nI (dr_sh P kn o row 0) from (by simp [dr_sh, h24])) ?_
    have lp32 : ∀  (ls : Array Slot) (H : Heap) (locs : List Loc), lv_has ls 9 [(4, .int (tw (o * P + row))), (3, .int (nI (o * P + row))), (2, .int (nI row)), (1, .int (nI o)), (0, .ref aE)] → va_P (dC, dI) vwCl [(aE, .inr (2, [.ref aS, .ref aEW, .ref aEK, .int un])), (aEW, .inl (cI, P * P, .inl tw)), (aEK, .inl (cB, P * P, .inl (fun z9 => bI (kn z9)))), (aS, .inr (0, [.int (nI P), .int (nI (P - 2)), .int (nI (P - 1)), .int (nI (P * (P - 2)))]))] H → va_D A [(aE, .inr (2, [.ref aS, .ref aEW, .ref aEK, .int un])), (aEW, .inl (cI, P * P, .inl tw)), (aEK, .inl (cB, P * P, .inl (fun z9 => bI (kn z9)))), (aS, .inr (0, [.int (nI P), .int (nI (P - 2)), .int (nI (P - 1)), .int (nI (P * (P - 2)))]))] → va_S A s.heap H locs → W p l e rm_c_settle s m args below meth c H locs 0 0 Q (F0 m 32 ls [.int (nI (dr_sh P kn o row 0))]) := by
      intro  ls H locs  hl hP hD hS
      refine lv_istore hx hb dX2_settle_32 hl (by decide) rfl (fun ls hl => ?_)
      have hl : lv_has ls 9 [(5, .int (nI (dr_sh P kn o row 0))), (4, .int (tw (o * P + row))), (3, .int (nI (o * P + row))), (2, .int (nI row)), (1, .int (nI o)), (0, .ref aE)] := hl
      refine lv_iload_n hx hb dX2_settle_34 rfl (lv_at hl 2 rfl) ?_
      refine lv_istore hx hb dX2_settle_35 hl (by decide) rfl (fun ls hl => ?_)
      have hl : lv_has ls 9 [(6, .int (nI (o * P + row))), (5, .int (nI (dr_sh P kn o row 0))), (4, .int (tw (o * P + row))), (3, .int (nI (o * P + row))), (2, .int (nI row)), (1, .int (nI o)), (0, .ref aE)] := hl
      refine lv_iconst (v := nI 0) hx hb dX2_settle_37 (by decide) ?_
      refine lv_istore hx hb dX2_settle_38 hl (by decide) rfl (fun ls hl => ?_)
      have hl : lv_has ls 9 [(7, .int (nI 0)), (6, .int (nI (o * P + row))), (5, .int (nI (dr_sh P kn o row 0))), (4, .int (tw (o * P + row))), (3, .int (nI (o * P + row))), (2, .int (nI row)), (1, .int (nI o)), (0, .ref aE)] := hl
      have lp40 : ∀ (n9 : Nat) (i : Nat) (ls : Array Slot) (H : Heap) (locs : List Loc), P - 2 - i < n9 → (i ≤ P - 2) → lv_has ls 9 [(7, .int (nI i)), (6, .int (nI (dr_so P kn o row i))), (5, .int (nI (dr_sh P kn o row i))), (4, .int (dr_ss P tw o row i)), (3, .int (nI (o * P + row))), (2, .int (nI row)), (1, .int (nI o)), (0, .ref aE)] → va_P (dC, dI) vwCl [(aE, .inr (2, [.ref aS, .ref aEW, .ref aEK, .int un])), (aEW, .inl (cI, P * P, .inl tw)), (aEK, .inl (cB, P * P, .inl (fun z9 => bI (kn z9)))), (aS, .inr (0, [.int (nI P), .int (nI (P - 2)), .int (nI (P - 1)), .int (nI (P * (P - 2)))]))] H → va_D A [(aE, .inr (2, [.ref aS, .ref aEW, .ref aEK, .int un])), (aEW, .inl (cI, P * P, .inl tw)), (aEK, .inl (cB, P * P, .inl (fun z9 => bI (kn z9)))), (aS, .inr (0, [.int (nI P), .int (nI (P - 2)), .int (nI (P - 1)), .int (nI (P * (P - 2)))]))] → va_S A s.heap H locs → W p l e rm_c_settle s m args below meth c H locs 0 0 Q (F0 m 40 ls []) := by
        intro n9
        induction n9 with
        | zero => intro i ls H locs hn9; omega
        | succ n9 ih40 =>
          intro i ls H locs hn9 hi hl hP hD hS
          refine lv_iload hx hb dX2_settle_40 (lv_at hl 0 rfl) ?_
          refine lv_aload_n hx hb dX2_settle_42 rfl (lv_at hl 7 rfl) ?_
          refine va_get (D := (dC, dI)) (ci := 2) (v := .ref aS) (C := RX2) (T := TX2) (N := 4) hx hb hts inX2 hown hK hP 0 rfl rfl 0 (by decide) (hts _ t_fX2_7) (fun _ h9 => h9) rfl dX2_settle_43 ?_
          refine va_get (D := (dC, dI)) (ci := 0) (v := .int (nI (P - 2))) (C := RX0) (T := TX0) (N := 4) hx hb hts inX0 hown hK hP 3 rfl rfl 1 (by decide) (hts _ t_fX2_34) (fun _ h9 => h9) rfl dX2_settle_46 ?_
          refine x_cge (tgt := 109) hx hb dX2_settle_49 (by decide) (by omega) (by omega) (fun h49 => ?_) (fun h49 => ?_)
          · -- 49t
            have hie49 : i = P - 2 := by omega
            try rw [hie49] at hl
            try rw [hie49] at hP
            try rw [hie49] at hD
            have hl : lv_has ls 9 [(7, .int (nI (P - 2))), (6, .int (nI (dr_so P kn o row (P - 2)))), (5, .int (nI (dr_sh P kn o row (P - 2)))), (4, .int (dr_ss P tw o row (P - 2))), (3, .int (nI (o * P + row))), (2, .int (nI row)), (1, .int (nI o)), (0, .ref aE)] := hl
            have hP : va_P (dC, dI) vwCl [(aE, .inr (2, [.ref aS, .ref aEW, .ref aEK, .int un])), (aEW, .inl (cI, P * P, .inl tw)), (aEK, .inl (cB, P * P, .inl (fun z9 => bI (kn z9)))), (aS, .inr (0, [.int (nI P), .int (nI (P - 2)), .int (nI (P - 1)), .int (nI (P * (P - 2)))]))] H := hP
            have hD : va_D A [(aE, .inr (2, [.ref aS, .ref aEW, .ref aEK, .int un])), (aEW, .inl (cI, P * P, .inl tw)), (aEK, .inl (cB, P * P, .inl (fun z9 => bI (kn z9)))), (aS, .inr (0, [.int (nI P), .int (nI (P - 2)), .int (nI (P - 1)), .int (nI (P * (P - 2)))]))] := hD
            refine lv_iload hx hb dX2_settle_109 (lv_at hl 2 rfl) ?_
            refine lv_iconst (v := nI 1) hx hb dX2_settle_111 (by decide) ?_
            refine x_cne (tgt := 142) hx hb dX2_settle_112 (by decide) (by omega) (by omega) (fun h112 => ?_) (fun h112 => ?_)
            · -- 112t
              have e2 : ((dr_st P o row (kn, tw, un)).2.2) = un := by first | rfl | (simp [dr_st, h49, h112]; done)
              have e3 : ((dr_st P o row (kn, tw, un)).2.1) = tw := by first | rfl | (simp [dr_st, h49, h112]; done)
              have e4 : ((dr_st P o row (kn, tw, un)).1) = kn := by first | rfl | (simp [dr_st, h49, h112]; done)
              exact x_vret (D := (dC, dI)) (cl := vwCl) (A := A) () hQ hx hb hr hlk (by rw [e2, e3, e4]; exact hP) (by rw [e2, e3, e4]; exact hD) hS dX2_settle_142 trivial
            · -- 112f
              refine lv_aload_n hx hb dX2_settle_115 rfl (lv_at hl 7 rfl) ?_
              refine va_get (D := (dC, dI)) (ci := 2) (v := .ref aEW) (C := RX2) (T := TX2) (N := 4) hx hb hts inX2 hown hK hP 0 rfl rfl 1 (by decide) (hts _ t_fX2_19) (fun _ h9 => h9) rfl dX2_settle_116 ?_
              refine lv_iload hx hb dX2_settle_119 (lv_at hl 1 rfl) ?_
              refine lv_iload hx hb dX2_settle_121 (lv_at hl 3 rfl) ?_
              refine x_iast (f := tw) hx hb hK hP hD hS 1 0 rfl rfl dX2_settle_123 hso (by omega) (fun H locs hP hD hS => ?_)
              have hP : va_P (dC, dI) vwCl [(aE, .inr (2, [.ref aS, .ref aEW, .ref aEK, .int un])), (aEW, .inl (cI, P * P, .inl (va_up tw (dr_so P kn o row (P - 2)) (dr_ss P tw o row (P - 2))))), (aEK, .inl (cB, P * P, .inl (fun z9 => bI (kn z9)))), (aS, .inr (0, [.int (nI P), .int (nI (P - 2)), .int (nI (P - 1)), .int (nI (P * (P - 2)))]))] H := hP
              have hD : va_D A [(aE, .inr (2, [.ref aS, .ref aEW, .ref aEK, .int un])), (aEW, .inl (cI, P * P, .inl (va_up tw (dr_so P kn o row (P - 2)) (dr_ss P tw o row (P - 2))))), (aEK, .inl (cB, P * P, .inl (fun z9 => bI (kn z9)))), (aS, .inr (0, [.int (nI P), .int (nI (P - 2)), .int (nI (P - 1)), .int (nI (P * (P - 2)))]))] := hD
              refine lv_aload_n hx hb dX2_settle_124 rfl (lv_at hl 7 rfl) ?_
              refine va_get (D := (dC, dI)) (ci := 2) (v := .ref aEK) (C := RX2) (T := TX2) (N := 4) hx hb hts inX2 hown hK hP 0 rfl rfl 2 (by decide) (hts _ t_fX2_23) (fun _ h9 => h9) rfl dX2_settle_125 ?_
              refine lv_iload hx hb dX2_settle_128 (lv_at hl 1 rfl) ?_
              refine lv_iconst (v := bI true) hx hb dX2_settle_130 (by decide) ?_
              refine x_zast (g := kn) hx hb hK hP hD hS 2 1 rfl rfl dX2_settle_131 hso (by omega) (fun H locs hP hD hS => ?_)
              have hP : va_P (dC, dI) vwCl [(aE, .inr (2, [.ref aS, .ref aEW, .ref aEK, .int un])), (aEW, .inl (cI, P * P, .inl (va_up tw (dr_so P kn o row (P - 2)) (dr_ss P tw o row (P - 2))))), (aEK, .inl (cB, P * P, .inl (fun z9 => bI ((va_up kn (dr_so P kn o row (P - 2)) true) z9)))), (aS, .inr (0, [.int (nI P), .int (nI (P - 2)), .int (nI (P - 1)), .int (nI (P * (P - 2)))]))] H := hP
              have hD : va_D A [(aE, .inr (2, [.ref aS, .ref aEW, .ref aEK, .int un])), (aEW, .inl (cI, P * P, .inl (va_up tw (dr_so P kn o row (P - 2)) (dr_ss P tw o row (P - 2))))), (aEK, .inl (cB, P * P, .inl (fun z9 => bI ((va_up kn (dr_so P kn o row (P - 2)) true) z9)))), (aS, .inr (0, [.int (nI P), .int (nI (P - 2)), .int (nI (P - 1)), .int (nI (P * (P - 2)))]))] := hD
              refine lv_aload_n hx hb dX2_settle_132 rfl (lv_at hl 7 rfl) ?_
              refine lv_dup hx hb dX2_settle_133 rfl ?_
              refine va_get (D := (dC, dI)) (ci := 2) (v := .int un) (C := RX2) (T := TX2) (N := 4) hx hb hts inX2 hown hK hP 0 rfl rfl 3 (by decide) (hts _ t_fX2_31) (fun _ h9 => h9) rfl dX2_settle_134 ?_
              refine lv_iconst (v := 1) hx hb dX2_settle_137 (by decide) ?_
              refine lv_isub hx hb dX2_settle_138 ?_
              refine va_put (D := (dC, dI)) (ci := 2) (v := .int (un - 1)) (ty := .int) (C := RX2) (T := TX2) (N := 4) hx hb hts inX2 tyX2 tyX2_ok nmX2 hown hK hP hD hS 0 rfl rfl 3 (by decide) (hts _ t_fX2_31) (fun _ h9 => h9) rfl (by decide +kernel) rfl rfl (Nat.le_of_ble_eq_true rfl) dX2_settle_139 (fun H locs hP hD hS => ?_)
              have hP : va_P (dC, dI) vwCl [(aE, .inr (2, [.ref aS, .ref aEW, .ref aEK, .int (un - 1)])), (aEW, .inl (cI, P * P, .inl (va_up tw (dr_so P kn o row (P - 2)) (dr_ss P tw o row (P - 2))))), (aEK, .inl (cB, P * P, .inl (fun z9 => bI ((va_up kn (dr_so P kn o row (P - 2)) true) z9)))), (aS, .inr (0, [.int (nI P), .int (nI (P - 2)), .int (nI (P - 1)), .int (nI (P * (P - 2)))]))] H := hP
              have hD : va_D A [(aE, .inr (2, [.ref aS, .ref aEW, .ref aEK, .int (un - 1)])), (aEW, .inl (cI, P * P, .inl (va_up tw (dr_so P kn o row (P - 2)) (dr_ss P tw o row (P - 2))))), (aEK, .inl (cB, P * P, .inl (fun z9 => bI ((va_up kn (dr_so P kn o row (P - 2)) true) z9)))), (aS, .inr (0, [.int (nI P), .int (nI (P - 2)), .int (nI (P - 1)), .int (nI (P * (P - 2)))]))] := hD
              have e5 : ((dr_st P o row (kn, tw, un)).2.2) = (un - 1) := by first | rfl | (simp [dr_st, h49, h112]; done)
              have e6 : ((dr_st P o row (kn, tw, un)).2.1) = (va_up tw (dr_so P kn o row (P - 2)) (dr_ss P tw o row (P - 2))) := by first | rfl | (simp [dr_st, h49, h112]; done)
              have e7 : ((dr_st P o row (kn, tw, un)).1) = (va_up kn (dr_so P kn o row (P - 2)) true) := by first | rfl | (simp [dr_st, h49, h112]; done)
              exact x_vret (D := (dC, dI)) (cl := vwCl) (A := A) () hQ hx hb hr hlk (by rw [e5, e6, e7]; exact hP) (by rw [e5, e6, e7]; exact hD) hS dX2_settle_142 trivial
          · -- 49f
            refine lv_aload_n hx hb dX2_settle_52 rfl (lv_at hl 7 rfl) ?_
            refine va_get (D := (dC, dI)) (ci := 2) (v := .ref aS) (C := RX2) (T := TX2) (N := 4) hx hb hts inX2 hown hK hP 0 rfl rfl 0 (by decide) (hts _ t_fX2_7) (fun _ h9 => h9) rfl dX2_settle_53 ?_
            refine lv_aload_n hx hb dX2_settle_56 rfl (lv_at hl 7 rfl) ?_
            refine va_get (D := (dC, dI)) (ci := 2) (v := .ref aS) (C := RX2) (T := TX2) (N := 4) hx hb hts inX2 hown hK hP 0 rfl rfl 0 (by decide) (hts _ t_fX2_7) (fun _ h9 => h9) rfl dX2_settle_57 ?_
            refine lv_iload_n hx hb dX2_settle_60 rfl (lv_at hl 6 rfl) ?_
            refine lv_iload hx hb dX2_settle_61 (lv_at hl 0 rfl) ?_
            refine lv_iload_n hx hb dX2_settle_63 rfl (lv_at hl 5 rfl) ?_
            refine gV (wr := [(aE, .inr (2, [.ref aS, .ref aEW, .ref aEK, .int un])), (aEW, .inl (cI, P * P, .inl tw)), (aEK, .inl (cB, P * P, .inl (fun z9 => bI (kn z9))))]) (pre := [(aE, .inr (2, [.ref aS, .ref aEW, .ref aEK, .int un])), (aEW, .inl (cI, P * P, .inl tw)), (aEK, .inl (cB, P * P, .inl (fun z9 => bI (kn z9)))), (aS, .inr (0, [.int (nI P), .int (nI (P - 2)), .int (nI (P - 1)), .int (nI (P * (P - 2)))]))]) (tl := []) (G := fun (u : Unit) => [(aE, .inr (2, [.ref aS, .ref aEW, .ref aEK, .int un])), (aEW, .inl (cI, P * P, .inl tw)), (aEK, .inl (cB, P * P, .inl (fun z9 => bI (kn z9)))), (aS, .inr (0, [.int (nI P), .int (nI (P - 2)), .int (nI (P - 1)), .int (nI (P * (P - 2)))]))]) (b := aS) (As := [.int (nI o), .int (nI i), .int (nI row)]) (rst := [.ref aS]) ⟨hx, hb, hml, hown, hts⟩ (c_dd l dC dI cI cB cQ cJ aS P o i row hp5 ho (by omega) hrw) (cwV 3 hts (gdV t_mX2_54 t_inst_X0_dataDrive t_sel_X0_dataDrive t_ini_X0 t_code_X0_dataDrive) rfl rfl rfl (by decide +kernel) ⟨Nat.le_of_ble_eq_true rfl, Nat.le_of_ble_eq_true rfl⟩) hK hP hD hS hA [3] [0, 1, 2] [1, 2, 3, 0] rfl (by decide) (fun _ => rfl) (by decide) (ci := 0) rfl rfl rfl rfl hl.1 rfl (Nat.le_of_ble_eq_true rfl) dX2_settle_64 ⟨Nat.zero_le _, Nat.zero_le _⟩ (fun r u H locs hu8 hP hD hS => ?_)
            have hr64 := hu8
            have hr64 : r = nI (dr_dd P o i row) := hr64
            subst hr64
            have hP : va_P (dC, dI) vwCl [(aE, .inr (2, [.ref aS, .ref aEW, .ref aEK, .int un])), (aEW, .inl (cI, P * P, .inl tw)), (aEK, .inl (cB, P * P, .inl (fun z9 => bI (kn z9)))), (aS, .inr (0, [.int (nI P), .int (nI (P - 2)), .int (nI (P - 1)), .int (nI (P * (P - 2)))]))] H := hP
            have hD : va_D A [(aE, .inr (2, [.ref aS, .ref aEW, .ref aEK, .int un])), (aEW, .inl (cI, P * P, .inl tw)), (aEK, .inl (cB, P * P, .inl (fun z9 => bI (kn z9)))), (aS, .inr (0, [.int (nI P), .int (nI (P - 2)), .int (nI (P - 1)), .int (nI (P * (P - 2)))]))] := hD
            refine lv_iload hx hb dX2_settle_67 (lv_at hl 0 rfl) ?_
            refine gV (wr := [(aE, .inr (2, [.ref aS, .ref aEW, .ref aEK, .int un])), (aEW, .inl (cI, P * P, .inl tw)), (aEK, .inl (cB, P * P, .inl (fun z9 => bI (kn z9))))]) (pre := [(aE, .inr (2, [.ref aS, .ref aEW, .ref aEK, .int un])), (aEW, .inl (cI, P * P, .inl tw)), (aEK, .inl (cB, P * P, .inl (fun z9 => bI (kn z9)))), (aS, .inr (0, [.int (nI P), .int (nI (P - 2)), .int (nI (P - 1)), .int (nI (P * (P - 2)))]))]) (tl := []) (G := fun (u : Unit) => [(aE, .inr (2, [.ref aS, .ref aEW, .ref aEK, .int un])), (aEW, .inl (cI, P * P, .inl tw)), (aEK, .inl (cB, P * P, .inl (fun z9 => bI (kn z9)))), (aS, .inr (0, [.int (nI P), .int (nI (P - 2)), .int (nI (P - 1)), .int (nI (P * (P - 2)))]))]) (b := aS) (As := [.int (nI (dr_dd P o i row)), .int (nI i)]) (rst := []) ⟨hx, hb, hml, hown, hts⟩ (c_place l dC dI cI cB cQ cJ aS P (dr_dd P o i row) i ) (cwV 2 hts (gdV t_mX2_44 t_inst_X0_place t_sel_X0_place t_ini_X0 t_code_X0_place) rfl rfl rfl (by decide +kernel) ⟨Nat.le_of_ble_eq_true rfl, Nat.le_of_ble_eq_true rfl⟩) hK hP hD hS hA [3] [0, 1, 2] [1, 2, 3, 0] rfl (by decide) (fun _ => rfl) (by decide) (ci := 0) rfl rfl rfl rfl hl.1 rfl (Nat.le_of_ble_eq_true rfl) dX2_settle_69 ⟨Nat.zero_le _, Nat.zero_le _⟩ (fun r u H locs hu9 hP hD hS => ?_)
            have hr69 := hu9
            have hr69 : r = nI ((dr_dd P o i row) * P + i) := hr69
            subst hr69
            have hP : va_P (dC, dI) vwCl [(aE, .inr (2, [.ref aS, .ref aEW, .ref aEK, .int un])), (aEW, .inl (cI, P * P, .inl tw)), (aEK, .inl (cB, P * P, .inl (fun z9 => bI (kn z9)))), (aS, .inr (0, [.int (nI P), .int (nI (P - 2)), .int (nI (P - 1)), .int (nI (P * (P - 2)))]))] H := hP
            have hD : va_D A [(aE, .inr (2, [.ref aS, .ref aEW, .ref aEK, .int un])), (aEW, .inl (cI, P * P, .inl tw)), (aEK, .inl (cB, P * P, .inl (fun z9 => bI (kn z9)))), (aS, .inr (0, [.int (nI P), .int (nI (P - 2)), .int (nI (P - 1)), .int (nI (P * (P - 2)))]))] := hD
            refine lv_istore hx hb dX2_settle_72 hl (by decide) rfl (fun ls hl => ?_)
            have hl : lv_has ls 9 [(8, .int (nI ((dr_dd P o i row) * P + i))), (7, .int (nI i)), (6, .int (nI (dr_so P kn o row i))), (5, .int (nI (dr_sh P kn o row i))), (4, .int (dr_ss P tw o row i)), (3, .int (nI (o * P + row))), (2, .int (nI row)), (1, .int (nI o)), (0, .ref aE)] := hl
            refine lv_iload hx hb dX2_settle_74 (lv_at hl 4 rfl) ?_
            refine lv_aload_n hx hb dX2_settle_76 rfl (lv_at hl 8 rfl) ?_
            refine va_get (D := (dC, dI)) (ci := 2) (v := .ref aEW) (C := RX2) (T := TX2) (N := 4) hx hb hts inX2 hown hK hP 0 rfl rfl 1 (by decide) (hts _ t_fX2_19) (fun _ h9 => h9) rfl dX2_settle_77 ?_
            refine lv_iload hx hb dX2_settle_80 (lv_at hl 0 rfl) ?_
            refine x_iald (f := tw) hx hb hK hP 1 0 rfl rfl dX2_settle_82 (dr_pl (dr_dd_lt hp5) (by omega)) (by omega) ?_
            refine lv_ixor hx hb dX2_settle_83 ?_
            refine lv_istore hx hb dX2_settle_84 hl (by decide) rfl (fun ls hl => ?_)
            have hl : lv_has ls 9 [(4, .int ((dr_ss P tw o row i) ^^^ (tw ((dr_dd P o i row) * P + i)))), (8, .int (nI ((dr_dd P o i row) * P + i))), (7, .int (nI i)), (6, .int (nI (dr_so P kn o row i))), (5, .int (nI (dr_sh P kn o row i))), (3, .int (nI (o * P + row))), (2, .int (nI row)), (1, .int (nI o)), (0, .ref aE)] := hl
            refine lv_aload_n hx hb dX2_settle_86 rfl (lv_at hl 8 rfl) ?_
            refine va_get (D := (dC, dI)) (ci := 2) (v := .ref aEK) (C := RX2) (T := TX2) (N := 4) hx hb hts inX2 hown hK hP 0 rfl rfl 2 (by decide) (hts _ t_fX2_23) (fun _ h9 => h9) rfl dX2_settle_87 ?_
            refine lv_iload hx hb dX2_settle_90 (lv_at hl 1 rfl) ?_
            refine x_zald (g := kn) hx hb hK hP 2 1 rfl rfl dX2_settle_92 (dr_pl (dr_dd_lt hp5) (by omega)) (by omega) ?_
            refine x_ifT (tgt := 103) hx hb dX2_settle_93 (by decide) (fun h93 => ?_) (fun h93 => ?_)
            · -- 93t
              refine lv_iinc (v := nI (i + 1)) hx hb dX2_settle_103 hl (k := 2) rfl (x_inc _) (by decide) rfl (fun ls hl => ?_)
              have hl : lv_has ls 9 [(7, .int (nI (i + 1))), (4, .int ((dr_ss P tw o row i) ^^^ (tw ((dr_dd P o i row) * P + i)))), (8, .int (nI ((dr_dd P o i row) * P + i))), (6, .int (nI (dr_so P kn o row i))), (5, .int (nI (dr_sh P kn o row i))), (3, .int (nI (o * P + row))), (2, .int (nI row)), (1, .int (nI o)), (0, .ref aE)] := hl
              refine lv_goto (tgt := 40) hx hb dX2_settle_106 (by decide) ?_
              have e10 : (dr_so P kn o row (i + 1)) = (dr_so P kn o row i) := by first | rfl | (simp [dr_sh, dr_so, h49, h93]; done) | (simp [dr_sh, dr_so, h49, h93]; omega)
              have e11 : (dr_sh P kn o row (i + 1)) = (dr_sh P kn o row i) := by first | rfl | (simp [dr_sh, dr_so, h49, h93]; done) | (simp [dr_sh, dr_so, h49, h93]; omega)
              have e12 : (dr_ss P tw o row (i + 1)) = ((dr_ss P tw o row i) ^^^ (tw ((dr_dd P o i row) * P + i))) := by first | rfl | (simp [dr_sh, dr_so, h49, h93]; done) | (simp [dr_sh, dr_so, h49, h93]; omega)
              exact ih40 (i + 1) ls H locs (by omega) (by omega) (by rw [e10, e11, e12]; exact lv_sub hl [0, 3, 4, 1, 5, 6, 7, 8] rfl) hP hD hS
            · -- 93f
              refine lv_iinc (v := nI (dr_sh P kn o row i + 1)) hx hb dX2_settle_96 hl (k := 4) rfl (x_inc _) (by decide) rfl (fun ls hl => ?_)
              have hl : lv_has ls 9 [(5, .int (nI (dr_sh P kn o row i + 1))), (4, .int ((dr_ss P tw o row i) ^^^ (tw ((dr_dd P o i row) * P + i)))), (8, .int (nI ((dr_dd P o i row) * P + i))), (7, .int (nI i)), (6, .int (nI (dr_so P kn o row i))), (3, .int (nI (o * P + row))), (2, .int (nI row)), (1, .int (nI o)), (0, .ref aE)] := hl
              refine lv_iload hx hb dX2_settle_99 (lv_at hl 2 rfl) ?_
              refine lv_istore hx hb dX2_settle_101 hl (by decide) rfl (fun ls hl => ?_)
              have hl : lv_has ls 9 [(6, .int (nI ((dr_dd P o i row) * P + i))), (5, .int (nI (dr_sh P kn o row i + 1))), (4, .int ((dr_ss P tw o row i) ^^^ (tw ((dr_dd P o i row) * P + i)))), (8, .int (nI ((dr_dd P o i row) * P + i))), (7, .int (nI i)), (3, .int (nI (o * P + row))), (2, .int (nI row)), (1, .int (nI o)), (0, .ref aE)] := hl
              refine lv_iinc (v := nI (i + 1)) hx hb dX2_settle_103 hl (k := 4) rfl (x_inc _) (by decide) rfl (fun ls hl => ?_)
              have hl : lv_has ls 9 [(7, .int (nI (i + 1))), (6, .int (nI ((dr_dd P o i row) * P + i))), (5, .int (nI (dr_sh P kn o row i + 1))), (4, .int ((dr_ss P tw o row i) ^^^ (tw ((dr_dd P o i row) * P + i)))), (8, .int (nI ((dr_dd P o i row) * P + i))), (3, .int (nI (o * P + row))), (2, .int (nI row)), (1, .int (nI o)), (0, .ref aE)] := hl
              refine lv_goto (tgt := 40) hx hb dX2_settle_106 (by decide) ?_
              have e13 : (dr_so P kn o row (i + 1)) = ((dr_dd P o i row) * P + i) := by first | rfl | (simp [dr_sh, dr_so, h49, h93]; done) | (simp [dr_sh, dr_so, h49, h93]; omega)
              have e14 : (dr_sh P kn o row (i + 1)) = (dr_sh P kn o row i + 1) := by first | rfl | (simp [dr_sh, dr_so, h49, h93]; done) | (simp [dr_sh, dr_so, h49, h93]; omega)
              have e15 : (dr_ss P tw o row (i + 1)) = ((dr_ss P tw o row i) ^^^ (tw ((dr_dd P o i row) * P + i))) := by first | rfl | (simp [dr_sh, dr_so, h49, h93]; done) | (simp [dr_sh, dr_so, h49, h93]; omega)
              exact ih40 (i + 1) ls H locs (by omega) (by omega) (by rw [e13, e14, e15]; exact lv_sub hl [0, 1, 2, 3, 5, 6, 7, 8] rfl) hP hD hS
      have e16 : (dr_so P kn o row 0) = (o * P + row) := by first | rfl | (simp [dr_sh, dr_so]; done) | (simp [dr_sh, dr_so]; omega)
      have e17 : (dr_ss P tw o row 0) = (tw (o * P + row)) := by first | rfl | (simp [dr_sh, dr_so]; done) | (simp [dr_sh, dr_so]; omega)
      exact lp40 (P - 2 - 0 + 1) 0 ls H locs (by omega) (by omega) (by rw [e16, e17]; exact lv_sub hl [0, 1, 2, 3, 4, 5, 6, 7] rfl) hP hD hS
    exact lp32  ls H locs   (lv_sub hl [0, 1, 4, 3, 2] rfl) hP hD hS
  · -- 24f
    refine lv_iconst (v := nI 0) hx hb dX2_settle_27 (by decide) ?_
    refine x_top (show nI 0 = nI (dr_sh P kn o row 0) from (by simp [dr_sh, h24])) ?_
    refine lv_goto (tgt := 32) hx hb dX2_settle_28 (by decide) ?_
    have lp32 : ∀  (ls : Array Slot) (H : Heap) (locs : List Loc), lv_has ls 9 [(4, .int (tw (o * P + row))), (3, .int (nI (o * P + row))), (2, .int (nI row)), (1, .int (nI o)), (0, .ref aE)] → va_P (dC, dI) vwCl [(aE, .inr (2, [.ref aS, .ref aEW, .ref aEK, .int un])), (aEW, .inl (cI, P * P, .inl tw)), (aEK, .inl (cB, P * P, .inl (fun z9 => bI (kn z9)))), (aS, .inr (0, [.int (nI P), .int (nI (P - 2)), .int (nI (P - 1)), .int (nI (P * (P - 2)))]))] H → va_D A [(aE, .inr (2, [.ref aS, .ref aEW, .ref aEK, .int un])), (aEW, .inl (cI, P * P, .inl tw)), (aEK, .inl (cB, P * P, .inl (fun z9 => bI (kn z9)))), (aS, .inr (0, [.int (nI P), .int (nI (P - 2)), .int (nI (P - 1)), .int (nI (P * (P - 2)))]))] → va_S A s.heap H locs → W p l e rm_c_settle s m args below meth c H locs 0 0 Q (F0 m 32 ls [.int (nI (dr_sh P kn o row 0))]) := by
      intro  ls H locs  hl hP hD hS
      refine lv_istore hx hb dX2_settle_32 hl (by decide) rfl (fun ls hl => ?_)
      have hl : lv_has ls 9 [(5, .int (nI (dr_sh P kn o row 0))), (4, .int (tw (o * P + row))), (3, .int (nI (o * P + row))), (2, .int (nI row)), (1, .int (nI o)), (0, .ref aE)] := hl
      refine lv_iload_n hx hb dX2_settle_34 rfl (lv_at hl 2 rfl) ?_
      refine lv_istore hx hb dX2_settle_35 hl (by decide) rfl (fun ls hl => ?_)
      have hl : lv_has ls 9 [(6, .int (nI (o * P + row))), (5, .int (nI (dr_sh P kn o row 0))), (4, .int (tw (o * P + row))), (3, .int (nI (o * P + row))), (2, .int (nI row)), (1, .int (nI o)), (0, .ref aE)] := hl
      refine lv_iconst (v := nI 0) hx hb dX2_settle_37 (by decide) ?_
      refine lv_istore hx hb dX2_settle_38 hl (by decide) rfl (fun ls hl => ?_)
      have hl : lv_has ls 9 [(7, .int (nI 0)), (6, .int (nI (o * P + row))), (5, .int (nI (dr_sh P kn o row 0))), (4, .int (tw (o * P + row))), (3, .int (nI (o * P + row))), (2, .int (nI row)), (1, .int (nI o)), (0, .ref aE)] := hl
      have lp40 : ∀ (n9 : Nat) (i : Nat) (ls : Array Slot) (H : Heap) (locs : List Loc), P - 2 - i < n9 → (i ≤ P - 2) → lv_has ls 9 [(7, .int (nI i)), (6, .int (nI (dr_so P kn o row i))), (5, .int (nI (dr_sh P kn o row i))), (4, .int (dr_ss P tw o row i)), (3, .int (nI (o * P + row))), (2, .int (nI row)), (1, .int (nI o)), (0, .ref aE)] → va_P (dC, dI) vwCl [(aE, .inr (2, [.ref aS, .ref aEW, .ref aEK, .int un])), (aEW, .inl (cI, P * P, .inl tw)), (aEK, .inl (cB, P * P, .inl (fun z9 => bI (kn z9)))), (aS, .inr (0, [.int (nI P), .int (nI (P - 2)), .int (nI (P - 1)), .int (nI (P * (P - 2)))]))] H → va_D A [(aE, .inr (2, [.ref aS, .ref aEW, .ref aEK, .int un])), (aEW, .inl (cI, P * P, .inl tw)), (aEK, .inl (cB, P * P, .inl (fun z9 => bI (kn z9)))), (aS, .inr (0, [.int (nI P), .int (nI (P - 2)), .int (nI (P - 1)), .int (nI (P * (P - 2)))]))] → va_S A s.heap H locs → W p l e rm_c_settle s m args below meth c H locs 0 0 Q (F0 m 40 ls []) := by
        intro n9
        induction n9 with
        | zero => intro i ls H locs hn9; omega
        | succ n9 ih40 =>
          intro i ls H locs hn9 hi hl hP hD hS
          refine lv_iload hx hb dX2_settle_40 (lv_at hl 0 rfl) ?_
          refine lv_aload_n hx hb dX2_settle_42 rfl (lv_at hl 7 rfl) ?_
          refine va_get (D := (dC, dI)) (ci := 2) (v := .ref aS) (C := RX2) (T := TX2) (N := 4) hx hb hts inX2 hown hK hP 0 rfl rfl 0 (by decide) (hts _ t_fX2_7) (fun _ h9 => h9) rfl dX2_settle_43 ?_
          refine va_get (D := (dC, dI)) (ci := 0) (v := .int (nI (P - 2))) (C := RX0) (T := TX0) (N := 4) hx hb hts inX0 hown hK hP 3 rfl rfl 1 (by decide) (hts _ t_fX2_34) (fun _ h9 => h9) rfl dX2_settle_46 ?_
          refine x_cge (tgt := 109) hx hb dX2_settle_49 (by decide) (by omega) (by omega) (fun h49 => ?_) (fun h49 => ?_)
          · -- 49t
            have hie49 : i = P - 2 := by omega
            try rw [hie49] at hl
            try rw [hie49] at hP
            try rw [hie49] at hD
            have hl : lv_has ls 9 [(7, .int (nI (P - 2))), (6, .int (nI (dr_so P kn o row (P - 2)))), (5, .int (nI (dr_sh P kn o row (P - 2)))), (4, .int (dr_ss P tw o row (P - 2))), (3, .int (nI (o * P + row))), (2, .int (nI row)), (1, .int (nI o)), (0, .ref aE)] := hl
            have hP : va_P (dC, dI) vwCl [(aE, .inr (2, [.ref aS, .ref aEW, .ref aEK, .int un])), (aEW, .inl (cI, P * P, .inl tw)), (aEK, .inl (cB, P * P, .inl (fun z9 => bI (kn z9)))), (aS, .inr (0, [.int (nI P), .int (nI (P - 2)), .int (nI (P - 1)), .int (nI (P * (P - 2)))]))] H := hP
            have hD : va_D A [(aE, .inr (2, [.ref aS, .ref aEW, .ref aEK, .int un])), (aEW, .inl (cI, P * P, .inl tw)), (aEK, .inl (cB, P * P, .inl (fun z9 => bI (kn z9)))), (aS, .inr (0, [.int (nI P), .int (nI (P - 2)), .int (nI (P - 1)), .int (nI (P * (P - 2)))]))] := hD
            refine lv_iload hx hb dX2_settle_109 (lv_at hl 2 rfl) ?_
            refine lv_iconst (v := nI 1) hx hb dX2_settle_111 (by decide) ?_
            refine x_cne (tgt := 142) hx hb dX2_settle_112 (by decide) (by omega) (by omega) (fun h112 => ?_) (fun h112 => ?_)
            · -- 112t
              have e18 : ((dr_st P o row (kn, tw, un)).2.2) = un := by first | rfl | (simp [dr_st, h49, h112]; done)
              have e19 : ((dr_st P o row (kn, tw, un)).2.1) = tw := by first | rfl | (simp [dr_st, h49, h112]; done)
              have e20 : ((dr_st P o row (kn, tw, un)).1) = kn := by first | rfl | (simp [dr_st, h49, h112]; done)
              exact x_vret (D := (dC, dI)) (cl := vwCl) (A := A) () hQ hx hb hr hlk (by rw [e18, e19, e20]; exact hP) (by rw [e18, e19, e20]; exact hD) hS dX2_settle_142 trivial
            · -- 112f
              refine lv_aload_n hx hb dX2_settle_115 rfl (lv_at hl 7 rfl) ?_
              refine va_get (D := (dC, dI)) (ci := 2) (v := .ref aEW) (C := RX2) (T := TX2) (N := 4) hx hb hts inX2 hown hK hP 0 rfl rfl 1 (by decide) (hts _ t_fX2_19) (fun _ h9 => h9) rfl dX2_settle_116 ?_
              refine lv_iload hx hb dX2_settle_119 (lv_at hl 1 rfl) ?_
              refine lv_iload hx hb dX2_settle_121 (lv_at hl 3 rfl) ?_
              refine x_iast (f := tw) hx hb hK hP hD hS 1 0 rfl rfl dX2_settle_123 hso (by omega) (fun H locs hP hD hS => ?_)
              have hP : va_P (dC, dI) vwCl [(aE, .inr (2, [.ref aS, .ref aEW, .ref aEK, .int un])), (aEW, .inl (cI, P * P, .inl (va_up tw (dr_so P kn o row (P - 2)) (dr_ss P tw o row (P - 2))))), (aEK, .inl (cB, P * P, .inl (fun z9 => bI (kn z9)))), (aS, .inr (0, [.int (nI P), .int (nI (P - 2)), .int (nI (P - 1)), .int (nI (P * (P - 2)))]))] H := hP
              have hD : va_D A [(aE, .inr (2, [.ref aS, .ref aEW, .ref aEK, .int un])), (aEW, .inl (cI, P * P, .inl (va_up tw (dr_so P kn o row (P - 2)) (dr_ss P tw o row (P - 2))))), (aEK, .inl (cB, P * P, .inl (fun z9 => bI (kn z9)))), (aS, .inr (0, [.int (nI P), .int (nI (P - 2)), .int (nI (P - 1)), .int (nI (P * (P - 2)))]))] := hD
              refine lv_aload_n hx hb dX2_settle_124 rfl (lv_at hl 7 rfl) ?_
              refine va_get (D := (dC, dI)) (ci := 2) (v := .ref aEK) (C := RX2) (T := TX2) (N := 4) hx hb hts inX2 hown hK hP 0 rfl rfl 2 (by decide) (hts _ t_fX2_23) (fun _ h9 => h9) rfl dX2_settle_125 ?_
              refine lv_iload hx hb dX2_settle_128 (lv_at hl 1 rfl) ?_
              refine lv_iconst (v := bI true) hx hb dX2_settle_130 (by decide) ?_
              refine x_zast (g := kn) hx hb hK hP hD hS 2 1 rfl rfl dX2_settle_131 hso (by omega) (fun H locs hP hD hS => ?_)
              have hP : va_P (dC, dI) vwCl [(aE, .inr (2, [.ref aS, .ref aEW, .ref aEK, .int un])), (aEW, .inl (cI, P * P, .inl (va_up tw (dr_so P kn o row (P - 2)) (dr_ss P tw o row (P - 2))))), (aEK, .inl (cB, P * P, .inl (fun z9 => bI ((va_up kn (dr_so P kn o row (P - 2)) true) z9)))), (aS, .inr (0, [.int (nI P), .int (nI (P - 2)), .int (nI (P - 1)), .int (nI (P * (P - 2)))]))] H := hP
              have hD : va_D A [(aE, .inr (2, [.ref aS, .ref aEW, .ref aEK, .int un])), (aEW, .inl (cI, P * P, .inl (va_up tw (dr_so P kn o row (P - 2)) (dr_ss P tw o row (P - 2))))), (aEK, .inl (cB, P * P, .inl (fun z9 => bI ((va_up kn (dr_so P kn o row (P - 2)) true) z9)))), (aS, .inr (0, [.int (nI P), .int (nI (P - 2)), .int (nI (P - 1)), .int (nI (P * (P - 2)))]))] := hD
              refine lv_aload_n hx hb dX2_settle_132 rfl (lv_at hl 7 rfl) ?_
              refine lv_dup hx hb dX2_settle_133 rfl ?_
              refine va_get (D := (dC, dI)) (ci := 2) (v := .int un) (C := RX2) (T := TX2) (N := 4) hx hb hts inX2 hown hK hP 0 rfl rfl 3 (by decide) (hts _ t_fX2_31) (fun _ h9 => h9) rfl dX2_settle_134 ?_
              refine lv_iconst (v := 1) hx hb dX2_settle_137 (by decide) ?_
              refine lv_isub hx hb dX2_settle_138 ?_
              refine va_put (D := (dC, dI)) (ci := 2) (v := .int (un - 1)) (ty := .int) (C := RX2) (T := TX2) (N := 4) hx hb hts inX2 tyX2 tyX2_ok nmX2 hown hK hP hD hS 0 rfl rfl 3 (by decide) (hts _ t_fX2_31) (fun _ h9 => h9) rfl (by decide +kernel) rfl rfl (Nat.le_of_ble_eq_true rfl) dX2_settle_139 (fun H locs hP hD hS => ?_)
              have hP : va_P (dC, dI) vwCl [(aE, .inr (2, [.ref aS, .ref aEW, .ref aEK, .int (un - 1)])), (aEW, .inl (cI, P * P, .inl (va_up tw (dr_so P kn o row (P - 2)) (dr_ss P tw o row (P - 2))))), (aEK, .inl (cB, P * P, .inl (fun z9 => bI ((va_up kn (dr_so P kn o row (P - 2)) true) z9)))), (aS, .inr (0, [.int (nI P), .int (nI (P - 2)), .int (nI (P - 1)), .int (nI (P * (P - 2)))]))] H := hP
              have hD : va_D A [(aE, .inr (2, [.ref aS, .ref aEW, .ref aEK, .int (un - 1)])), (aEW, .inl (cI, P * P, .inl (va_up tw (dr_so P kn o row (P - 2)) (dr_ss P tw o row (P - 2))))), (aEK, .inl (cB, P * P, .inl (fun z9 => bI ((va_up kn (dr_so P kn o row (P - 2)) true) z9)))), (aS, .inr (0, [.int (nI P), .int (nI (P - 2)), .int (nI (P - 1)), .int (nI (P * (P - 2)))]))] := hD
              have e21 : ((dr_st P o row (kn, tw, un)).2.2) = (un - 1) := by first | rfl | (simp [dr_st, h49, h112]; done)
              have e22 : ((dr_st P o row (kn, tw, un)).2.1) = (va_up tw (dr_so P kn o row (P - 2)) (dr_ss P tw o row (P - 2))) := by first | rfl | (simp [dr_st, h49, h112]; done)
              have e23 : ((dr_st P o row (kn, tw, un)).1) = (va_up kn (dr_so P kn o row (P - 2)) true) := by first | rfl | (simp [dr_st, h49, h112]; done)
              exact x_vret (D := (dC, dI)) (cl := vwCl) (A := A) () hQ hx hb hr hlk (by rw [e21, e22, e23]; exact hP) (by rw [e21, e22, e23]; exact hD) hS dX2_settle_142 trivial
          · -- 49f
            refine lv_aload_n hx hb dX2_settle_52 rfl (lv_at hl 7 rfl) ?_
            refine va_get (D := (dC, dI)) (ci := 2) (v := .ref aS) (C := RX2) (T := TX2) (N := 4) hx hb hts inX2 hown hK hP 0 rfl rfl 0 (by decide) (hts _ t_fX2_7) (fun _ h9 => h9) rfl dX2_settle_53 ?_
            refine lv_aload_n hx hb dX2_settle_56 rfl (lv_at hl 7 rfl) ?_
            refine va_get (D := (dC, dI)) (ci := 2) (v := .ref aS) (C := RX2) (T := TX2) (N := 4) hx hb hts inX2 hown hK hP 0 rfl rfl 0 (by decide) (hts _ t_fX2_7) (fun _ h9 => h9) rfl dX2_settle_57 ?_
            refine lv_iload_n hx hb dX2_settle_60 rfl (lv_at hl 6 rfl) ?_
            refine lv_iload hx hb dX2_settle_61 (lv_at hl 0 rfl) ?_
            refine lv_iload_n hx hb dX2_settle_63 rfl (lv_at hl 5 rfl) ?_
            refine gV (wr := [(aE, .inr (2, [.ref aS, .ref aEW, .ref aEK, .int un])), (aEW, .inl (cI, P * P, .inl tw)), (aEK, .inl (cB, P * P, .inl (fun z9 => bI (kn z9))))]) (pre := [(aE, .inr (2, [.ref aS, .ref aEW, .ref aEK, .int un])), (aEW, .inl (cI, P * P, .inl tw)), (aEK, .inl (cB, P * P, .inl (fun z9 => bI (kn z9)))), (aS, .inr (0, [.int (nI P), .int (nI (P - 2)), .int (nI (P - 1)), .int (nI (P * (P - 2)))]))]) (tl := []) (G := fun (u : Unit) => [(aE, .inr (2, [.ref aS, .ref aEW, .ref aEK, .int un])), (aEW, .inl (cI, P * P, .inl tw)), (aEK, .inl (cB, P * P, .inl (fun z9 => bI (kn z9)))), (aS, .inr (0, [.int (nI P), .int (nI (P - 2)), .int (nI (P - 1)), .int (nI (P * (P - 2)))]))]) (b := aS) (As := [.int (nI o), .int (nI i), .int (nI row)]) (rst := [.ref aS]) ⟨hx, hb, hml, hown, hts⟩ (c_dd l dC dI cI cB cQ cJ aS P o i row hp5 ho (by omega) hrw) (cwV 3 hts (gdV t_mX2_54 t_inst_X0_dataDrive t_sel_X0_dataDrive t_ini_X0 t_code_X0_dataDrive) rfl rfl rfl (by decide +kernel) ⟨Nat.le_of_ble_eq_true rfl, Nat.le_of_ble_eq_true rfl⟩) hK hP hD hS hA [3] [0, 1, 2] [1, 2, 3, 0] rfl (by decide) (fun _ => rfl) (by decide) (ci := 0) rfl rfl rfl rfl hl.1 rfl (Nat.le_of_ble_eq_true rfl) dX2_settle_64 ⟨Nat.zero_le _, Nat.zero_le _⟩ (fun r u H locs hu24 hP hD hS => ?_)
            have hr64 := hu24
            have hr64 : r = nI (dr_dd P o i row) := hr64
            subst hr64
            have hP : va_P (dC, dI) vwCl [(aE, .inr (2, [.ref aS, .ref aEW, .ref aEK, .int un])), (aEW, .inl (cI, P * P, .inl tw)), (aEK, .inl (cB, P * P, .inl (fun z9 => bI (kn z9)))), (aS, .inr (0, [.int (nI P), .int (nI (P - 2)), .int (nI (P - 1)), .int (nI (P * (P - 2)))]))] H := hP
            have hD : va_D A [(aE, .inr (2, [.ref aS, .ref aEW, .ref aEK, .int un])), (aEW, .inl (cI, P * P, .inl tw)), (aEK, .inl (cB, P * P, .inl (fun z9 => bI (kn z9)))), (aS, .inr (0, [.int (nI P), .int (nI (P - 2)), .int (nI (P - 1)), .int (nI (P * (P - 2)))]))] := hD
            refine lv_iload hx hb dX2_settle_67 (lv_at hl 0 rfl) ?_
            refine gV (wr := [(aE, .inr (2, [.ref aS, .ref aEW, .ref aEK, .int un])), (aEW, .inl (cI, P * P, .inl tw)), (aEK, .inl (cB, P * P, .inl (fun z9 => bI (kn z9))))]) (pre := [(aE, .inr (2, [.ref aS, .ref aEW, .ref aEK, .int un])), (aEW, .inl (cI, P * P, .inl tw)), (aEK, .inl (cB, P * P, .inl (fun z9 => bI (kn z9)))), (aS, .inr (0, [.int (nI P), .int (nI (P - 2)), .int (nI (P - 1)), .int (nI (P * (P - 2)))]))]) (tl := []) (G := fun (u : Unit) => [(aE, .inr (2, [.ref aS, .ref aEW, .ref aEK, .int un])), (aEW, .inl (cI, P * P, .inl tw)), (aEK, .inl (cB, P * P, .inl (fun z9 => bI (kn z9)))), (aS, .inr (0, [.int (nI P), .int (nI (P - 2)), .int (nI (P - 1)), .int (nI (P * (P - 2)))]))]) (b := aS) (As := [.int (nI (dr_dd P o i row)), .int (nI i)]) (rst := []) ⟨hx, hb, hml, hown, hts⟩ (c_place l dC dI cI cB cQ cJ aS P (dr_dd P o i row) i ) (cwV 2 hts (gdV t_mX2_44 t_inst_X0_place t_sel_X0_place t_ini_X0 t_code_X0_place) rfl rfl rfl (by decide +kernel) ⟨Nat.le_of_ble_eq_true rfl, Nat.le_of_ble_eq_true rfl⟩) hK hP hD hS hA [3] [0, 1, 2] [1, 2, 3, 0] rfl (by decide) (fun _ => rfl) (by decide) (ci := 0) rfl rfl rfl rfl hl.1 rfl (Nat.le_of_ble_eq_true rfl) dX2_settle_69 ⟨Nat.zero_le _, Nat.zero_le _⟩ (fun r u H locs hu25 hP hD hS => ?_)
            have hr69 := hu25
            have hr69 : r = nI ((dr_dd P o i row) * P + i) := hr69
            subst hr69
            have hP : va_P (dC, dI) vwCl [(aE, .inr (2, [.ref aS, .ref aEW, .ref aEK, .int un])), (aEW, .inl (cI, P * P, .inl tw)), (aEK, .inl (cB, P * P, .inl (fun z9 => bI (kn z9)))), (aS, .inr (0, [.int (nI P), .int (nI (P - 2)), .int (nI (P - 1)), .int (nI (P * (P - 2)))]))] H := hP
            have hD : va_D A [(aE, .inr (2, [.ref aS, .ref aEW, .ref aEK, .int un])), (aEW, .inl (cI, P * P, .inl tw)), (aEK, .inl (cB, P * P, .inl (fun z9 => bI (kn z9)))), (aS, .inr (0, [.int (nI P), .int (nI (P - 2)), .int (nI (P - 1)), .int (nI (P * (P - 2)))]))] := hD
            refine lv_istore hx hb dX2_settle_72 hl (by decide) rfl (fun ls hl => ?_)
            have hl : lv_has ls 9 [(8, .int (nI ((dr_dd P o i row) * P + i))), (7, .int (nI i)), (6, .int (nI (dr_so P kn o row i))), (5, .int (nI (dr_sh P kn o row i))), (4, .int (dr_ss P tw o row i)), (3, .int (nI (o * P + row))), (2, .int (nI row)), (1, .int (nI o)), (0, .ref aE)] := hl
            refine lv_iload hx hb dX2_settle_74 (lv_at hl 4 rfl) ?_
            refine lv_aload_n hx hb dX2_settle_76 rfl (lv_at hl 8 rfl) ?_
            refine va_get (D := (dC, dI)) (ci := 2) (v := .ref aEW) (C := RX2) (T := TX2) (N := 4) hx hb hts inX2 hown hK hP 0 rfl rfl 1 (by decide) (hts _ t_fX2_19) (fun _ h9 => h9) rfl dX2_settle_77 ?_
            refine lv_iload hx hb dX2_settle_80 (lv_at hl 0 rfl) ?_
            refine x_iald (f := tw) hx hb hK hP 1 0 rfl rfl dX2_settle_82 (dr_pl (dr_dd_lt hp5) (by omega)) (by omega) ?_
            refine lv_ixor hx hb dX2_settle_83 ?_
            refine lv_istore hx hb dX2_settle_84 hl (by decide) rfl (fun ls hl => ?_)
            have hl : lv_has ls 9 [(4, .int ((dr_ss P tw o row i) ^^^ (tw ((dr_dd P o i row) * P + i)))), (8, .int (nI ((dr_dd P o i row) * P + i))), (7, .int (nI i)), (6, .int (nI (dr_so P kn o row i))), (5, .int (nI (dr_sh P kn o row i))), (3, .int (nI (o * P + row))), (2, .int (nI row)), (1, .int (nI o)), (0, .ref aE)] := hl
            refine lv_aload_n hx hb dX2_settle_86 rfl (lv_at hl 8 rfl) ?_
            refine va_get (D := (dC, dI)) (ci := 2) (v := .ref aEK) (C := RX2) (T := TX2) (N := 4) hx hb hts inX2 hown hK hP 0 rfl rfl 2 (by decide) (hts _ t_fX2_23) (fun _ h9 => h9) rfl dX2_settle_87 ?_
            refine lv_iload hx hb dX2_settle_90 (lv_at hl 1 rfl) ?_
            refine x_zald (g := kn) hx hb hK hP 2 1 rfl rfl dX2_settle_92 (dr_pl (dr_dd_lt hp5) (by omega)) (by omega) ?_
            refine x_ifT (tgt := 103) hx hb dX2_settle_93 (by decide) (fun h93 => ?_) (fun h93 => ?_)
            · -- 93t
              refine lv_iinc (v := nI (i + 1)) hx hb dX2_settle_103 hl (k := 2) rfl (x_inc _) (by decide) rfl (fun ls hl => ?_)
              have hl : lv_has ls 9 [(7, .int (nI (i + 1))), (4, .int ((dr_ss P tw o row i) ^^^ (tw ((dr_dd P o i row) * P + i)))), (8, .int (nI ((dr_dd P o i row) * P + i))), (6, .int (nI (dr_so P kn o row i))), (5, .int (nI (dr_sh P kn o row i))), (3, .int (nI (o * P + row))), (2, .int (nI row)), (1, .int (nI o)), (0, .ref aE)] := hl
              refine lv_goto (tgt := 40) hx hb dX2_settle_106 (by decide) ?_
              have e26 : (dr_so P kn o row (i + 1)) = (dr_so P kn o row i) := by first | rfl | (simp [dr_sh, dr_so, h49, h93]; done) | (simp [dr_sh, dr_so, h49, h93]; omega)
              have e27 : (dr_sh P kn o row (i + 1)) = (dr_sh P kn o row i) := by first | rfl | (simp [dr_sh, dr_so, h49, h93]; done) | (simp [dr_sh, dr_so, h49, h93]; omega)
              have e28 : (dr_ss P tw o row (i + 1)) = ((dr_ss P tw o row i) ^^^ (tw ((dr_dd P o i row) * P + i))) := by first | rfl | (simp [dr_sh, dr_so, h49, h93]; done) | (simp [dr_sh, dr_so, h49, h93]; omega)
              exact ih40 (i + 1) ls H locs (by omega) (by omega) (by rw [e26, e27, e28]; exact lv_sub hl [0, 3, 4, 1, 5, 6, 7, 8] rfl) hP hD hS
            · -- 93f
              refine lv_iinc (v := nI (dr_sh P kn o row i + 1)) hx hb dX2_settle_96 hl (k := 4) rfl (x_inc _) (by decide) rfl (fun ls hl => ?_)
              have hl : lv_has ls 9 [(5, .int (nI (dr_sh P kn o row i + 1))), (4, .int ((dr_ss P tw o row i) ^^^ (tw ((dr_dd P o i row) * P + i)))), (8, .int (nI ((dr_dd P o i row) * P + i))), (7, .int (nI i)), (6, .int (nI (dr_so P kn o row i))), (3, .int (nI (o * P + row))), (2, .int (nI row)), (1, .int (nI o)), (0, .ref aE)] := hl
              refine lv_iload hx hb dX2_settle_99 (lv_at hl 2 rfl) ?_
              refine lv_istore hx hb dX2_settle_101 hl (by decide) rfl (fun ls hl => ?_)
              have hl : lv_has ls 9 [(6, .int (nI ((dr_dd P o i row) * P + i))), (5, .int (nI (dr_sh P kn o row i + 1))), (4, .int ((dr_ss P tw o row i) ^^^ (tw ((dr_dd P o i row) * P + i)))), (8, .int (nI ((dr_dd P o i row) * P + i))), (7, .int (nI i)), (3, .int (nI (o * P + row))), (2, .int (nI row)), (1, .int (nI o)), (0, .ref aE)] := hl
              refine lv_iinc (v := nI (i + 1)) hx hb dX2_settle_103 hl (k := 4) rfl (x_inc _) (by decide) rfl (fun ls hl => ?_)
              have hl : lv_has ls 9 [(7, .int (nI (i + 1))), (6, .int (nI ((dr_dd P o i row) * P + i))), (5, .int (nI (dr_sh P kn o row i + 1))), (4, .int ((dr_ss P tw o row i) ^^^ (tw ((dr_dd P o i row) * P + i)))), (8, .int (nI ((dr_dd P o i row) * P + i))), (3, .int (nI (o * P + row))), (2, .int (nI row)), (1, .int (nI o)), (0, .ref aE)] := hl
              refine lv_goto (tgt := 40) hx hb dX2_settle_106 (by decide) ?_
              have e29 : (dr_so P kn o row (i + 1)) = ((dr_dd P o i row) * P + i) := by first | rfl | (simp [dr_sh, dr_so, h49, h93]; done) | (simp [dr_sh, dr_so, h49, h93]; omega)
              have e30 : (dr_sh P kn o row (i + 1)) = (dr_sh P kn o row i + 1) := by first | rfl | (simp [dr_sh, dr_so, h49, h93]; done) | (simp [dr_sh, dr_so, h49, h93]; omega)
              have e31 : (dr_ss P tw o row (i + 1)) = ((dr_ss P tw o row i) ^^^ (tw ((dr_dd P o i row) * P + i))) := by first | rfl | (simp [dr_sh, dr_so, h49, h93]; done) | (simp [dr_sh, dr_so, h49, h93]; omega)
              exact ih40 (i + 1) ls H locs (by omega) (by omega) (by rw [e29, e30, e31]; exact lv_sub hl [0, 1, 2, 3, 5, 6, 7, 8] rfl) hP hD hS
      have e32 : (dr_so P kn o row 0) = (o * P + row) := by first | rfl | (simp [dr_sh, dr_so]; done) | (simp [dr_sh, dr_so]; omega)
      have e33 : (dr_ss P tw o row 0) = (tw (o * P + row)) := by first | rfl | (simp [dr_sh, dr_so]; done) | (simp [dr_sh, dr_so]; omega)
      exact lp40 (P - 2 - 0 + 1) 0 ls H locs (by omega) (by omega) (by rw [e32, e33]; exact lv_sub hl [0, 1, 2, 3, 4, 5, 6, 7] rfl) hP hD hS
    exact lp32  ls H locs   (lv_sub hl [0, 1, 4, 3, 2] rfl) hP hD hS

abbrev rm_c_load : Room := { frames := 1, cells := 0, slots := 0, locals := 22 }
set_option maxHeartbeats 4000000 in
set_option maxRecDepth 100000 in
theorem c_load (l : Launch) (dC : Nat → ClassId) (dI : Nat → Nat → Nat) (cI cB cQ cJ : ClassId) (aE : Nat) (aS : Nat) (aEW : Nat) (aEK : Nat) (P : Nat) (tw : Nat → Int32) (kn : Nat → Bool) (un : Int32) (aT : Nat) (aW : Nat) (aM : Nat) (w : Nat → Int32) (ms : Nat → Bool) (mk : Bool) (hp5 : dr_P P) : MV l yX2_load (Cond.code yX2_load cX2_load 5 none :: TB) rm_c_load (dC, dI) vwCl (TY cI cB cQ cJ) [.ref aE, .ref aT] [(aE, .inr (2, [.ref aS, .ref aEW, .ref aEK, .int un])), (aEW, .inl (cI, P * P, .inl tw)), (aEK, .inl (cB, P * P, .inl (fun z9 => bI (kn z9)))), (aS, .inr (0, [.int (nI P), .int (nI (P - 2)), .int (nI (P - 1)), .int (nI (P * (P - 2)))])), (aT, .inr (1, [.ref aS, .ref aW, .ref aM, .int (bI mk)])), (aW, .inl (cI, P * P, .inl w)), (aM, .inl (cB, P, .inl (fun z9 => bI (ms z9))))] (fun (u : Unit) => True) (fun (u : Unit) => [(aE, .inr (2, [.ref aS, .ref aEW, .ref aEK, .int (nI (dr_un P ms P))])), (aEW, .inl (cI, P * P, .inl (dr_LW P ms w tw P))), (aEK, .inl (cB, P * P, .inl (fun z9 => bI ((dr_LK P ms kn P) z9)))), (aS, .inr (0, [.int (nI P), .int (nI (P - 2)), .int (nI (P - 1)), .int (nI (P * (P - 2)))])), (aT, .inr (1, [.ref aS, .ref aW, .ref aM, .int (bI mk)])), (aW, .inl (cI, P * P, .inl w)), (aM, .inl (cB, P, .inl (fun z9 => bI (ms z9))))]) := by
  refine MV.ofW (cc := cX2_load) (maxL := 5) (by decide +kernel) rfl (Nat.le_of_ble_eq_true rfl) ?_
  intro p e s m args below meth c A ls Q H locs hQ hx hb hml hr hlk hts hown hK hP hD hS hA hl
  have hts : ∀ w ∈ TB, w.before args s = true := fun w h => hts w (List.mem_cons_of_mem _ h)
  have hown : s.vm.findClass RX2 = some m.cls := hown
  have hl : lv_has ls 5 [(0, .ref aE), (1, .ref aT)] := hl
  have hP : va_P (dC, dI) vwCl [(aE, .inr (2, [.ref aS, .ref aEW, .ref aEK, .int un])), (aEW, .inl (cI, P * P, .inl tw)), (aEK, .inl (cB, P * P, .inl (fun z9 => bI (kn z9)))), (aS, .inr (0, [.int (nI P), .int (nI (P - 2)), .int (nI (P - 1)), .int (nI (P * (P - 2)))])), (aT, .inr (1, [.ref aS, .ref aW, .ref aM, .int (bI mk)])), (aW, .inl (cI, P * P, .inl w)), (aM, .inl (cB, P, .inl (fun z9 => bI (ms z9))))] H := hP
  have hD : va_D A [(aE, .inr (2, [.ref aS, .ref aEW, .ref aEK, .int un])), (aEW, .inl (cI, P * P, .inl tw)), (aEK, .inl (cB, P * P, .inl (fun z9 => bI (kn z9)))), (aS, .inr (0, [.int (nI P), .int (nI (P - 2)), .int (nI (P - 1)), .int (nI (P * (P - 2)))])), (aT, .inr (1, [.ref aS, .ref aW, .ref aM, .int (bI mk)])), (aW, .inl (cI, P * P, .inl w)), (aM, .inl (cB, P, .inl (fun z9 => bI (ms z9))))] := hD
  have hp := hp5.le
  have hpp := dr_PP hp5
  have hpq := dr_PP2 hp5
  refine lv_aload_n hx hb dX2_load_0 rfl (lv_at hl 0 rfl) ?_
  refine lv_iconst (v := nI 0) hx hb dX2_load_1 (by decide) ?_
  refine va_put (D := (dC, dI)) (ci := 2) (v := .int (nI 0)) (ty := .int) (C := RX2) (T := TX2) (N := 4) hx hb hts inX2 tyX2 tyX2_ok nmX2 hown hK hP hD hS 0 rfl rfl 3 (by decide) (hts _ t_fX2_31) (fun _ h9 => h9) rfl (by decide +kernel) rfl rfl (Nat.le_of_ble_eq_true rfl) dX2_load_2 (fun H locs hP hD hS => ?_)
  have hP : va_P (dC, dI) vwCl [(aE, .inr (2, [.ref aS, .ref aEW, .ref aEK, .int (nI 0)])), (aEW, .inl (cI, P * P, .inl tw)), (aEK, .inl (cB, P * P, .inl (fun z9 => bI (kn z9)))), (aS, .inr (0, [.int (nI P), .int (nI (P - 2)), .int (nI (P - 1)), .int (nI (P * (P - 2)))])), (aT, .inr (1, [.ref aS, .ref aW, .ref aM, .int (bI mk)])), (aW, .inl (cI, P * P, .inl w)), (aM, .inl (cB, P, .inl (fun z9 => bI (ms z9))))] H := hP
  have hD : va_D A [(aE, .inr (2, [.ref aS, .ref aEW, .ref aEK, .int (nI 0)])), (aEW, .inl (cI, P * P, .inl tw)), (aEK, .inl (cB, P * P, .inl (fun z9 => bI (kn z9)))), (aS, .inr (0, [.int (nI P), .int (nI (P - 2)), .int (nI (P - 1)), .int (nI (P * (P - 2)))])), (aT, .inr (1, [.ref aS, .ref aW, .ref aM, .int (bI mk)])), (aW, .inl (cI, P * P, .inl w)), (aM, .inl (cB, P, .inl (fun z9 => bI (ms z9))))] := hD
  refine lv_iconst (v := nI 0) hx hb dX2_load_5 (by decide) ?_
  refine lv_istore_n hx hb dX2_load_6 rfl hl (by decide) rfl (fun ls hl => ?_)
  have hl : lv_has ls 5 [(2, .int (nI 0)), (0, .ref aE), (1, .ref aT)] := hl
  have lp7 : ∀ (n9 : Nat) (i : Nat) (ls : Array Slot) (H : Heap) (locs : List Loc), P - i < n9 → (i ≤ P) → lv_has ls 5 [(2, .int (nI i)), (1, .ref aT), (0, .ref aE)] → va_P (dC, dI) vwCl [(aE, .inr (2, [.ref aS, .ref aEW, .ref aEK, .int (nI (dr_un P ms i))])), (aEW, .inl (cI, P * P, .inl (dr_LW P ms w tw i))), (aEK, .inl (cB, P * P, .inl (fun z9 => bI ((dr_LK P ms kn i) z9)))), (aS, .inr (0, [.int (nI P), .int (nI (P - 2)), .int (nI (P - 1)), .int (nI (P * (P - 2)))])), (aT, .inr (1, [.ref aS, .ref aW, .ref aM, .int (bI mk)])), (aW, .inl (cI, P * P, .inl w)), (aM, .inl (cB, P, .inl (fun z9 => bI (ms z9))))] H → va_D A [(aE, .inr (2, [.ref aS, .ref aEW, .ref aEK, .int (nI (dr_un P ms i))])), (aEW, .inl (cI, P * P, .inl (dr_LW P ms w tw i))), (aEK, .inl (cB, P * P, .inl (fun z9 => bI ((dr_LK P ms kn i) z9)))), (aS, .inr (0, [.int (nI P), .int (nI (P - 2)), .int (nI (P - 1)), .int (nI (P * (P - 2)))])), (aT, .inr (1, [.ref aS, .ref aW, .ref aM, .int (bI mk)])), (aW, .inl (cI, P * P, .inl w)), (aM, .inl (cB, P, .inl (fun z9 => bI (ms z9))))] → va_S A s.heap H locs → W p l e rm_c_load s m args below meth c H locs 0 0 Q (F0 m 7 ls []) := by
    intro n9
    induction n9 with
    | zero => intro i ls H locs hn9; omega
    | succ n9 ih7 =>
      intro i ls H locs hn9 hi hl hP hD hS
      refine lv_iload_n hx hb dX2_load_7 rfl (lv_at hl 0 rfl) ?_
      refine lv_aload_n hx hb dX2_load_8 rfl (lv_at hl 2 rfl) ?_
      refine va_get (D := (dC, dI)) (ci := 2) (v := .ref aS) (C := RX2) (T := TX2) (N := 4) hx hb hts inX2 hown hK hP 0 rfl rfl 0 (by decide) (hts _ t_fX2_7) (fun _ h9 => h9) rfl dX2_load_9 ?_
      refine va_get (D := (dC, dI)) (ci := 0) (v := .int (nI P)) (C := RX0) (T := TX0) (N := 4) hx hb hts inX0 hown hK hP 3 rfl rfl 0 (by decide) (hts _ t_fX2_13) (fun _ h9 => h9) rfl dX2_load_12 ?_
      refine x_cge (tgt := 128) hx hb dX2_load_15 (by decide) (by omega) (by omega) (fun h15 => ?_) (fun h15 => ?_)
      · -- 15t
        have hie15 : i = P := by omega
        try rw [hie15] at hl
        try rw [hie15] at hP
        try rw [hie15] at hD
        have hl : lv_has ls 5 [(2, .int (nI P)), (1, .ref aT), (0, .ref aE)] := hl
        have hP : va_P (dC, dI) vwCl [(aE, .inr (2, [.ref aS, .ref aEW, .ref aEK, .int (nI (dr_un P ms P))])), (aEW, .inl (cI, P * P, .inl (dr_LW P ms w tw P))), (aEK, .inl (cB, P * P, .inl (fun z9 => bI ((dr_LK P ms kn P) z9)))), (aS, .inr (0, [.int (nI P), .int (nI (P - 2)), .int (nI (P - 1)), .int (nI (P * (P - 2)))])), (aT, .inr (1, [.ref aS, .ref aW, .ref aM, .int (bI mk)])), (aW, .inl (cI, P * P, .inl w)), (aM, .inl (cB, P, .inl (fun z9 => bI (ms z9))))] H := hP
        have hD : va_D A [(aE, .inr (2, [.ref aS, .ref aEW, .ref aEK, .int (nI (dr_un P ms P))])), (aEW, .inl (cI, P * P, .inl (dr_LW P ms w tw P))), (aEK, .inl (cB, P * P, .inl (fun z9 => bI ((dr_LK P ms kn P) z9)))), (aS, .inr (0, [.int (nI P), .int (nI (P - 2)), .int (nI (P - 1)), .int (nI (P * (P - 2)))])), (aT, .inr (1, [.ref aS, .ref aW, .ref aM, .int (bI mk)])), (aW, .inl (cI, P * P, .inl w)), (aM, .inl (cB, P, .inl (fun z9 => bI (ms z9))))] := hD
        exact x_vret (D := (dC, dI)) (cl := vwCl) (A := A) () hQ hx hb hr hlk hP hD hS dX2_load_128 trivial
      · -- 15f
        refine lv_iconst (v := nI 0) hx hb dX2_load_18 (by decide) ?_
        refine lv_istore_n hx hb dX2_load_19 rfl hl (by decide) rfl (fun ls hl => ?_)
        have hl : lv_has ls 5 [(3, .int (nI 0)), (2, .int (nI i)), (1, .ref aT), (0, .ref aE)] := hl
        have lp20 : ∀ (n9 : Nat) (j : Nat) (ls : Array Slot) (H : Heap) (locs : List Loc), P - j < n9 → (j ≤ P) → lv_has ls 5 [(3, .int (nI j)), (2, .int (nI i)), (1, .ref aT), (0, .ref aE)] → va_P (dC, dI) vwCl [(aE, .inr (2, [.ref aS, .ref aEW, .ref aEK, .int (nI (dr_un P ms i))])), (aEW, .inl (cI, P * P, .inl (dr_lw P ms w i (dr_LW P ms w tw i) j))), (aEK, .inl (cB, P * P, .inl (fun z9 => bI ((dr_lk P ms i (dr_LK P ms kn i) j) z9)))), (aS, .inr (0, [.int (nI P), .int (nI (P - 2)), .int (nI (P - 1)), .int (nI (P * (P - 2)))])), (aT, .inr (1, [.ref aS, .ref aW, .ref aM, .int (bI mk)])), (aW, .inl (cI, P * P, .inl w)), (aM, .inl (cB, P, .inl (fun z9 => bI (ms z9))))] H → va_D A [(aE, .inr (2, [.ref aS, .ref aEW, .ref aEK, .int (nI (dr_un P ms i))])), (aEW, .inl (cI, P * P, .inl (dr_lw P ms w i (dr_LW P ms w tw i) j))), (aEK, .inl (cB, P * P, .inl (fun z9 => bI ((dr_lk P ms i (dr_LK P ms kn i) j) z9)))), (aS, .inr (0, [.int (nI P), .int (nI (P - 2)), .int (nI (P - 1)), .int (nI (P * (P - 2)))])), (aT, .inr (1, [.ref aS, .ref aW, .ref aM, .int (bI mk)])), (aW, .inl (cI, P * P, .inl w)), (aM, .inl (cB, P, .inl (fun z9 => bI (ms z9))))] → va_S A s.heap H locs → W p l e rm_c_load s m args below meth c H locs 0 0 Q (F0 m 20 ls []) := by
          intro n9
          induction n9 with
          | zero => intro j ls H locs hn9; omega
          | succ n9 ih20 =>
            intro j ls H locs hn9 hj hl hP hD hS
            refine lv_iload_n hx hb dX2_load_20 rfl (lv_at hl 0 rfl) ?_
            refine lv_aload_n hx hb dX2_load_21 rfl (lv_at hl 3 rfl) ?_
            refine va_get (D := (dC, dI)) (ci := 2) (v := .ref aS) (C := RX2) (T := TX2) (N := 4) hx hb hts inX2 hown hK hP 0 rfl rfl 0 (by decide) (hts _ t_fX2_7) (fun _ h9 => h9) rfl dX2_load_22 ?_
            refine va_get (D := (dC, dI)) (ci := 0) (v := .int (nI P)) (C := RX0) (T := TX0) (N := 4) hx hb hts inX0 hown hK hP 3 rfl rfl 0 (by decide) (hts _ t_fX2_13) (fun _ h9 => h9) rfl dX2_load_25 ?_
            refine x_cge (tgt := 97) hx hb dX2_load_28 (by decide) (by omega) (by omega) (fun h28 => ?_) (fun h28 => ?_)
            · -- 28t
              have hie28 : j = P := by omega
              try rw [hie28] at hl
              try rw [hie28] at hP
              try rw [hie28] at hD
              have hl : lv_has ls 5 [(3, .int (nI P)), (2, .int (nI i)), (1, .ref aT), (0, .ref aE)] := hl
              have hP : va_P (dC, dI) vwCl [(aE, .inr (2, [.ref aS, .ref aEW, .ref aEK, .int (nI (dr_un P ms i))])), (aEW, .inl (cI, P * P, .inl (dr_lw P ms w i (dr_LW P ms w tw i) P))), (aEK, .inl (cB, P * P, .inl (fun z9 => bI ((dr_lk P ms i (dr_LK P ms kn i) P) z9)))), (aS, .inr (0, [.int (nI P), .int (nI (P - 2)), .int (nI (P - 1)), .int (nI (P * (P - 2)))])), (aT, .inr (1, [.ref aS, .ref aW, .ref aM, .int (bI mk)])), (aW, .inl (cI, P * P, .inl w)), (aM, .inl (cB, P, .inl (fun z9 => bI (ms z9))))] H := hP
              have hD : va_D A [(aE, .inr (2, [.ref aS, .ref aEW, .ref aEK, .int (nI (dr_un P ms i))])), (aEW, .inl (cI, P * P, .inl (dr_lw P ms w i (dr_LW P ms w tw i) P))), (aEK, .inl (cB, P * P, .inl (fun z9 => bI ((dr_lk P ms i (dr_LK P ms kn i) P) z9)))), (aS, .inr (0, [.int (nI P), .int (nI (P - 2)), .int (nI (P - 1)), .int (nI (P * (P - 2)))])), (aT, .inr (1, [.ref aS, .ref aW, .ref aM, .int (bI mk)])), (aW, .inl (cI, P * P, .inl w)), (aM, .inl (cB, P, .inl (fun z9 => bI (ms z9))))] := hD
              refine lv_aload_n hx hb dX2_load_97 rfl (lv_at hl 2 rfl) ?_
              refine va_get (D := (dC, dI)) (ci := 1) (v := .ref aM) (C := RX1) (T := TX1) (N := 4) hx hb hts inX1 hown hK hP 4 rfl rfl 2 (by decide) (hts _ t_fX2_48) (fun _ h9 => h9) rfl dX2_load_98 ?_
              refine lv_iload_n hx hb dX2_load_101 rfl (lv_at hl 1 rfl) ?_
              refine x_zald (g := ms) hx hb hK hP 6 1 rfl rfl dX2_load_102 (by omega) (by omega) ?_
              refine x_ifF (tgt := 122) hx hb dX2_load_103 (by decide) (fun h103 => ?_) (fun h103 => ?_)
              · -- 103t
                refine lv_iinc (v := nI (i + 1)) hx hb dX2_load_122 hl (k := 1) rfl (x_inc _) (by decide) rfl (fun ls hl => ?_)
                have hl : lv_has ls 5 [(2, .int (nI (i + 1))), (3, .int (nI P)), (1, .ref aT), (0, .ref aE)] := hl
                refine lv_goto (tgt := 7) hx hb dX2_load_125 (by decide) ?_
                have e1 : (nI (dr_un P ms (i + 1))) = (nI (dr_un P ms i)) := by first | rfl | (simp [dr_un, h28, h103]; done) | (simp [dr_un, h28, h103]; omega)
                have e2 : (dr_LW P ms w tw (i + 1)) = (dr_lw P ms w i (dr_LW P ms w tw i) P) := by first | rfl | (simp [dr_un, h28, h103]; done) | (simp [dr_un, h28, h103]; omega)
                have e3 : (dr_LK P ms kn (i + 1)) = (dr_lk P ms i (dr_LK P ms kn i) P) := by first | rfl | (simp [dr_un, h28, h103]; done) | (simp [dr_un, h28, h103]; omega)
                exact ih7 (i + 1) ls H locs (by omega) (by omega) (lv_sub hl [0, 2, 3] rfl) (by rw [e1, e2, e3]; exact hP) (by rw [e1, e2, e3]; exact hD) hS
              · -- 103f
                refine lv_aload_n hx hb dX2_load_106 rfl (lv_at hl 3 rfl) ?_
                refine lv_dup hx hb dX2_load_107 rfl ?_
                refine va_get (D := (dC, dI)) (ci := 2) (v := .int (nI (dr_un P ms i))) (C := RX2) (T := TX2) (N := 4) hx hb hts inX2 hown hK hP 0 rfl rfl 3 (by decide) (hts _ t_fX2_31) (fun _ h9 => h9) rfl dX2_load_108 ?_
                refine lv_aload_n hx hb dX2_load_111 rfl (lv_at hl 3 rfl) ?_
                refine va_get (D := (dC, dI)) (ci := 2) (v := .ref aS) (C := RX2) (T := TX2) (N := 4) hx hb hts inX2 hown hK hP 0 rfl rfl 0 (by decide) (hts _ t_fX2_7) (fun _ h9 => h9) rfl dX2_load_112 ?_
                refine va_get (D := (dC, dI)) (ci := 0) (v := .int (nI P)) (C := RX0) (T := TX0) (N := 4) hx hb hts inX0 hown hK hP 3 rfl rfl 0 (by decide) (hts _ t_fX2_13) (fun _ h9 => h9) rfl dX2_load_115 ?_
                refine lv_iadd hx hb dX2_load_118 ?_
                refine x_top (show (nI (dr_un P ms i)) + (nI P) = nI (dr_un P ms i + P) from (nI_add _ _)) ?_
                refine va_put (D := (dC, dI)) (ci := 2) (v := .int (nI (dr_un P ms i + P))) (ty := .int) (C := RX2) (T := TX2) (N := 4) hx hb hts inX2 tyX2 tyX2_ok nmX2 hown hK hP hD hS 0 rfl rfl 3 (by decide) (hts _ t_fX2_31) (fun _ h9 => h9) rfl (by decide +kernel) rfl rfl (Nat.le_of_ble_eq_true rfl) dX2_load_119 (fun H locs hP hD hS => ?_)
                have hP : va_P (dC, dI) vwCl [(aE, .inr (2, [.ref aS, .ref aEW, .ref aEK, .int (nI (dr_un P ms i + P))])), (aEW, .inl (cI, P * P, .inl (dr_lw P ms w i (dr_LW P ms w tw i) P))), (aEK, .inl (cB, P * P, .inl (fun z9 => bI ((dr_lk P ms i (dr_LK P ms kn i) P) z9)))), (aS, .inr (0, [.int (nI P), .int (nI (P - 2)), .int (nI (P - 1)), .int (nI (P * (P - 2)))])), (aT, .inr (1, [.ref aS, .ref aW, .ref aM, .int (bI mk)])), (aW, .inl (cI, P * P, .inl w)), (aM, .inl (cB, P, .inl (fun z9 => bI (ms z9))))] H := hP
                have hD : va_D A [(aE, .inr (2, [.ref aS, .ref aEW, .ref aEK, .int (nI (dr_un P ms i + P))])), (aEW, .inl (cI, P * P, .inl (dr_lw P ms w i (dr_LW P ms w tw i) P))), (aEK, .inl (cB, P * P, .inl (fun z9 => bI ((dr_lk P ms i (dr_LK P ms kn i) P) z9)))), (aS, .inr (0, [.int (nI P), .int (nI (P - 2)), .int (nI (P - 1)), .int (nI (P * (P - 2)))])), (aT, .inr (1, [.ref aS, .ref aW, .ref aM, .int (bI mk)])), (aW, .inl (cI, P * P, .inl w)), (aM, .inl (cB, P, .inl (fun z9 => bI (ms z9))))] := hD
                refine lv_iinc (v := nI (i + 1)) hx hb dX2_load_122 hl (k := 1) rfl (x_inc _) (by decide) rfl (fun ls hl => ?_)
                have hl : lv_has ls 5 [(2, .int (nI (i + 1))), (3, .int (nI P)), (1, .ref aT), (0, .ref aE)] := hl
                refine lv_goto (tgt := 7) hx hb dX2_load_125 (by decide) ?_
                have e4 : (nI (dr_un P ms (i + 1))) = (nI (dr_un P ms i + P)) := by first | rfl | (simp [dr_un, h28, h103]; done) | (simp [dr_un, h28, h103]; omega)
                have e5 : (dr_LW P ms w tw (i + 1)) = (dr_lw P ms w i (dr_LW P ms w tw i) P) := by first | rfl | (simp [dr_un, h28, h103]; done) | (simp [dr_un, h28, h103]; omega)
                have e6 : (dr_LK P ms kn (i + 1)) = (dr_lk P ms i (dr_LK P ms kn i) P) := by first | rfl | (simp [dr_un, h28, h103]; done) | (simp [dr_un, h28, h103]; omega)
                exact ih7 (i + 1) ls H locs (by omega) (by omega) (lv_sub hl [0, 2, 3] rfl) (by rw [e4, e5, e6]; exact hP) (by rw [e4, e5, e6]; exact hD) hS
            · -- 28f
              refine lv_aload_n hx hb dX2_load_31 rfl (lv_at hl 3 rfl) ?_
              refine va_get (D := (dC, dI)) (ci := 2) (v := .ref aS) (C := RX2) (T := TX2) (N := 4) hx hb hts inX2 hown hK hP 0 rfl rfl 0 (by decide) (hts _ t_fX2_7) (fun _ h9 => h9) rfl dX2_load_32 ?_
              refine lv_iload_n hx hb dX2_load_35 rfl (lv_at hl 1 rfl) ?_
              refine lv_iload_n hx hb dX2_load_36 rfl (lv_at hl 0 rfl) ?_
              refine gV (wr := [(aE, .inr (2, [.ref aS, .ref aEW, .ref aEK, .int (nI (dr_un P ms i))])), (aEW, .inl (cI, P * P, .inl (dr_lw P ms w i (dr_LW P ms w tw i) j))), (aEK, .inl (cB, P * P, .inl (fun z9 => bI ((dr_lk P ms i (dr_LK P ms kn i) j) z9)))), (aT, .inr (1, [.ref aS, .ref aW, .ref aM, .int (bI mk)])), (aW, .inl (cI, P * P, .inl w)), (aM, .inl (cB, P, .inl (fun z9 => bI (ms z9))))]) (pre := [(aE, .inr (2, [.ref aS, .ref aEW, .ref aEK, .int (nI (dr_un P ms i))])), (aEW, .inl (cI, P * P, .inl (dr_lw P ms w i (dr_LW P ms w tw i) j))), (aEK, .inl (cB, P * P, .inl (fun z9 => bI ((dr_lk P ms i (dr_LK P ms kn i) j) z9)))), (aS, .inr (0, [.int (nI P), .int (nI (P - 2)), .int (nI (P - 1)), .int (nI (P * (P - 2)))])), (aT, .inr (1, [.ref aS, .ref aW, .ref aM, .int (bI mk)])), (aW, .inl (cI, P * P, .inl w)), (aM, .inl (cB, P, .inl (fun z9 => bI (ms z9))))]) (tl := []) (G := fun (u : Unit) => [(aE, .inr (2, [.ref aS, .ref aEW, .ref aEK, .int (nI (dr_un P ms i))])), (aEW, .inl (cI, P * P, .inl (dr_lw P ms w i (dr_LW P ms w tw i) j))), (aEK, .inl (cB, P * P, .inl (fun z9 => bI ((dr_lk P ms i (dr_LK P ms kn i) j) z9)))), (aS, .inr (0, [.int (nI P), .int (nI (P - 2)), .int (nI (P - 1)), .int (nI (P * (P - 2)))])), (aT, .inr (1, [.ref aS, .ref aW, .ref aM, .int (bI mk)])), (aW, .inl (cI, P * P, .inl w)), (aM, .inl (cB, P, .inl (fun z9 => bI (ms z9))))]) (b := aS) (As := [.int (nI i), .int (nI j)]) (rst := []) ⟨hx, hb, hml, hown, hts⟩ (c_place l dC dI cI cB cQ cJ aS P i j ) (cwV 2 hts (gdV t_mX2_44 t_inst_X0_place t_sel_X0_place t_ini_X0 t_code_X0_place) rfl rfl rfl (by decide +kernel) ⟨Nat.le_of_ble_eq_true rfl, Nat.le_of_ble_eq_true rfl⟩) hK hP hD hS hA [3] [0, 1, 2, 4, 5, 6] [1, 2, 3, 0, 4, 5, 6] rfl (by decide) (fun _ => rfl) (by decide) (ci := 0) rfl rfl rfl rfl hl.1 rfl (Nat.le_of_ble_eq_true rfl) dX2_load_37 ⟨Nat.zero_le _, Nat.zero_le _⟩ (fun r u H locs hu7 hP hD hS => ?_)
              have hr37 := hu7
              have hr37 : r = nI (i * P + j) := hr37
              subst hr37
              have hP : va_P (dC, dI) vwCl [(aE, .inr (2, [.ref aS, .ref aEW, .ref aEK, .int (nI (dr_un P ms i))])), (aEW, .inl (cI, P * P, .inl (dr_lw P ms w i (dr_LW P ms w tw i) j))), (aEK, .inl (cB, P * P, .inl (fun z9 => bI ((dr_lk P ms i (dr_LK P ms kn i) j) z9)))), (aS, .inr (0, [.int (nI P), .int (nI (P - 2)), .int (nI (P - 1)), .int (nI (P * (P - 2)))])), (aT, .inr (1, [.ref aS, .ref aW, .ref aM, .int (bI mk)])), (aW, .inl (cI, P * P, .inl w)), (aM, .inl (cB, P, .inl (fun z9 => bI (ms z9))))] H := hP
              have hD : va_D A [(aE, .inr (2, [.ref aS, .ref aEW, .ref aEK, .int (nI (dr_un P ms i))])), (aEW, .inl (cI, P * P, .inl (dr_lw P ms w i (dr_LW P ms w tw i) j))), (aEK, .inl (cB, P * P, .inl (fun z9 => bI ((dr_lk P ms i (dr_LK P ms kn i) j) z9)))), (aS, .inr (0, [.int (nI P), .int (nI (P - 2)), .int (nI (P - 1)), .int (nI (P * (P - 2)))])), (aT, .inr (1, [.ref aS, .ref aW, .ref aM, .int (bI mk)])), (aW, .inl (cI, P * P, .inl w)), (aM, .inl (cB, P, .inl (fun z9 => bI (ms z9))))] := hD
              refine lv_istore hx hb dX2_load_40 hl (by decide) rfl (fun ls hl => ?_)
              have hl : lv_has ls 5 [(4, .int (nI (i * P + j))), (3, .int (nI j)), (2, .int (nI i)), (1, .ref aT), (0, .ref aE)] := hl
              refine lv_aload_n hx hb dX2_load_42 rfl (lv_at hl 4 rfl) ?_
              refine va_get (D := (dC, dI)) (ci := 2) (v := .ref aEK) (C := RX2) (T := TX2) (N := 4) hx hb hts inX2 hown hK hP 0 rfl rfl 2 (by decide) (hts _ t_fX2_23) (fun _ h9 => h9) rfl dX2_load_43 ?_
              refine lv_iload hx hb dX2_load_46 (lv_at hl 0 rfl) ?_
              refine lv_aload_n hx hb dX2_load_48 rfl (lv_at hl 3 rfl) ?_
              refine va_get (D := (dC, dI)) (ci := 1) (v := .ref aM) (C := RX1) (T := TX1) (N := 4) hx hb hts inX1 hown hK hP 4 rfl rfl 2 (by decide) (hts _ t_fX2_48) (fun _ h9 => h9) rfl dX2_load_49 ?_
              refine lv_iload_n hx hb dX2_load_52 rfl (lv_at hl 2 rfl) ?_
              refine x_zald (g := ms) hx hb hK hP 6 1 rfl rfl dX2_load_53 (by omega) (by omega) ?_
              refine x_ifT (tgt := 61) hx hb dX2_load_54 (by decide) (fun h54 => ?_) (fun h54 => ?_)
              · -- 54t
                refine lv_iconst (v := bI false) hx hb dX2_load_61 (by decide) ?_
                refine x_top (show bI false = bI (!ms i) from (by simp [h54])) ?_
                refine x_zast (g := dr_lk P ms i (dr_LK P ms kn i) j) hx hb hK hP hD hS 2 1 rfl rfl dX2_load_62 (dr_pl (by omega) (by omega)) (by omega) (fun H locs hP hD hS => ?_)
                have hP : va_P (dC, dI) vwCl [(aE, .inr (2, [.ref aS, .ref aEW, .ref aEK, .int (nI (dr_un P ms i))])), (aEW, .inl (cI, P * P, .inl (dr_lw P ms w i (dr_LW P ms w tw i) j))), (aEK, .inl (cB, P * P, .inl (fun z9 => bI ((dr_lk P ms i (dr_LK P ms kn i) (j + 1)) z9)))), (aS, .inr (0, [.int (nI P), .int (nI (P - 2)), .int (nI (P - 1)), .int (nI (P * (P - 2)))])), (aT, .inr (1, [.ref aS, .ref aW, .ref aM, .int (bI mk)])), (aW, .inl (cI, P * P, .inl w)), (aM, .inl (cB, P, .inl (fun z9 => bI (ms z9))))] H := hP
                have hD : va_D A [(aE, .inr (2, [.ref aS, .ref aEW, .ref aEK, .int (nI (dr_un P ms i))])), (aEW, .inl (cI, P * P, .inl (dr_lw P ms w i (dr_LW P ms w tw i) j))), (aEK, .inl (cB, P * P, .inl (fun z9 => bI ((dr_lk P ms i (dr_LK P ms kn i) (j + 1)) z9)))), (aS, .inr (0, [.int (nI P), .int (nI (P - 2)), .int (nI (P - 1)), .int (nI (P * (P - 2)))])), (aT, .inr (1, [.ref aS, .ref aW, .ref aM, .int (bI mk)])), (aW, .inl (cI, P * P, .inl w)), (aM, .inl (cB, P, .inl (fun z9 => bI (ms z9))))] := hD
                refine lv_aload_n hx hb dX2_load_63 rfl (lv_at hl 4 rfl) ?_
                refine va_get (D := (dC, dI)) (ci := 2) (v := .ref aEW) (C := RX2) (T := TX2) (N := 4) hx hb hts inX2 hown hK hP 0 rfl rfl 1 (by decide) (hts _ t_fX2_19) (fun _ h9 => h9) rfl dX2_load_64 ?_
                refine lv_iload hx hb dX2_load_67 (lv_at hl 0 rfl) ?_
                refine lv_aload_n hx hb dX2_load_69 rfl (lv_at hl 4 rfl) ?_
                refine va_get (D := (dC, dI)) (ci := 2) (v := .ref aEK) (C := RX2) (T := TX2) (N := 4) hx hb hts inX2 hown hK hP 0 rfl rfl 2 (by decide) (hts _ t_fX2_23) (fun _ h9 => h9) rfl dX2_load_70 ?_
                refine lv_iload hx hb dX2_load_73 (lv_at hl 0 rfl) ?_
                refine x_zald (g := dr_lk P ms i (dr_LK P ms kn i) (j + 1)) hx hb hK hP 2 1 rfl rfl dX2_load_75 (dr_pl (by omega) (by omega)) (by omega) ?_
                refine x_top (show bI ((dr_lk P ms i (dr_LK P ms kn i) (j + 1)) (i * P + j)) = bI (!ms i) from (by rw [dr_lk, va_up_s])) ?_
                refine x_ifF (tgt := 89) hx hb dX2_load_76 (by decide) (fun h76 => ?_) (fun h76 => ?_)
                · -- 76t
                  refine lv_iconst (v := 0) hx hb dX2_load_89 (by decide) ?_
                  refine x_top (show 0 = if ms i = true then 0 else w (i * P + j) from (by rw [if_pos (by simpa using h76)])) ?_
                  refine x_iast (f := dr_lw P ms w i (dr_LW P ms w tw i) j) hx hb hK hP hD hS 1 0 rfl rfl dX2_load_90 (dr_pl (by omega) (by omega)) (by omega) (fun H locs hP hD hS => ?_)
                  have hP : va_P (dC, dI) vwCl [(aE, .inr (2, [.ref aS, .ref aEW, .ref aEK, .int (nI (dr_un P ms i))])), (aEW, .inl (cI, P * P, .inl (dr_lw P ms w i (dr_LW P ms w tw i) (j + 1)))), (aEK, .inl (cB, P * P, .inl (fun z9 => bI ((dr_lk P ms i (dr_LK P ms kn i) (j + 1)) z9)))), (aS, .inr (0, [.int (nI P), .int (nI (P - 2)), .int (nI (P - 1)), .int (nI (P * (P - 2)))])), (aT, .inr (1, [.ref aS, .ref aW, .ref aM, .int (bI mk)])), (aW, .inl (cI, P * P, .inl w)), (aM, .inl (cB, P, .inl (fun z9 => bI (ms z9))))] H := hP
                  have hD : va_D A [(aE, .inr (2, [.ref aS, .ref aEW, .ref aEK, .int (nI (dr_un P ms i))])), (aEW, .inl (cI, P * P, .inl (dr_lw P ms w i (dr_LW P ms w tw i) (j + 1)))), (aEK, .inl (cB, P * P, .inl (fun z9 => bI ((dr_lk P ms i (dr_LK P ms kn i) (j + 1)) z9)))), (aS, .inr (0, [.int (nI P), .int (nI (P - 2)), .int (nI (P - 1)), .int (nI (P * (P - 2)))])), (aT, .inr (1, [.ref aS, .ref aW, .ref aM, .int (bI mk)])), (aW, .inl (cI, P * P, .inl w)), (aM, .inl (cB, P, .inl (fun z9 => bI (ms z9))))] := hD
                  refine lv_iinc (v := nI (j + 1)) hx hb dX2_load_91 hl (k := 1) rfl (x_inc _) (by decide) rfl (fun ls hl => ?_)
                  have hl : lv_has ls 5 [(3, .int (nI (j + 1))), (4, .int (nI (i * P + j))), (2, .int (nI i)), (1, .ref aT), (0, .ref aE)] := hl
                  refine lv_goto (tgt := 20) hx hb dX2_load_94 (by decide) ?_
                  exact ih20 (j + 1) ls H locs (by omega) (by omega) (lv_sub hl [0, 2, 3, 4] rfl) hP hD hS
                · -- 76f
                  refine lv_aload_n hx hb dX2_load_79 rfl (lv_at hl 3 rfl) ?_
                  refine va_get (D := (dC, dI)) (ci := 1) (v := .ref aW) (C := RX1) (T := TX1) (N := 4) hx hb hts inX1 hown hK hP 4 rfl rfl 1 (by decide) (hts _ t_fX2_53) (fun _ h9 => h9) rfl dX2_load_80 ?_
                  refine lv_iload hx hb dX2_load_83 (lv_at hl 0 rfl) ?_
                  refine x_iald (f := w) hx hb hK hP 5 0 rfl rfl dX2_load_85 (dr_pl (by omega) (by omega)) (by omega) ?_
                  refine x_top (show w (i * P + j) = if ms i = true then 0 else w (i * P + j) from (by rw [if_neg (by simpa using h76)])) ?_
                  refine lv_goto (tgt := 90) hx hb dX2_load_86 (by decide) ?_
                  refine x_iast (f := dr_lw P ms w i (dr_LW P ms w tw i) j) hx hb hK hP hD hS 1 0 rfl rfl dX2_load_90 (dr_pl (by omega) (by omega)) (by omega) (fun H locs hP hD hS => ?_)
                  have hP : va_P (dC, dI) vwCl [(aE, .inr (2, [.ref aS, .ref aEW, .ref aEK, .int (nI (dr_un P ms i))])), (aEW, .inl (cI, P * P, .inl (dr_lw P ms w i (dr_LW P ms w tw i) (j + 1)))), (aEK, .inl (cB, P * P, .inl (fun z9 => bI ((dr_lk P ms i (dr_LK P ms kn i) (j + 1)) z9)))), (aS, .inr (0, [.int (nI P), .int (nI (P - 2)), .int (nI (P - 1)), .int (nI (P * (P - 2)))])), (aT, .inr (1, [.ref aS, .ref aW, .ref aM, .int (bI mk)])), (aW, .inl (cI, P * P, .inl w)), (aM, .inl (cB, P, .inl (fun z9 => bI (ms z9))))] H := hP
                  have hD : va_D A [(aE, .inr (2, [.ref aS, .ref aEW, .ref aEK, .int (nI (dr_un P ms i))])), (aEW, .inl (cI, P * P, .inl (dr_lw P ms w i (dr_LW P ms w tw i) (j + 1)))), (aEK, .inl (cB, P * P, .inl (fun z9 => bI ((dr_lk P ms i (dr_LK P ms kn i) (j + 1)) z9)))), (aS, .inr (0, [.int (nI P), .int (nI (P - 2)), .int (nI (P - 1)), .int (nI (P * (P - 2)))])), (aT, .inr (1, [.ref aS, .ref aW, .ref aM, .int (bI mk)])), (aW, .inl (cI, P * P, .inl w)), (aM, .inl (cB, P, .inl (fun z9 => bI (ms z9))))] := hD
                  refine lv_iinc (v := nI (j + 1)) hx hb dX2_load_91 hl (k := 1) rfl (x_inc _) (by decide) rfl (fun ls hl => ?_)
                  have hl : lv_has ls 5 [(3, .int (nI (j + 1))), (4, .int (nI (i * P + j))), (2, .int (nI i)), (1, .ref aT), (0, .ref aE)] := hl
                  refine lv_goto (tgt := 20) hx hb dX2_load_94 (by decide) ?_
                  exact ih20 (j + 1) ls H locs (by omega) (by omega) (lv_sub hl [0, 2, 3, 4] rfl) hP hD hS
              · -- 54f
                refine lv_iconst (v := bI true) hx hb dX2_load_57 (by decide) ?_
                refine x_top (show bI true = bI (!ms i) from (by simp [h54])) ?_
                refine lv_goto (tgt := 62) hx hb dX2_load_58 (by decide) ?_
                refine x_zast (g := dr_lk P ms i (dr_LK P ms kn i) j) hx hb hK hP hD hS 2 1 rfl rfl dX2_load_62 (dr_pl (by omega) (by omega)) (by omega) (fun H locs hP hD hS => ?_)
                have hP : va_P (dC, dI) vwCl [(aE, .inr (2, [.ref aS, .ref aEW, .ref aEK, .int (nI (dr_un P ms i))])), (aEW, .inl (cI, P * P, .inl (dr_lw P ms w i (dr_LW P ms w tw i) j))), (aEK, .inl (cB, P * P, .inl (fun z9 => bI ((dr_lk P ms i (dr_LK P ms kn i) (j + 1)) z9)))), (aS, .inr (0, [.int (nI P), .int (nI (P - 2)), .int (nI (P - 1)), .int (nI (P * (P - 2)))])), (aT, .inr (1, [.ref aS, .ref aW, .ref aM, .int (bI mk)])), (aW, .inl (cI, P * P, .inl w)), (aM, .inl (cB, P, .inl (fun z9 => bI (ms z9))))] H := hP
                have hD : va_D A [(aE, .inr (2, [.ref aS, .ref aEW, .ref aEK, .int (nI (dr_un P ms i))])), (aEW, .inl (cI, P * P, .inl (dr_lw P ms w i (dr_LW P ms w tw i) j))), (aEK, .inl (cB, P * P, .inl (fun z9 => bI ((dr_lk P ms i (dr_LK P ms kn i) (j + 1)) z9)))), (aS, .inr (0, [.int (nI P), .int (nI (P - 2)), .int (nI (P - 1)), .int (nI (P * (P - 2)))])), (aT, .inr (1, [.ref aS, .ref aW, .ref aM, .int (bI mk)])), (aW, .inl (cI, P * P, .inl w)), (aM, .inl (cB, P, .inl (fun z9 => bI (ms z9))))] := hD
                refine lv_aload_n hx hb dX2_load_63 rfl (lv_at hl 4 rfl) ?_
                refine va_get (D := (dC, dI)) (ci := 2) (v := .ref aEW) (C := RX2) (T := TX2) (N := 4) hx hb hts inX2 hown hK hP 0 rfl rfl 1 (by decide) (hts _ t_fX2_19) (fun _ h9 => h9) rfl dX2_load_64 ?_
                refine lv_iload hx hb dX2_load_67 (lv_at hl 0 rfl) ?_
                refine lv_aload_n hx hb dX2_load_69 rfl (lv_at hl 4 rfl) ?_
                refine va_get (D := (dC, dI)) (ci := 2) (v := .ref aEK) (C := RX2) (T := TX2) (N := 4) hx hb hts inX2 hown hK hP 0 rfl rfl 2 (by decide) (hts _ t_fX2_23) (fun _ h9 => h9) rfl dX2_load_70 ?_
                refine lv_iload hx hb dX2_load_73 (lv_at hl 0 rfl) ?_
                refine x_zald (g := dr_lk P ms i (dr_LK P ms kn i) (j + 1)) hx hb hK hP 2 1 rfl rfl dX2_load_75 (dr_pl (by omega) (by omega)) (by omega) ?_
                refine x_top (show bI ((dr_lk P ms i (dr_LK P ms kn i) (j + 1)) (i * P + j)) = bI (!ms i) from (by rw [dr_lk, va_up_s])) ?_
                refine x_ifF (tgt := 89) hx hb dX2_load_76 (by decide) (fun h76 => ?_) (fun h76 => ?_)
                · -- 76t
                  refine lv_iconst (v := 0) hx hb dX2_load_89 (by decide) ?_
                  refine x_top (show 0 = if ms i = true then 0 else w (i * P + j) from (by rw [if_pos (by simpa using h76)])) ?_
                  refine x_iast (f := dr_lw P ms w i (dr_LW P ms w tw i) j) hx hb hK hP hD hS 1 0 rfl rfl dX2_load_90 (dr_pl (by omega) (by omega)) (by omega) (fun H locs hP hD hS => ?_)
                  have hP : va_P (dC, dI) vwCl [(aE, .inr (2, [.ref aS, .ref aEW, .ref aEK, .int (nI (dr_un P ms i))])), (aEW, .inl (cI, P * P, .inl (dr_lw P ms w i (dr_LW P ms w tw i) (j + 1)))), (aEK, .inl (cB, P * P, .inl (fun z9 => bI ((dr_lk P ms i (dr_LK P ms kn i) (j + 1)) z9)))), (aS, .inr (0, [.int (nI P), .int (nI (P - 2)), .int (nI (P - 1)), .int (nI (P * (P - 2)))])), (aT, .inr (1, [.ref aS, .ref aW, .ref aM, .int (bI mk)])), (aW, .inl (cI, P * P, .inl w)), (aM, .inl (cB, P, .inl (fun z9 => bI (ms z9))))] H := hP
                  have hD : va_D A [(aE, .inr (2, [.ref aS, .ref aEW, .ref aEK, .int (nI (dr_un P ms i))])), (aEW, .inl (cI, P * P, .inl (dr_lw P ms w i (dr_LW P ms w tw i) (j + 1)))), (aEK, .inl (cB, P * P, .inl (fun z9 => bI ((dr_lk P ms i (dr_LK P ms kn i) (j + 1)) z9)))), (aS, .inr (0, [.int (nI P), .int (nI (P - 2)), .int (nI (P - 1)), .int (nI (P * (P - 2)))])), (aT, .inr (1, [.ref aS, .ref aW, .ref aM, .int (bI mk)])), (aW, .inl (cI, P * P, .inl w)), (aM, .inl (cB, P, .inl (fun z9 => bI (ms z9))))] := hD
                  refine lv_iinc (v := nI (j + 1)) hx hb dX2_load_91 hl (k := 1) rfl (x_inc _) (by decide) rfl (fun ls hl => ?_)
                  have hl : lv_has ls 5 [(3, .int (nI (j + 1))), (4, .int (nI (i * P + j))), (2, .int (nI i)), (1, .ref aT), (0, .ref aE)] := hl
                  refine lv_goto (tgt := 20) hx hb dX2_load_94 (by decide) ?_
                  exact ih20 (j + 1) ls H locs (by omega) (by omega) (lv_sub hl [0, 2, 3, 4] rfl) hP hD hS
                · -- 76f
                  refine lv_aload_n hx hb dX2_load_79 rfl (lv_at hl 3 rfl) ?_
                  refine va_get (D := (dC, dI)) (ci := 1) (v := .ref aW) (C := RX1) (T := TX1) (N := 4) hx hb hts inX1 hown hK hP 4 rfl rfl 1 (by decide) (hts _ t_fX2_53) (fun _ h9 => h9) rfl dX2_load_80 ?_
                  refine lv_iload hx hb dX2_load_83 (lv_at hl 0 rfl) ?_
                  refine x_iald (f := w) hx hb hK hP 5 0 rfl rfl dX2_load_85 (dr_pl (by omega) (by omega)) (by omega) ?_
                  refine x_top (show w (i * P + j) = if ms i = true then 0 else w (i * P + j) from (by rw [if_neg (by simpa using h76)])) ?_
                  refine lv_goto (tgt := 90) hx hb dX2_load_86 (by decide) ?_
                  refine x_iast (f := dr_lw P ms w i (dr_LW P ms w tw i) j) hx hb hK hP hD hS 1 0 rfl rfl dX2_load_90 (dr_pl (by omega) (by omega)) (by omega) (fun H locs hP hD hS => ?_)
                  have hP : va_P (dC, dI) vwCl [(aE, .inr (2, [.ref aS, .ref aEW, .ref aEK, .int (nI (dr_un P ms i))])), (aEW, .inl (cI, P * P, .inl (dr_lw P ms w i (dr_LW P ms w tw i) (j + 1)))), (aEK, .inl (cB, P * P, .inl (fun z9 => bI ((dr_lk P ms i (dr_LK P ms kn i) (j + 1)) z9)))), (aS, .inr (0, [.int (nI P), .int (nI (P - 2)), .int (nI (P - 1)), .int (nI (P * (P - 2)))])), (aT, .inr (1, [.ref aS, .ref aW, .ref aM, .int (bI mk)])), (aW, .inl (cI, P * P, .inl w)), (aM, .inl (cB, P, .inl (fun z9 => bI (ms z9))))] H := hP
                  have hD : va_D A [(aE, .inr (2, [.ref aS, .ref aEW, .ref aEK, .int (nI (dr_un P ms i))])), (aEW, .inl (cI, P * P, .inl (dr_lw P ms w i (dr_LW P ms w tw i) (j + 1)))), (aEK, .inl (cB, P * P, .inl (fun z9 => bI ((dr_lk P ms i (dr_LK P ms kn i) (j + 1)) z9)))), (aS, .inr (0, [.int (nI P), .int (nI (P - 2)), .int (nI (P - 1)), .int (nI (P * (P - 2)))])), (aT, .inr (1, [.ref aS, .ref aW, .ref aM, .int (bI mk)])), (aW, .inl (cI, P * P, .inl w)), (aM, .inl (cB, P, .inl (fun z9 => bI (ms z9))))] := hD
                  refine lv_iinc (v := nI (j + 1)) hx hb dX2_load_91 hl (k := 1) rfl (x_inc _) (by decide) rfl (fun ls hl => ?_)
                  have hl : lv_has ls 5 [(3, .int (nI (j + 1))), (4, .int (nI (i * P + j))), (2, .int (nI i)), (1, .ref aT), (0, .ref aE)] := hl
                  refine lv_goto (tgt := 20) hx hb dX2_load_94 (by decide) ?_
                  exact ih20 (j + 1) ls H locs (by omega) (by omega) (lv_sub hl [0, 2, 3, 4] rfl) hP hD hS
        have e8 : (dr_lw P ms w i (dr_LW P ms w tw i) 0) = (dr_LW P ms w tw i) := by first | rfl | (simp [h15]; done) | (simp [h15]; omega)
        have e9 : (dr_lk P ms i (dr_LK P ms kn i) 0) = (dr_LK P ms kn i) := by first | rfl | (simp [h15]; done) | (simp [h15]; omega)
        exact lp20 (P - 0 + 1) 0 ls H locs (by omega) (by omega) (lv_sub hl [0, 1, 2, 3] rfl) (by rw [e8, e9]; exact hP) (by rw [e8, e9]; exact hD) hS
  have e10 : (nI (dr_un P ms 0)) = (nI 0) := by first | rfl | (simp [dr_un]; done) | (simp [dr_un]; omega)
  have e11 : (dr_LW P ms w tw 0) = tw := by first | rfl | (simp [dr_un]; done) | (simp [dr_un]; omega)
  have e12 : (dr_LK P ms kn 0) = kn := by first | rfl | (simp [dr_un]; done) | (simp [dr_un]; omega)
  exact lp7 (P - 0 + 1) 0 ls H locs (by omega) (by omega) (lv_sub hl [0, 2, 1] rfl) (by rw [e10, e11, e12]; exact hP) (by rw [e10, e11, e12]; exact hD) hS

abbrev rm_c_tell : Room := { frames := 3, cells := 0, slots := 0, locals := 73 }
set_option maxHeartbeats 4000000 in
set_option maxRecDepth 100000 in
theorem c_tell (l : Launch) (dC : Nat → ClassId) (dI : Nat → Nat → Nat) (cI cB cQ cJ : ClassId) (aE : Nat) (aS : Nat) (aEW : Nat) (aEK : Nat) (P : Nat) (tw : Nat → Int32) (kn : Nat → Bool) (un : Int32) (aT : Nat) (aW : Nat) (aM : Nat) (w : Nat → Int32) (ms : Nat → Bool) (mk : Bool) (hp5 : dr_P P) : MV l yX2_tell (Cond.code yX2_tell cX2_tell 5 none :: TB) rm_c_tell (dC, dI) vwCl (TY cI cB cQ cJ) [.ref aE, .ref aT] [(aE, .inr (2, [.ref aS, .ref aEW, .ref aEK, .int un])), (aEW, .inl (cI, P * P, .inl tw)), (aEK, .inl (cB, P * P, .inl (fun z9 => bI (kn z9)))), (aS, .inr (0, [.int (nI P), .int (nI (P - 2)), .int (nI (P - 1)), .int (nI (P * (P - 2)))])), (aT, .inr (1, [.ref aS, .ref aW, .ref aM, .int (bI mk)])), (aW, .inl (cI, P * P, .inl w)), (aM, .inl (cB, P, .inl (fun z9 => bI (ms z9))))] (fun (u : Unit) => True) (fun (u : Unit) => [(aE, .inr (2, [.ref aS, .ref aEW, .ref aEK, .int ((dr_tell P ms w kn tw).2.2)])), (aEW, .inl (cI, P * P, .inl ((dr_tell P ms w kn tw).2.1))), (aEK, .inl (cB, P * P, .inl (fun z9 => bI (((dr_tell P ms w kn tw).1) z9)))), (aS, .inr (0, [.int (nI P), .int (nI (P - 2)), .int (nI (P - 1)), .int (nI (P * (P - 2)))])), (aT, .inr (1, [.ref aS, .ref aW, .ref aM, .int (bI mk)])), (aW, .inl (cI, P * P, .inl w)), (aM, .inl (cB, P, .inl (fun z9 => bI (ms z9))))]) := by
  refine MV.ofW (cc := cX2_tell) (maxL := 5) (by decide +kernel) rfl (Nat.le_of_ble_eq_true rfl) ?_
  intro p e s m args below meth c A ls Q H locs hQ hx hb hml hr hlk hts hown hK hP hD hS hA hl
  have hts : ∀ w ∈ TB, w.before args s = true := fun w h => hts w (List.mem_cons_of_mem _ h)
  have hown : s.vm.findClass RX2 = some m.cls := hown
  have hl : lv_has ls 5 [(0, .ref aE), (1, .ref aT)] := hl
  have hP : va_P (dC, dI) vwCl [(aE, .inr (2, [.ref aS, .ref aEW, .ref aEK, .int un])), (aEW, .inl (cI, P * P, .inl tw)), (aEK, .inl (cB, P * P, .inl (fun z9 => bI (kn z9)))), (aS, .inr (0, [.int (nI P), .int (nI (P - 2)), .int (nI (P - 1)), .int (nI (P * (P - 2)))])), (aT, .inr (1, [.ref aS, .ref aW, .ref aM, .int (bI mk)])), (aW, .inl (cI, P * P, .inl w)), (aM, .inl (cB, P, .inl (fun z9 => bI (ms z9))))] H := hP
  have hD : va_D A [(aE, .inr (2, [.ref aS, .ref aEW, .ref aEK, .int un])), (aEW, .inl (cI, P * P, .inl tw)), (aEK, .inl (cB, P * P, .inl (fun z9 => bI (kn z9)))), (aS, .inr (0, [.int (nI P), .int (nI (P - 2)), .int (nI (P - 1)), .int (nI (P * (P - 2)))])), (aT, .inr (1, [.ref aS, .ref aW, .ref aM, .int (bI mk)])), (aW, .inl (cI, P * P, .inl w)), (aM, .inl (cB, P, .inl (fun z9 => bI (ms z9))))] := hD
  have hp := hp5.le
  have hpp := dr_PP hp5
  have hpq := dr_PP2 hp5
  have hun := dr_un_le P ms P
  refine lv_aload_n hx hb dX2_tell_0 rfl (lv_at hl 0 rfl) ?_
  refine lv_aload_n hx hb dX2_tell_1 rfl (lv_at hl 1 rfl) ?_
  refine gVv (wr := []) (pre := [(aE, .inr (2, [.ref aS, .ref aEW, .ref aEK, .int un])), (aEW, .inl (cI, P * P, .inl tw)), (aEK, .inl (cB, P * P, .inl (fun z9 => bI (kn z9)))), (aS, .inr (0, [.int (nI P), .int (nI (P - 2)), .int (nI (P - 1)), .int (nI (P * (P - 2)))])), (aT, .inr (1, [.ref aS, .ref aW, .ref aM, .int (bI mk)])), (aW, .inl (cI, P * P, .inl w)), (aM, .inl (cB, P, .inl (fun z9 => bI (ms z9))))]) (tl := []) (G := fun (u : Unit) => [(aE, .inr (2, [.ref aS, .ref aEW, .ref aEK, .int (nI (dr_un P ms P))])), (aEW, .inl (cI, P * P, .inl (dr_LW P ms w tw P))), (aEK, .inl (cB, P * P, .inl (fun z9 => bI ((dr_LK P ms kn P) z9)))), (aS, .inr (0, [.int (nI P), .int (nI (P - 2)), .int (nI (P - 1)), .int (nI (P * (P - 2)))])), (aT, .inr (1, [.ref aS, .ref aW, .ref aM, .int (bI mk)])), (aW, .inl (cI, P * P, .inl w)), (aM, .inl (cB, P, .inl (fun z9 => bI (ms z9))))]) (b := aE) (As := [.ref aT]) (rst := []) ⟨hx, hb, hml, hown, hts⟩ (c_load l dC dI cI cB cQ cJ aE aS aEW aEK P tw kn un aT aW aM w ms mk hp5) (cwV 1 hts (gdV t_mX2_27 t_inst_X2_load t_sel_X2_load t_ini_X2 t_code_X2_load) rfl rfl rfl (by decide +kernel) ⟨Nat.le_of_ble_eq_true rfl, Nat.le_of_ble_eq_true rfl⟩) hK hP hD hS hA [0, 1, 2, 3, 4, 5, 6] [] [0, 1, 2, 3, 4, 5, 6] rfl (by decide) (fun _ => rfl) (by decide) (ci := 2) rfl rfl rfl rfl hl.1 rfl (Nat.le_of_ble_eq_true rfl) dX2_tell_2 ⟨Nat.zero_le _, Nat.zero_le _⟩ (fun u H locs hu1 hP hD hS => ?_)
  have hP : va_P (dC, dI) vwCl [(aE, .inr (2, [.ref aS, .ref aEW, .ref aEK, .int (nI (dr_un P ms P))])), (aEW, .inl (cI, P * P, .inl (dr_LW P ms w tw P))), (aEK, .inl (cB, P * P, .inl (fun z9 => bI ((dr_LK P ms kn P) z9)))), (aS, .inr (0, [.int (nI P), .int (nI (P - 2)), .int (nI (P - 1)), .int (nI (P * (P - 2)))])), (aT, .inr (1, [.ref aS, .ref aW, .ref aM, .int (bI mk)])), (aW, .inl (cI, P * P, .inl w)), (aM, .inl (cB, P, .inl (fun z9 => bI (ms z9))))] H := hP
  have hD : va_D A [(aE, .inr (2, [.ref aS, .ref aEW, .ref aEK, .int (nI (dr_un P ms P))])), (aEW, .inl (cI, P * P, .inl (dr_LW P ms w tw P))), (aEK, .inl (cB, P * P, .inl (fun z9 => bI ((dr_LK P ms kn P) z9)))), (aS, .inr (0, [.int (nI P), .int (nI (P - 2)), .int (nI (P - 1)), .int (nI (P * (P - 2)))])), (aT, .inr (1, [.ref aS, .ref aW, .ref aM, .int (bI mk)])), (aW, .inl (cI, P * P, .inl w)), (aM, .inl (cB, P, .inl (fun z9 => bI (ms z9))))] := hD
  refine lv_aload_n hx hb dX2_tell_5 rfl (lv_at hl 0 rfl) ?_
  refine va_get (D := (dC, dI)) (ci := 2) (v := .int (nI (dr_un P ms P))) (C := RX2) (T := TX2) (N := 4) hx hb hts inX2 hown hK hP 0 rfl rfl 3 (by decide) (hts _ t_fX2_31) (fun _ h9 => h9) rfl dX2_tell_6 ?_
  refine x_top (show nI (dr_un P ms P) = nI (dr_un P ms P) from rfl) ?_
  refine lv_istore_n hx hb dX2_tell_9 rfl hl (by decide) rfl (fun ls hl => ?_)
  have hl : lv_has ls 5 [(2, .int (nI (dr_un P ms P))), (0, .ref aE), (1, .ref aT)] := hl
  refine lv_iconst (v := nI 0) hx hb dX2_tell_10 (by decide) ?_
  refine lv_istore_n hx hb dX2_tell_11 rfl hl (by decide) rfl (fun ls hl => ?_)
  have hl : lv_has ls 5 [(3, .int (nI 0)), (2, .int (nI (dr_un P ms P))), (0, .ref aE), (1, .ref aT)] := hl
  have lp12 : ∀ (n9 : Nat) (i : Nat) (x : dr_T) (ls : Array Slot) (H : Heap) (locs : List Loc), dr_un P ms P - i < n9 → (i ≤ dr_un P ms P) → (dr_tl P (dr_un P ms P - i) x = dr_tell P ms w kn tw) → lv_has ls 5 [(3, .int (nI i)), (2, .int (nI (dr_un P ms P))), (1, .ref aT), (0, .ref aE)] → va_P (dC, dI) vwCl [(aE, .inr (2, [.ref aS, .ref aEW, .ref aEK, .int x.2.2])), (aEW, .inl (cI, P * P, .inl x.2.1)), (aEK, .inl (cB, P * P, .inl (fun z9 => bI (x.1 z9)))), (aS, .inr (0, [.int (nI P), .int (nI (P - 2)), .int (nI (P - 1)), .int (nI (P * (P - 2)))])), (aT, .inr (1, [.ref aS, .ref aW, .ref aM, .int (bI mk)])), (aW, .inl (cI, P * P, .inl w)), (aM, .inl (cB, P, .inl (fun z9 => bI (ms z9))))] H → va_D A [(aE, .inr (2, [.ref aS, .ref aEW, .ref aEK, .int x.2.2])), (aEW, .inl (cI, P * P, .inl x.2.1)), (aEK, .inl (cB, P * P, .inl (fun z9 => bI (x.1 z9)))), (aS, .inr (0, [.int (nI P), .int (nI (P - 2)), .int (nI (P - 1)), .int (nI (P * (P - 2)))])), (aT, .inr (1, [.ref aS, .ref aW, .ref aM, .int (bI mk)])), (aW, .inl (cI, P * P, .inl w)), (aM, .inl (cB, P, .inl (fun z9 => bI (ms z9))))] → va_S A s.heap H locs → W p l e rm_c_tell s m args below meth c H locs 0 0 Q (F0 m 12 ls []) := by
    intro n9
    induction n9 with
    | zero => intro i x ls H locs hn9; omega
    | succ n9 ih12 =>
      intro i x ls H locs hn9 hi hx9 hl hP hD hS
      refine lv_iload_n hx hb dX2_tell_12 rfl (lv_at hl 0 rfl) ?_
      refine lv_iload_n hx hb dX2_tell_13 rfl (lv_at hl 1 rfl) ?_
      refine x_cge (tgt := 77) hx hb dX2_tell_14 (by decide) (by omega) (by omega) (fun h14 => ?_) (fun h14 => ?_)
      · -- 14t
        have e2 : ((dr_tell P ms w kn tw).2.2) = x.2.2 := by first | (rw [← hx9, show dr_un P ms P - i = 0 by omega]; rfl) | (rw [← hx9, dr_tl_stop (Int32.not_lt.mpr h21)])
        have e3 : ((dr_tell P ms w kn tw).2.1) = x.2.1 := by first | (rw [← hx9, show dr_un P ms P - i = 0 by omega]; rfl) | (rw [← hx9, dr_tl_stop (Int32.not_lt.mpr h21)])
        have e4 : ((dr_tell P ms w kn tw).1) = x.1 := by first | (rw [← hx9, show dr_un P ms P - i = 0 by omega]; rfl) | (rw [← hx9, dr_tl_stop (Int32.not_lt.mpr h21)])
        exact x_vret (D := (dC, dI)) (cl := vwCl) (A := A) () hQ hx hb hr hlk (by rw [e2, e3, e4]; exact hP) (by rw [e2, e3, e4]; exact hD) hS dX2_tell_77 trivial
      · -- 14f
        refine lv_aload_n hx hb dX2_tell_17 rfl (lv_at hl 3 rfl) ?_
        refine va_get (D := (dC, dI)) (ci := 2) (v := .int x.2.2) (C := RX2) (T := TX2) (N := 4) hx hb hts inX2 hown hK hP 0 rfl rfl 3 (by decide) (hts _ t_fX2_31) (fun _ h9 => h9) rfl dX2_tell_18 ?_
        refine lv_if_le (tgt := 77) hx hb dX2_tell_21 (by decide) (fun h21 => ?_) (fun h21 => ?_)
        · -- 21t
          have e5 : ((dr_tell P ms w kn tw).2.2) = x.2.2 := by first | (rw [← hx9, show dr_un P ms P - i = 0 by omega]; rfl) | (rw [← hx9, dr_tl_stop (Int32.not_lt.mpr h21)])
          have e6 : ((dr_tell P ms w kn tw).2.1) = x.2.1 := by first | (rw [← hx9, show dr_un P ms P - i = 0 by omega]; rfl) | (rw [← hx9, dr_tl_stop (Int32.not_lt.mpr h21)])
          have e7 : ((dr_tell P ms w kn tw).1) = x.1 := by first | (rw [← hx9, show dr_un P ms P - i = 0 by omega]; rfl) | (rw [← hx9, dr_tl_stop (Int32.not_lt.mpr h21)])
          exact x_vret (D := (dC, dI)) (cl := vwCl) (A := A) () hQ hx hb hr hlk (by rw [e5, e6, e7]; exact hP) (by rw [e5, e6, e7]; exact hD) hS dX2_tell_77 trivial
        · -- 21f
          refine lv_iconst (v := nI 0) hx hb dX2_tell_24 (by decide) ?_
          refine lv_istore hx hb dX2_tell_25 hl (by decide) rfl (fun ls hl => ?_)
          have hl : lv_has ls 5 [(4, .int (nI 0)), (3, .int (nI i)), (2, .int (nI (dr_un P ms P))), (1, .ref aT), (0, .ref aE)] := hl
          have lp27 : ∀ (n9 : Nat) (j : Nat) (ls : Array Slot) (H : Heap) (locs : List Loc), P - j < n9 → (j ≤ P) → lv_has ls 5 [(4, .int (nI j)), (3, .int (nI i)), (2, .int (nI (dr_un P ms P))), (1, .ref aT), (0, .ref aE)] → va_P (dC, dI) vwCl [(aE, .inr (2, [.ref aS, .ref aEW, .ref aEK, .int ((dr_rd P x j).2.2)])), (aEW, .inl (cI, P * P, .inl ((dr_rd P x j).2.1))), (aEK, .inl (cB, P * P, .inl (fun z9 => bI (((dr_rd P x j).1) z9)))), (aS, .inr (0, [.int (nI P), .int (nI (P - 2)), .int (nI (P - 1)), .int (nI (P * (P - 2)))])), (aT, .inr (1, [.ref aS, .ref aW, .ref aM, .int (bI mk)])), (aW, .inl (cI, P * P, .inl w)), (aM, .inl (cB, P, .inl (fun z9 => bI (ms z9))))] H → va_D A [(aE, .inr (2, [.ref aS, .ref aEW, .ref aEK, .int ((dr_rd P x j).2.2)])), (aEW, .inl (cI, P * P, .inl ((dr_rd P x j).2.1))), (aEK, .inl (cB, P * P, .inl (fun z9 => bI (((dr_rd P x j).1) z9)))), (aS, .inr (0, [.int (nI P), .int (nI (P - 2)), .int (nI (P - 1)), .int (nI (P * (P - 2)))])), (aT, .inr (1, [.ref aS, .ref aW, .ref aM, .int (bI mk)])), (aW, .inl (cI, P * P, .inl w)), (aM, .inl (cB, P, .inl (fun z9 => bI (ms z9))))] → va_S A s.heap H locs → W p l e rm_c_tell s m args below meth c H locs 0 0 Q (F0 m 27 ls []) := by
            intro n9
            induction n9 with
            | zero => intro j ls H locs hn9; omega
            | succ n9 ih27 =>
              intro j ls H locs hn9 hj hl hP hD hS
              refine lv_iload hx hb dX2_tell_27 (lv_at hl 0 rfl) ?_
              refine lv_aload_n hx hb dX2_tell_29 rfl (lv_at hl 4 rfl) ?_
              refine va_get (D := (dC, dI)) (ci := 2) (v := .ref aS) (C := RX2) (T := TX2) (N := 4) hx hb hts inX2 hown hK hP 0 rfl rfl 0 (by decide) (hts _ t_fX2_7) (fun _ h9 => h9) rfl dX2_tell_30 ?_
              refine va_get (D := (dC, dI)) (ci := 0) (v := .int (nI P)) (C := RX0) (T := TX0) (N := 4) hx hb hts inX0 hown hK hP 3 rfl rfl 0 (by decide) (hts _ t_fX2_13) (fun _ h9 => h9) rfl dX2_tell_33 ?_
              refine x_cge (tgt := 71) hx hb dX2_tell_36 (by decide) (by omega) (by omega) (fun h36 => ?_) (fun h36 => ?_)
              · -- 36t
                have hie36 : j = P := by omega
                try rw [hie36] at hl
                try rw [hie36] at hP
                try rw [hie36] at hD
                have hl : lv_has ls 5 [(4, .int (nI P)), (3, .int (nI i)), (2, .int (nI (dr_un P ms P))), (1, .ref aT), (0, .ref aE)] := hl
                have hP : va_P (dC, dI) vwCl [(aE, .inr (2, [.ref aS, .ref aEW, .ref aEK, .int ((dr_rd P x P).2.2)])), (aEW, .inl (cI, P * P, .inl ((dr_rd P x P).2.1))), (aEK, .inl (cB, P * P, .inl (fun z9 => bI (((dr_rd P x P).1) z9)))), (aS, .inr (0, [.int (nI P), .int (nI (P - 2)), .int (nI (P - 1)), .int (nI (P * (P - 2)))])), (aT, .inr (1, [.ref aS, .ref aW, .ref aM, .int (bI mk)])), (aW, .inl (cI, P * P, .inl w)), (aM, .inl (cB, P, .inl (fun z9 => bI (ms z9))))] H := hP
                have hD : va_D A [(aE, .inr (2, [.ref aS, .ref aEW, .ref aEK, .int ((dr_rd P x P).2.2)])), (aEW, .inl (cI, P * P, .inl ((dr_rd P x P).2.1))), (aEK, .inl (cB, P * P, .inl (fun z9 => bI (((dr_rd P x P).1) z9)))), (aS, .inr (0, [.int (nI P), .int (nI (P - 2)), .int (nI (P - 1)), .int (nI (P * (P - 2)))])), (aT, .inr (1, [.ref aS, .ref aW, .ref aM, .int (bI mk)])), (aW, .inl (cI, P * P, .inl w)), (aM, .inl (cB, P, .inl (fun z9 => bI (ms z9))))] := hD
                refine lv_iinc (v := nI (i + 1)) hx hb dX2_tell_71 hl (k := 1) rfl (x_inc _) (by decide) rfl (fun ls hl => ?_)
                have hl : lv_has ls 5 [(3, .int (nI (i + 1))), (4, .int (nI P)), (2, .int (nI (dr_un P ms P))), (1, .ref aT), (0, .ref aE)] := hl
                refine lv_goto (tgt := 12) hx hb dX2_tell_74 (by decide) ?_
                exact ih12 (i + 1) (dr_rd P x P) ls H locs (by omega) (by omega) (by first | rfl | (rw [← hx9, show dr_un P ms P - i = (dr_un P ms P - (i + 1)) + 1 by omega, dr_tl, if_pos (Int32.not_le.mp h21)])) (lv_sub hl [0, 2, 3, 4] rfl) hP hD hS
              · -- 36f
                refine lv_aload_n hx hb dX2_tell_39 rfl (lv_at hl 4 rfl) ?_
                refine lv_iload hx hb dX2_tell_40 (lv_at hl 0 rfl) ?_
                refine lv_aload_n hx hb dX2_tell_42 rfl (lv_at hl 4 rfl) ?_
                refine va_get (D := (dC, dI)) (ci := 2) (v := .ref aS) (C := RX2) (T := TX2) (N := 4) hx hb hts inX2 hown hK hP 0 rfl rfl 0 (by decide) (hts _ t_fX2_7) (fun _ h9 => h9) rfl dX2_tell_43 ?_
                refine va_get (D := (dC, dI)) (ci := 0) (v := .int (nI (P - 2))) (C := RX0) (T := TX0) (N := 4) hx hb hts inX0 hown hK hP 3 rfl rfl 1 (by decide) (hts _ t_fX2_34) (fun _ h9 => h9) rfl dX2_tell_46 ?_
                refine gVv (wr := [(aT, .inr (1, [.ref aS, .ref aW, .ref aM, .int (bI mk)])), (aW, .inl (cI, P * P, .inl w)), (aM, .inl (cB, P, .inl (fun z9 => bI (ms z9))))]) (pre := [(aE, .inr (2, [.ref aS, .ref aEW, .ref aEK, .int ((dr_rd P x j).2.2)])), (aEW, .inl (cI, P * P, .inl ((dr_rd P x j).2.1))), (aEK, .inl (cB, P * P, .inl (fun z9 => bI (((dr_rd P x j).1) z9)))), (aS, .inr (0, [.int (nI P), .int (nI (P - 2)), .int (nI (P - 1)), .int (nI (P * (P - 2)))])), (aT, .inr (1, [.ref aS, .ref aW, .ref aM, .int (bI mk)])), (aW, .inl (cI, P * P, .inl w)), (aM, .inl (cB, P, .inl (fun z9 => bI (ms z9))))]) (tl := []) (G := fun (u : Unit) => [(aE, .inr (2, [.ref aS, .ref aEW, .ref aEK, .int ((dr_st P j (P - 2) (((dr_rd P x j).1), ((dr_rd P x j).2.1), ((dr_rd P x j).2.2))).2.2)])), (aEW, .inl (cI, P * P, .inl ((dr_st P j (P - 2) (((dr_rd P x j).1), ((dr_rd P x j).2.1), ((dr_rd P x j).2.2))).2.1))), (aEK, .inl (cB, P * P, .inl (fun z9 => bI (((dr_st P j (P - 2) (((dr_rd P x j).1), ((dr_rd P x j).2.1), ((dr_rd P x j).2.2))).1) z9)))), (aS, .inr (0, [.int (nI P), .int (nI (P - 2)), .int (nI (P - 1)), .int (nI (P * (P - 2)))])), (aT, .inr (1, [.ref aS, .ref aW, .ref aM, .int (bI mk)])), (aW, .inl (cI, P * P, .inl w)), (aM, .inl (cB, P, .inl (fun z9 => bI (ms z9))))]) (b := aE) (As := [.int (nI j), .int (nI (P - 2))]) (rst := []) ⟨hx, hb, hml, hown, hts⟩ (c_settle l dC dI cI cB cQ cJ aE aS aEW aEK P ((dr_rd P x j).2.1) ((dr_rd P x j).1) ((dr_rd P x j).2.2) j (P - 2) hp5 (by omega) (Or.inl rfl)) (cwV 2 hts (gdV t_mX2_37 t_inst_X2_settle t_sel_X2_settle t_ini_X2 t_code_X2_settle) rfl rfl rfl (by decide +kernel) ⟨Nat.le_of_ble_eq_true rfl, Nat.le_of_ble_eq_true rfl⟩) hK hP hD hS hA [0, 1, 2, 3] [4, 5, 6] [0, 1, 2, 3, 4, 5, 6] rfl (by decide) (fun _ => rfl) (by decide) (ci := 2) rfl rfl rfl rfl hl.1 rfl (Nat.le_of_ble_eq_true rfl) dX2_tell_49 ⟨Nat.zero_le _, Nat.zero_le _⟩ (fun u H locs hu8 hP hD hS => ?_)
                have hP : va_P (dC, dI) vwCl [(aE, .inr (2, [.ref aS, .ref aEW, .ref aEK, .int ((dr_st P j (P - 2) (dr_rd P x j)).2.2)])), (aEW, .inl (cI, P * P, .inl ((dr_st P j (P - 2) (dr_rd P x j)).2.1))), (aEK, .inl (cB, P * P, .inl (fun z9 => bI (((dr_st P j (P - 2) (dr_rd P x j)).1) z9)))), (aS, .inr (0, [.int (nI P), .int (nI (P - 2)), .int (nI (P - 1)), .int (nI (P * (P - 2)))])), (aT, .inr (1, [.ref aS, .ref aW, .ref aM, .int (bI mk)])), (aW, .inl (cI, P * P, .inl w)), (aM, .inl (cB, P, .inl (fun z9 => bI (ms z9))))] H := hP
                have hD : va_D A [(aE, .inr (2, [.ref aS, .ref aEW, .ref aEK, .int ((dr_st P j (P - 2) (dr_rd P x j)).2.2)])), (aEW, .inl (cI, P * P, .inl ((dr_st P j (P - 2) (dr_rd P x j)).2.1))), (aEK, .inl (cB, P * P, .inl (fun z9 => bI (((dr_st P j (P - 2) (dr_rd P x j)).1) z9)))), (aS, .inr (0, [.int (nI P), .int (nI (P - 2)), .int (nI (P - 1)), .int (nI (P * (P - 2)))])), (aT, .inr (1, [.ref aS, .ref aW, .ref aM, .int (bI mk)])), (aW, .inl (cI, P * P, .inl w)), (aM, .inl (cB, P, .inl (fun z9 => bI (ms z9))))] := hD
                refine lv_aload_n hx hb dX2_tell_52 rfl (lv_at hl 4 rfl) ?_
                refine lv_iload hx hb dX2_tell_53 (lv_at hl 0 rfl) ?_
                refine lv_aload_n hx hb dX2_tell_55 rfl (lv_at hl 4 rfl) ?_
                refine va_get (D := (dC, dI)) (ci := 2) (v := .ref aS) (C := RX2) (T := TX2) (N := 4) hx hb hts inX2 hown hK hP 0 rfl rfl 0 (by decide) (hts _ t_fX2_7) (fun _ h9 => h9) rfl dX2_tell_56 ?_
                refine va_get (D := (dC, dI)) (ci := 0) (v := .int (nI (P - 1))) (C := RX0) (T := TX0) (N := 4) hx hb hts inX0 hown hK hP 3 rfl rfl 2 (by decide) (hts _ t_fX2_41) (fun _ h9 => h9) rfl dX2_tell_59 ?_
                refine gVv (wr := [(aT, .inr (1, [.ref aS, .ref aW, .ref aM, .int (bI mk)])), (aW, .inl (cI, P * P, .inl w)), (aM, .inl (cB, P, .inl (fun z9 => bI (ms z9))))]) (pre := [(aE, .inr (2, [.ref aS, .ref aEW, .ref aEK, .int ((dr_st P j (P - 2) (dr_rd P x j)).2.2)])), (aEW, .inl (cI, P * P, .inl ((dr_st P j (P - 2) (dr_rd P x j)).2.1))), (aEK, .inl (cB, P * P, .inl (fun z9 => bI (((dr_st P j (P - 2) (dr_rd P x j)).1) z9)))), (aS, .inr (0, [.int (nI P), .int (nI (P - 2)), .int (nI (P - 1)), .int (nI (P * (P - 2)))])), (aT, .inr (1, [.ref aS, .ref aW, .ref aM, .int (bI mk)])), (aW, .inl (cI, P * P, .inl w)), (aM, .inl (cB, P, .inl (fun z9 => bI (ms z9))))]) (tl := []) (G := fun (u : Unit) => [(aE, .inr (2, [.ref aS, .ref aEW, .ref aEK, .int ((dr_st P j (P - 1) (((dr_st P j (P - 2) (dr_rd P x j)).1), ((dr_st P j (P - 2) (dr_rd P x j)).2.1), ((dr_st P j (P - 2) (dr_rd P x j)).2.2))).2.2)])), (aEW, .inl (cI, P * P, .inl ((dr_st P j (P - 1) (((dr_st P j (P - 2) (dr_rd P x j)).1), ((dr_st P j (P - 2) (dr_rd P x j)).2.1), ((dr_st P j (P - 2) (dr_rd P x j)).2.2))).2.1))), (aEK, .inl (cB, P * P, .inl (fun z9 => bI (((dr_st P j (P - 1) (((dr_st P j (P - 2) (dr_rd P x j)).1), ((dr_st P j (P - 2) (dr_rd P x j)).2.1), ((dr_st P j (P - 2) (dr_rd P x j)).2.2))).1) z9)))), (aS, .inr (0, [.int (nI P), .int (nI (P - 2)), .int (nI (P - 1)), .int (nI (P * (P - 2)))])), (aT, .inr (1, [.ref aS, .ref aW, .ref aM, .int (bI mk)])), (aW, .inl (cI, P * P, .inl w)), (aM, .inl (cB, P, .inl (fun z9 => bI (ms z9))))]) (b := aE) (As := [.int (nI j), .int (nI (P - 1))]) (rst := []) ⟨hx, hb, hml, hown, hts⟩ (c_settle l dC dI cI cB cQ cJ aE aS aEW aEK P ((dr_st P j (P - 2) (dr_rd P x j)).2.1) ((dr_st P j (P - 2) (dr_rd P x j)).1) ((dr_st P j (P - 2) (dr_rd P x j)).2.2) j (P - 1) hp5 (by omega) (Or.inr rfl)) (cwV 2 hts (gdV t_mX2_37 t_inst_X2_settle t_sel_X2_settle t_ini_X2 t_code_X2_settle) rfl rfl rfl (by decide +kernel) ⟨Nat.le_of_ble_eq_true rfl, Nat.le_of_ble_eq_true rfl⟩) hK hP hD hS hA [0, 1, 2, 3] [4, 5, 6] [0, 1, 2, 3, 4, 5, 6] rfl (by decide) (fun _ => rfl) (by decide) (ci := 2) rfl rfl rfl rfl hl.1 rfl (Nat.le_of_ble_eq_true rfl) dX2_tell_62 ⟨Nat.zero_le _, Nat.zero_le _⟩ (fun u H locs hu9 hP hD hS => ?_)
                have hP : va_P (dC, dI) vwCl [(aE, .inr (2, [.ref aS, .ref aEW, .ref aEK, .int ((dr_rd P x (j + 1)).2.2)])), (aEW, .inl (cI, P * P, .inl ((dr_rd P x (j + 1)).2.1))), (aEK, .inl (cB, P * P, .inl (fun z9 => bI (((dr_rd P x (j + 1)).1) z9)))), (aS, .inr (0, [.int (nI P), .int (nI (P - 2)), .int (nI (P - 1)), .int (nI (P * (P - 2)))])), (aT, .inr (1, [.ref aS, .ref aW, .ref aM, .int (bI mk)])), (aW, .inl (cI, P * P, .inl w)), (aM, .inl (cB, P, .inl (fun z9 => bI (ms z9))))] H := hP
                have hD : va_D A [(aE, .inr (2, [.ref aS, .ref aEW, .ref aEK, .int ((dr_rd P x (j + 1)).2.2)])), (aEW, .inl (cI, P * P, .inl ((dr_rd P x (j + 1)).2.1))), (aEK, .inl (cB, P * P, .inl (fun z9 => bI (((dr_rd P x (j + 1)).1) z9)))), (aS, .inr (0, [.int (nI P), .int (nI (P - 2)), .int (nI (P - 1)), .int (nI (P * (P - 2)))])), (aT, .inr (1, [.ref aS, .ref aW, .ref aM, .int (bI mk)])), (aW, .inl (cI, P * P, .inl w)), (aM, .inl (cB, P, .inl (fun z9 => bI (ms z9))))] := hD
                refine lv_iinc (v := nI (j + 1)) hx hb dX2_tell_65 hl (k := 0) rfl (x_inc _) (by decide) rfl (fun ls hl => ?_)
                have hl : lv_has ls 5 [(4, .int (nI (j + 1))), (3, .int (nI i)), (2, .int (nI (dr_un P ms P))), (1, .ref aT), (0, .ref aE)] := hl
                refine lv_goto (tgt := 27) hx hb dX2_tell_68 (by decide) ?_
                exact ih27 (j + 1) ls H locs (by omega) (by omega) (lv_sub hl [0, 1, 2, 3, 4] rfl) hP hD hS
          have e10 : ((dr_rd P x 0).2.2) = x.2.2 := by first | rfl | (simp [h14, h21]; done) | (simp [h14, h21]; omega)
          have e11 : ((dr_rd P x 0).2.1) = x.2.1 := by first | rfl | (simp [h14, h21]; done) | (simp [h14, h21]; omega)
          have e12 : ((dr_rd P x 0).1) = x.1 := by first | rfl | (simp [h14, h21]; done) | (simp [h14, h21]; omega)
          exact lp27 (P - 0 + 1) 0 ls H locs (by omega) (by omega) (lv_sub hl [0, 1, 2, 3, 4] rfl) (by rw [e10, e11, e12]; exact hP) (by rw [e10, e11, e12]; exact hD) hS
  have e13 : ((dr_ld P ms w kn tw).2.2) = (nI (dr_un P ms P)) := by first | rfl | (simp []; done) | (simp []; omega)
  have e14 : ((dr_ld P ms w kn tw).2.1) = (dr_LW P ms w tw P) := by first | rfl | (simp []; done) | (simp []; omega)
  have e15 : ((dr_ld P ms w kn tw).1) = (dr_LK P ms kn P) := by first | rfl | (simp []; done) | (simp []; omega)
  exact lp12 (dr_un P ms P - 0 + 1) 0 (dr_ld P ms w kn tw) ls H locs (by omega) (by omega) (by first | rfl | (rw [← hx9, show dr_un P ms P - i = (dr_un P ms P - (i + 1)) + 1 by omega, dr_tl, if_pos (Int32.not_le.mp h21)])) (lv_sub hl [0, 1, 3, 2] rfl) (by rw [e13, e14, e15]; exact hP) (by rw [e13, e14, e15]; exact hD) hS
end
section
theorem dX3_init_0 : decode cX3_init 0 = .ok (.aload_n 0, 1) := by decide +kernel
theorem dX3_init_1 : decode cX3_init 1 = .ok (.invokespecial 1, 3) := by decide +kernel
theorem dX3_init_4 : decode cX3_init 4 = .ok (.new 7, 3) := by decide +kernel
theorem dX3_init_7 : decode cX3_init 7 = .ok (.dup, 1) := by decide +kernel
theorem dX3_init_8 : decode cX3_init 8 = .ok (.iload_n 1, 1) := by decide +kernel
theorem dX3_init_9 : decode cX3_init 9 = .ok (.invokestatic 9, 3) := by decide +kernel
theorem dX3_init_12 : decode cX3_init 12 = .ok (.invokespecial 15, 3) := by decide +kernel
theorem dX3_init_15 : decode cX3_init 15 = .ok (.astore_n 3, 1) := by decide +kernel
theorem dX3_init_16 : decode cX3_init 16 = .ok (.iconst 1, 1) := by decide +kernel
theorem dX3_init_17 : decode cX3_init 17 = .ok (.iload_n 2, 1) := by decide +kernel
theorem dX3_init_18 : decode cX3_init 18 = .ok (.iconst 4, 1) := by decide +kernel
theorem dX3_init_19 : decode cX3_init 19 = .ok (.invokestatic 18, 3) := by decide +kernel
theorem dX3_init_22 : decode cX3_init 22 = .ok (.invokestatic 24, 3) := by decide +kernel
theorem dX3_init_25 : decode cX3_init 25 = .ok (.anewarray 27, 3) := by decide +kernel
theorem dX3_init_28 : decode cX3_init 28 = .ok (.astore 4, 2) := by decide +kernel
theorem dX3_init_30 : decode cX3_init 30 = .ok (.iconst 0, 1) := by decide +kernel
theorem dX3_init_31 : decode cX3_init 31 = .ok (.istore 5, 2) := by decide +kernel
theorem dX3_init_33 : decode cX3_init 33 = .ok (.iload 5, 2) := by decide +kernel
theorem dX3_init_35 : decode cX3_init 35 = .ok (.aload 4, 2) := by decide +kernel
theorem dX3_init_37 : decode cX3_init 37 = .ok (.arraylength, 1) := by decide +kernel
theorem dX3_init_38 : decode cX3_init 38 = .ok (.if_icmp .ge 22, 3) := by decide +kernel
theorem dX3_init_41 : decode cX3_init 41 = .ok (.aload 4, 2) := by decide +kernel
theorem dX3_init_43 : decode cX3_init 43 = .ok (.iload 5, 2) := by decide +kernel
theorem dX3_init_45 : decode cX3_init 45 = .ok (.new 27, 3) := by decide +kernel
theorem dX3_init_48 : decode cX3_init 48 = .ok (.dup, 1) := by decide +kernel
theorem dX3_init_49 : decode cX3_init 49 = .ok (.aload_n 3, 1) := by decide +kernel
theorem dX3_init_50 : decode cX3_init 50 = .ok (.invokespecial 29, 3) := by decide +kernel
theorem dX3_init_53 : decode cX3_init 53 = .ok (.aastore, 1) := by decide +kernel
theorem dX3_init_54 : decode cX3_init 54 = .ok (.iinc 5  1, 3) := by decide +kernel
theorem dX3_init_57 : decode cX3_init 57 = .ok (.goto (-24), 3) := by decide +kernel
theorem dX3_init_60 : decode cX3_init 60 = .ok (.aload_n 0, 1) := by decide +kernel
theorem dX3_init_61 : decode cX3_init 61 = .ok (.aload_n 3, 1) := by decide +kernel
theorem dX3_init_62 : decode cX3_init 62 = .ok (.putfield 32, 3) := by decide +kernel
theorem dX3_init_65 : decode cX3_init 65 = .ok (.aload_n 0, 1) := by decide +kernel
theorem dX3_init_66 : decode cX3_init 66 = .ok (.aload 4, 2) := by decide +kernel
theorem dX3_init_68 : decode cX3_init 68 = .ok (.putfield 36, 3) := by decide +kernel
theorem dX3_init_71 : decode cX3_init 71 = .ok (.aload_n 0, 1) := by decide +kernel
theorem dX3_init_72 : decode cX3_init 72 = .ok (.aload_n 3, 1) := by decide +kernel
theorem dX3_init_73 : decode cX3_init 73 = .ok (.getfield 40, 3) := by decide +kernel
theorem dX3_init_76 : decode cX3_init 76 = .ok (.newarray .boolean, 2) := by decide +kernel
theorem dX3_init_78 : decode cX3_init 78 = .ok (.putfield 44, 3) := by decide +kernel
theorem dX3_init_81 : decode cX3_init 81 = .ok (.aload_n 0, 1) := by decide +kernel
theorem dX3_init_82 : decode cX3_init 82 = .ok (.new 48, 3) := by decide +kernel
theorem dX3_init_85 : decode cX3_init 85 = .ok (.dup, 1) := by decide +kernel
theorem dX3_init_86 : decode cX3_init 86 = .ok (.aload_n 3, 1) := by decide +kernel
theorem dX3_init_87 : decode cX3_init 87 = .ok (.invokespecial 50, 3) := by decide +kernel
theorem dX3_init_90 : decode cX3_init 90 = .ok (.putfield 51, 3) := by decide +kernel
theorem dX3_init_93 : decode cX3_init 93 = .ok (.aload_n 0, 1) := by decide +kernel
theorem dX3_init_94 : decode cX3_init 94 = .ok (.iconst 1, 1) := by decide +kernel
theorem dX3_init_95 : decode cX3_init 95 = .ok (.putfield 55, 3) := by decide +kernel
theorem dX3_init_98 : decode cX3_init 98 = .ok (.aload_n 0, 1) := by decide +kernel
theorem dX3_init_99 : decode cX3_init 99 = .ok (.iconst (-1), 1) := by decide +kernel
theorem dX3_init_100 : decode cX3_init 100 = .ok (.putfield 59, 3) := by decide +kernel
theorem dX3_init_103 : decode cX3_init 103 = .ok (.return_, 1) := by decide +kernel
theorem dX3_count_0 : decode cX3_count 0 = .ok (.iload_n 1, 1) := by decide +kernel
theorem dX3_count_1 : decode cX3_count 1 = .ok (.tableswitch 73 0 4 #[35, 43, 49, 63, 68], 35) := by decide +kernel
theorem dX3_count_36 : decode cX3_count 36 = .ok (.aload_n 0, 1) := by decide +kernel
theorem dX3_count_37 : decode cX3_count 37 = .ok (.getfield 32, 3) := by decide +kernel
theorem dX3_count_40 : decode cX3_count 40 = .ok (.getfield 40, 3) := by decide +kernel
theorem dX3_count_43 : decode cX3_count 43 = .ok (.ireturn, 1) := by decide +kernel
theorem dX3_count_44 : decode cX3_count 44 = .ok (.aload_n 0, 1) := by decide +kernel
theorem dX3_count_45 : decode cX3_count 45 = .ok (.getfield 36, 3) := by decide +kernel
theorem dX3_count_48 : decode cX3_count 48 = .ok (.arraylength, 1) := by decide +kernel
theorem dX3_count_49 : decode cX3_count 49 = .ok (.ireturn, 1) := by decide +kernel
theorem dX3_count_50 : decode cX3_count 50 = .ok (.aload_n 0, 1) := by decide +kernel
theorem dX3_count_51 : decode cX3_count 51 = .ok (.getfield 36, 3) := by decide +kernel
theorem dX3_count_54 : decode cX3_count 54 = .ok (.arraylength, 1) := by decide +kernel
theorem dX3_count_55 : decode cX3_count 55 = .ok (.aload_n 0, 1) := by decide +kernel
theorem dX3_count_56 : decode cX3_count 56 = .ok (.getfield 32, 3) := by decide +kernel
theorem dX3_count_59 : decode cX3_count 59 = .ok (.getfield 62, 3) := by decide +kernel
theorem dX3_count_62 : decode cX3_count 62 = .ok (.imul, 1) := by decide +kernel
theorem dX3_count_63 : decode cX3_count 63 = .ok (.ireturn, 1) := by decide +kernel
theorem dX3_count_64 : decode cX3_count 64 = .ok (.aload_n 0, 1) := by decide +kernel
theorem dX3_count_65 : decode cX3_count 65 = .ok (.invokevirtual 65, 3) := by decide +kernel
theorem dX3_count_68 : decode cX3_count 68 = .ok (.ireturn, 1) := by decide +kernel
theorem dX3_count_69 : decode cX3_count 69 = .ok (.aload_n 0, 1) := by decide +kernel
theorem dX3_count_70 : decode cX3_count 70 = .ok (.invokevirtual 69, 3) := by decide +kernel
theorem dX3_count_73 : decode cX3_count 73 = .ok (.ireturn, 1) := by decide +kernel
theorem dX3_count_74 : decode cX3_count 74 = .ok (.iconst (-1), 1) := by decide +kernel
theorem dX3_count_75 : decode cX3_count 75 = .ok (.ireturn, 1) := by decide +kernel
theorem dX3_write_0 : decode cX3_write 0 = .ok (.aload_n 0, 1) := by decide +kernel
theorem dX3_write_1 : decode cX3_write 1 = .ok (.getfield 55, 3) := by decide +kernel
theorem dX3_write_4 : decode cX3_write 4 = .ok (.ifCond .eq 11, 3) := by decide +kernel
theorem dX3_write_7 : decode cX3_write 7 = .ok (.aload_n 0, 1) := by decide +kernel
theorem dX3_write_8 : decode cX3_write 8 = .ok (.iload_n 1, 1) := by decide +kernel
theorem dX3_write_9 : decode cX3_write 9 = .ok (.invokevirtual 72, 3) := by decide +kernel
theorem dX3_write_12 : decode cX3_write 12 = .ok (.ifCond .ne 5, 3) := by decide +kernel
theorem dX3_write_15 : decode cX3_write 15 = .ok (.iconst (-1), 1) := by decide +kernel
theorem dX3_write_16 : decode cX3_write 16 = .ok (.ireturn, 1) := by decide +kernel
theorem dX3_write_17 : decode cX3_write 17 = .ok (.aload_n 0, 1) := by decide +kernel
theorem dX3_write_18 : decode cX3_write 18 = .ok (.getfield 36, 3) := by decide +kernel
theorem dX3_write_21 : decode cX3_write 21 = .ok (.iload_n 1, 1) := by decide +kernel
theorem dX3_write_22 : decode cX3_write 22 = .ok (.aload_n 0, 1) := by decide +kernel
theorem dX3_write_23 : decode cX3_write 23 = .ok (.getfield 32, 3) := by decide +kernel
theorem dX3_write_26 : decode cX3_write 26 = .ok (.getfield 62, 3) := by decide +kernel
theorem dX3_write_29 : decode cX3_write 29 = .ok (.idiv, 1) := by decide +kernel
theorem dX3_write_30 : decode cX3_write 30 = .ok (.aaload, 1) := by decide +kernel
theorem dX3_write_31 : decode cX3_write 31 = .ok (.astore_n 3, 1) := by decide +kernel
theorem dX3_write_32 : decode cX3_write 32 = .ok (.aload_n 3, 1) := by decide +kernel
theorem dX3_write_33 : decode cX3_write 33 = .ok (.invokevirtual 76, 3) := by decide +kernel
theorem dX3_write_36 : decode cX3_write 36 = .ok (.ifCond .ne 11, 3) := by decide +kernel
theorem dX3_write_39 : decode cX3_write 39 = .ok (.aload_n 3, 1) := by decide +kernel
theorem dX3_write_40 : decode cX3_write 40 = .ok (.invokevirtual 80, 3) := by decide +kernel
theorem dX3_write_43 : decode cX3_write 43 = .ok (.iconst 2, 1) := by decide +kernel
theorem dX3_write_44 : decode cX3_write 44 = .ok (.if_icmp .le 5, 3) := by decide +kernel
theorem dX3_write_47 : decode cX3_write 47 = .ok (.iconst (-1), 1) := by decide +kernel
theorem dX3_write_48 : decode cX3_write 48 = .ok (.ireturn, 1) := by decide +kernel
theorem dX3_write_49 : decode cX3_write 49 = .ok (.aload_n 0, 1) := by decide +kernel
theorem dX3_write_50 : decode cX3_write 50 = .ok (.getfield 32, 3) := by decide +kernel
theorem dX3_write_53 : decode cX3_write 53 = .ok (.iload_n 1, 1) := by decide +kernel
theorem dX3_write_54 : decode cX3_write 54 = .ok (.invokevirtual 83, 3) := by decide +kernel
theorem dX3_write_57 : decode cX3_write 57 = .ok (.istore 4, 2) := by decide +kernel
theorem dX3_write_59 : decode cX3_write 59 = .ok (.aload_n 0, 1) := by decide +kernel
theorem dX3_write_60 : decode cX3_write 60 = .ok (.getfield 32, 3) := by decide +kernel
theorem dX3_write_63 : decode cX3_write 63 = .ok (.iload_n 1, 1) := by decide +kernel
theorem dX3_write_64 : decode cX3_write 64 = .ok (.invokevirtual 86, 3) := by decide +kernel
theorem dX3_write_67 : decode cX3_write 67 = .ok (.istore 5, 2) := by decide +kernel
theorem dX3_write_69 : decode cX3_write 69 = .ok (.aload_n 0, 1) := by decide +kernel
theorem dX3_write_70 : decode cX3_write 70 = .ok (.aload_n 3, 1) := by decide +kernel
theorem dX3_write_71 : decode cX3_write 71 = .ok (.iload 5, 2) := by decide +kernel
theorem dX3_write_73 : decode cX3_write 73 = .ok (.iload 4, 2) := by decide +kernel
theorem dX3_write_75 : decode cX3_write 75 = .ok (.invokevirtual 89, 3) := by decide +kernel
theorem dX3_write_78 : decode cX3_write 78 = .ok (.iload_n 2, 1) := by decide +kernel
theorem dX3_write_79 : decode cX3_write 79 = .ok (.ixor, 1) := by decide +kernel
theorem dX3_write_80 : decode cX3_write 80 = .ok (.istore 6, 2) := by decide +kernel
theorem dX3_write_82 : decode cX3_write 82 = .ok (.aload_n 3, 1) := by decide +kernel
theorem dX3_write_83 : decode cX3_write 83 = .ok (.iconst 1, 1) := by decide +kernel
theorem dX3_write_84 : decode cX3_write 84 = .ok (.putfield 93, 3) := by decide +kernel
theorem dX3_write_87 : decode cX3_write 87 = .ok (.aload_n 0, 1) := by decide +kernel
theorem dX3_write_88 : decode cX3_write 88 = .ok (.aload_n 3, 1) := by decide +kernel
theorem dX3_write_89 : decode cX3_write 89 = .ok (.iload 5, 2) := by decide +kernel
theorem dX3_write_91 : decode cX3_write 91 = .ok (.iload 4, 2) := by decide +kernel
theorem dX3_write_93 : decode cX3_write 93 = .ok (.iload_n 2, 1) := by decide +kernel
theorem dX3_write_94 : decode cX3_write 94 = .ok (.invokevirtual 96, 3) := by decide +kernel
theorem dX3_write_97 : decode cX3_write 97 = .ok (.ifCond .eq 49, 3) := by decide +kernel
theorem dX3_write_100 : decode cX3_write 100 = .ok (.aload_n 0, 1) := by decide +kernel
theorem dX3_write_101 : decode cX3_write 101 = .ok (.aload_n 3, 1) := by decide +kernel
theorem dX3_write_102 : decode cX3_write 102 = .ok (.iload 5, 2) := by decide +kernel
theorem dX3_write_104 : decode cX3_write 104 = .ok (.iload 4, 2) := by decide +kernel
theorem dX3_write_106 : decode cX3_write 106 = .ok (.aload_n 0, 1) := by decide +kernel
theorem dX3_write_107 : decode cX3_write 107 = .ok (.getfield 32, 3) := by decide +kernel
theorem dX3_write_110 : decode cX3_write 110 = .ok (.getfield 100, 3) := by decide +kernel
theorem dX3_write_113 : decode cX3_write 113 = .ok (.iload 6, 2) := by decide +kernel
theorem dX3_write_115 : decode cX3_write 115 = .ok (.invokevirtual 103, 3) := by decide +kernel
theorem dX3_write_118 : decode cX3_write 118 = .ok (.ifCond .eq 28, 3) := by decide +kernel
theorem dX3_write_121 : decode cX3_write 121 = .ok (.aload_n 0, 1) := by decide +kernel
theorem dX3_write_122 : decode cX3_write 122 = .ok (.aload_n 3, 1) := by decide +kernel
theorem dX3_write_123 : decode cX3_write 123 = .ok (.iload 5, 2) := by decide +kernel
theorem dX3_write_125 : decode cX3_write 125 = .ok (.iload 4, 2) := by decide +kernel
theorem dX3_write_127 : decode cX3_write 127 = .ok (.aload_n 0, 1) := by decide +kernel
theorem dX3_write_128 : decode cX3_write 128 = .ok (.getfield 32, 3) := by decide +kernel
theorem dX3_write_131 : decode cX3_write 131 = .ok (.getfield 107, 3) := by decide +kernel
theorem dX3_write_134 : decode cX3_write 134 = .ok (.iload 6, 2) := by decide +kernel
theorem dX3_write_136 : decode cX3_write 136 = .ok (.invokevirtual 103, 3) := by decide +kernel
theorem dX3_write_139 : decode cX3_write 139 = .ok (.ifCond .eq 7, 3) := by decide +kernel
theorem dX3_write_142 : decode cX3_write 142 = .ok (.iconst 1, 1) := by decide +kernel
theorem dX3_write_143 : decode cX3_write 143 = .ok (.goto 4, 3) := by decide +kernel
theorem dX3_write_146 : decode cX3_write 146 = .ok (.iconst 0, 1) := by decide +kernel
theorem dX3_write_147 : decode cX3_write 147 = .ok (.istore 7, 2) := by decide +kernel
theorem dX3_write_149 : decode cX3_write 149 = .ok (.iload 7, 2) := by decide +kernel
theorem dX3_write_151 : decode cX3_write 151 = .ok (.ifCond .ne 5, 3) := by decide +kernel
theorem dX3_write_154 : decode cX3_write 154 = .ok (.iconst 0, 1) := by decide +kernel
theorem dX3_write_155 : decode cX3_write 155 = .ok (.ireturn, 1) := by decide +kernel
theorem dX3_write_156 : decode cX3_write 156 = .ok (.aload_n 3, 1) := by decide +kernel
theorem dX3_write_157 : decode cX3_write 157 = .ok (.iconst 0, 1) := by decide +kernel
theorem dX3_write_158 : decode cX3_write 158 = .ok (.putfield 93, 3) := by decide +kernel
theorem dX3_write_161 : decode cX3_write 161 = .ok (.iconst 1, 1) := by decide +kernel
theorem dX3_write_162 : decode cX3_write 162 = .ok (.ireturn, 1) := by decide +kernel
theorem dX3_read_0 : decode cX3_read 0 = .ok (.aload_n 0, 1) := by decide +kernel
theorem dX3_read_1 : decode cX3_read 1 = .ok (.iload_n 1, 1) := by decide +kernel
theorem dX3_read_2 : decode cX3_read 2 = .ok (.invokevirtual 72, 3) := by decide +kernel
theorem dX3_read_5 : decode cX3_read 5 = .ok (.ifCond .ne 13, 3) := by decide +kernel
theorem dX3_read_8 : decode cX3_read 8 = .ok (.new 110, 3) := by decide +kernel
theorem dX3_read_11 : decode cX3_read 11 = .ok (.dup, 1) := by decide +kernel
theorem dX3_read_12 : decode cX3_read 12 = .ok (.ldc 112, 2) := by decide +kernel
theorem dX3_read_14 : decode cX3_read 14 = .ok (.invokespecial 114, 3) := by decide +kernel
theorem dX3_read_17 : decode cX3_read 17 = .ok (.athrow, 1) := by decide +kernel
theorem dX3_read_18 : decode cX3_read 18 = .ok (.aload_n 0, 1) := by decide +kernel
theorem dX3_read_19 : decode cX3_read 19 = .ok (.getfield 55, 3) := by decide +kernel
theorem dX3_read_22 : decode cX3_read 22 = .ok (.ifCond .ne 13, 3) := by decide +kernel
theorem dX3_read_25 : decode cX3_read 25 = .ok (.new 117, 3) := by decide +kernel
theorem dX3_read_28 : decode cX3_read 28 = .ok (.dup, 1) := by decide +kernel
theorem dX3_read_29 : decode cX3_read 29 = .ok (.ldc 119, 2) := by decide +kernel
theorem dX3_read_31 : decode cX3_read 31 = .ok (.invokespecial 121, 3) := by decide +kernel
theorem dX3_read_34 : decode cX3_read 34 = .ok (.athrow, 1) := by decide +kernel
theorem dX3_read_35 : decode cX3_read 35 = .ok (.aload_n 0, 1) := by decide +kernel
theorem dX3_read_36 : decode cX3_read 36 = .ok (.getfield 36, 3) := by decide +kernel
theorem dX3_read_39 : decode cX3_read 39 = .ok (.iload_n 1, 1) := by decide +kernel
theorem dX3_read_40 : decode cX3_read 40 = .ok (.aload_n 0, 1) := by decide +kernel
theorem dX3_read_41 : decode cX3_read 41 = .ok (.getfield 32, 3) := by decide +kernel
theorem dX3_read_44 : decode cX3_read 44 = .ok (.getfield 62, 3) := by decide +kernel
theorem dX3_read_47 : decode cX3_read 47 = .ok (.idiv, 1) := by decide +kernel
theorem dX3_read_48 : decode cX3_read 48 = .ok (.aaload, 1) := by decide +kernel
theorem dX3_read_49 : decode cX3_read 49 = .ok (.astore_n 2, 1) := by decide +kernel
theorem dX3_read_50 : decode cX3_read 50 = .ok (.aload_n 0, 1) := by decide +kernel
theorem dX3_read_51 : decode cX3_read 51 = .ok (.getfield 32, 3) := by decide +kernel
theorem dX3_read_54 : decode cX3_read 54 = .ok (.iload_n 1, 1) := by decide +kernel
theorem dX3_read_55 : decode cX3_read 55 = .ok (.invokevirtual 86, 3) := by decide +kernel
theorem dX3_read_58 : decode cX3_read 58 = .ok (.istore_n 3, 1) := by decide +kernel
theorem dX3_read_59 : decode cX3_read 59 = .ok (.aload_n 2, 1) := by decide +kernel
theorem dX3_read_60 : decode cX3_read 60 = .ok (.getfield 122, 3) := by decide +kernel
theorem dX3_read_63 : decode cX3_read 63 = .ok (.iload_n 3, 1) := by decide +kernel
theorem dX3_read_64 : decode cX3_read 64 = .ok (.baload, 1) := by decide +kernel
theorem dX3_read_65 : decode cX3_read 65 = .ok (.ifCond .eq 20, 3) := by decide +kernel
theorem dX3_read_68 : decode cX3_read 68 = .ok (.aload_n 2, 1) := by decide +kernel
theorem dX3_read_69 : decode cX3_read 69 = .ok (.invokevirtual 125, 3) := by decide +kernel
theorem dX3_read_72 : decode cX3_read 72 = .ok (.ifCond .ne 13, 3) := by decide +kernel
theorem dX3_read_75 : decode cX3_read 75 = .ok (.new 110, 3) := by decide +kernel
theorem dX3_read_78 : decode cX3_read 78 = .ok (.dup, 1) := by decide +kernel
theorem dX3_read_79 : decode cX3_read 79 = .ok (.ldc 128, 2) := by decide +kernel
theorem dX3_read_81 : decode cX3_read 81 = .ok (.invokespecial 114, 3) := by decide +kernel
theorem dX3_read_84 : decode cX3_read 84 = .ok (.athrow, 1) := by decide +kernel
theorem dX3_read_85 : decode cX3_read 85 = .ok (.aload_n 0, 1) := by decide +kernel
theorem dX3_read_86 : decode cX3_read 86 = .ok (.aload_n 2, 1) := by decide +kernel
theorem dX3_read_87 : decode cX3_read 87 = .ok (.iload_n 3, 1) := by decide +kernel
theorem dX3_read_88 : decode cX3_read 88 = .ok (.aload_n 0, 1) := by decide +kernel
theorem dX3_read_89 : decode cX3_read 89 = .ok (.getfield 32, 3) := by decide +kernel
theorem dX3_read_92 : decode cX3_read 92 = .ok (.iload_n 1, 1) := by decide +kernel
theorem dX3_read_93 : decode cX3_read 93 = .ok (.invokevirtual 83, 3) := by decide +kernel
theorem dX3_read_96 : decode cX3_read 96 = .ok (.invokevirtual 89, 3) := by decide +kernel
theorem dX3_read_99 : decode cX3_read 99 = .ok (.ireturn, 1) := by decide +kernel
theorem dX3_lose_0 : decode cX3_lose 0 = .ok (.aload_n 0, 1) := by decide +kernel
theorem dX3_lose_1 : decode cX3_lose 1 = .ok (.iload_n 1, 1) := by decide +kernel
theorem dX3_lose_2 : decode cX3_lose 2 = .ok (.invokevirtual 130, 3) := by decide +kernel
theorem dX3_lose_5 : decode cX3_lose 5 = .ok (.ifCond .eq 12, 3) := by decide +kernel
theorem dX3_lose_8 : decode cX3_lose 8 = .ok (.aload_n 0, 1) := by decide +kernel
theorem dX3_lose_9 : decode cX3_lose 9 = .ok (.getfield 44, 3) := by decide +kernel
theorem dX3_lose_12 : decode cX3_lose 12 = .ok (.iload_n 1, 1) := by decide +kernel
theorem dX3_lose_13 : decode cX3_lose 13 = .ok (.baload, 1) := by decide +kernel
theorem dX3_lose_14 : decode cX3_lose 14 = .ok (.ifCond .eq 5, 3) := by decide +kernel
theorem dX3_lose_17 : decode cX3_lose 17 = .ok (.iconst 0, 1) := by decide +kernel
theorem dX3_lose_18 : decode cX3_lose 18 = .ok (.ireturn, 1) := by decide +kernel
theorem dX3_lose_19 : decode cX3_lose 19 = .ok (.aload_n 0, 1) := by decide +kernel
theorem dX3_lose_20 : decode cX3_lose 20 = .ok (.getfield 44, 3) := by decide +kernel
theorem dX3_lose_23 : decode cX3_lose 23 = .ok (.iload_n 1, 1) := by decide +kernel
theorem dX3_lose_24 : decode cX3_lose 24 = .ok (.iconst 1, 1) := by decide +kernel
theorem dX3_lose_25 : decode cX3_lose 25 = .ok (.bastore, 1) := by decide +kernel
theorem dX3_lose_26 : decode cX3_lose 26 = .ok (.iconst 0, 1) := by decide +kernel
theorem dX3_lose_27 : decode cX3_lose 27 = .ok (.istore_n 2, 1) := by decide +kernel
theorem dX3_lose_28 : decode cX3_lose 28 = .ok (.iload_n 2, 1) := by decide +kernel
theorem dX3_lose_29 : decode cX3_lose 29 = .ok (.aload_n 0, 1) := by decide +kernel
theorem dX3_lose_30 : decode cX3_lose 30 = .ok (.getfield 36, 3) := by decide +kernel
theorem dX3_lose_33 : decode cX3_lose 33 = .ok (.arraylength, 1) := by decide +kernel
theorem dX3_lose_34 : decode cX3_lose 34 = .ok (.if_icmp .ge 19, 3) := by decide +kernel
theorem dX3_lose_37 : decode cX3_lose 37 = .ok (.aload_n 0, 1) := by decide +kernel
theorem dX3_lose_38 : decode cX3_lose 38 = .ok (.getfield 36, 3) := by decide +kernel
theorem dX3_lose_41 : decode cX3_lose 41 = .ok (.iload_n 2, 1) := by decide +kernel
theorem dX3_lose_42 : decode cX3_lose 42 = .ok (.aaload, 1) := by decide +kernel
theorem dX3_lose_43 : decode cX3_lose 43 = .ok (.iload_n 1, 1) := by decide +kernel
theorem dX3_lose_44 : decode cX3_lose 44 = .ok (.invokevirtual 133, 3) := by decide +kernel
theorem dX3_lose_47 : decode cX3_lose 47 = .ok (.iinc 2  1, 3) := by decide +kernel
theorem dX3_lose_50 : decode cX3_lose 50 = .ok (.goto (-22), 3) := by decide +kernel
theorem dX3_lose_53 : decode cX3_lose 53 = .ok (.iconst 1, 1) := by decide +kernel
theorem dX3_lose_54 : decode cX3_lose 54 = .ok (.ireturn, 1) := by decide +kernel
theorem dX3_replace_0 : decode cX3_replace 0 = .ok (.aload_n 0, 1) := by decide +kernel
theorem dX3_replace_1 : decode cX3_replace 1 = .ok (.getfield 55, 3) := by decide +kernel
theorem dX3_replace_4 : decode cX3_replace 4 = .ok (.ifCond .eq 20, 3) := by decide +kernel
theorem dX3_replace_7 : decode cX3_replace 7 = .ok (.aload_n 0, 1) := by decide +kernel
theorem dX3_replace_8 : decode cX3_replace 8 = .ok (.iload_n 1, 1) := by decide +kernel
theorem dX3_replace_9 : decode cX3_replace 9 = .ok (.invokevirtual 130, 3) := by decide +kernel
theorem dX3_replace_12 : decode cX3_replace 12 = .ok (.ifCond .eq 12, 3) := by decide +kernel
theorem dX3_replace_15 : decode cX3_replace 15 = .ok (.aload_n 0, 1) := by decide +kernel
theorem dX3_replace_16 : decode cX3_replace 16 = .ok (.getfield 44, 3) := by decide +kernel
theorem dX3_replace_19 : decode cX3_replace 19 = .ok (.iload_n 1, 1) := by decide +kernel
theorem dX3_replace_20 : decode cX3_replace 20 = .ok (.baload, 1) := by decide +kernel
theorem dX3_replace_21 : decode cX3_replace 21 = .ok (.ifCond .ne 5, 3) := by decide +kernel
theorem dX3_replace_24 : decode cX3_replace 24 = .ok (.iconst 0, 1) := by decide +kernel
theorem dX3_replace_25 : decode cX3_replace 25 = .ok (.ireturn, 1) := by decide +kernel
theorem dX3_replace_26 : decode cX3_replace 26 = .ok (.aload_n 0, 1) := by decide +kernel
theorem dX3_replace_27 : decode cX3_replace 27 = .ok (.getfield 44, 3) := by decide +kernel
theorem dX3_replace_30 : decode cX3_replace 30 = .ok (.iload_n 1, 1) := by decide +kernel
theorem dX3_replace_31 : decode cX3_replace 31 = .ok (.iconst 0, 1) := by decide +kernel
theorem dX3_replace_32 : decode cX3_replace 32 = .ok (.bastore, 1) := by decide +kernel
theorem dX3_replace_33 : decode cX3_replace 33 = .ok (.iconst 1, 1) := by decide +kernel
theorem dX3_replace_34 : decode cX3_replace 34 = .ok (.ireturn, 1) := by decide +kernel
theorem dX3_rebuild_0 : decode cX3_rebuild 0 = .ok (.aload_n 0, 1) := by decide +kernel
theorem dX3_rebuild_1 : decode cX3_rebuild 1 = .ok (.getfield 55, 3) := by decide +kernel
theorem dX3_rebuild_4 : decode cX3_rebuild 4 = .ok (.ifCond .ne 5, 3) := by decide +kernel
theorem dX3_rebuild_7 : decode cX3_rebuild 7 = .ok (.iconst (-1), 1) := by decide +kernel
theorem dX3_rebuild_8 : decode cX3_rebuild 8 = .ok (.ireturn, 1) := by decide +kernel
theorem dX3_rebuild_9 : decode cX3_rebuild 9 = .ok (.iconst 0, 1) := by decide +kernel
theorem dX3_rebuild_10 : decode cX3_rebuild 10 = .ok (.istore_n 2, 1) := by decide +kernel
theorem dX3_rebuild_11 : decode cX3_rebuild 11 = .ok (.iconst 0, 1) := by decide +kernel
theorem dX3_rebuild_12 : decode cX3_rebuild 12 = .ok (.istore_n 3, 1) := by decide +kernel
theorem dX3_rebuild_13 : decode cX3_rebuild 13 = .ok (.iload_n 3, 1) := by decide +kernel
theorem dX3_rebuild_14 : decode cX3_rebuild 14 = .ok (.aload_n 0, 1) := by decide +kernel
theorem dX3_rebuild_15 : decode cX3_rebuild 15 = .ok (.getfield 36, 3) := by decide +kernel
theorem dX3_rebuild_18 : decode cX3_rebuild 18 = .ok (.arraylength, 1) := by decide +kernel
theorem dX3_rebuild_19 : decode cX3_rebuild 19 = .ok (.if_icmp .ge 57, 3) := by decide +kernel
theorem dX3_rebuild_22 : decode cX3_rebuild 22 = .ok (.iload_n 2, 1) := by decide +kernel
theorem dX3_rebuild_23 : decode cX3_rebuild 23 = .ok (.iload_n 1, 1) := by decide +kernel
theorem dX3_rebuild_24 : decode cX3_rebuild 24 = .ok (.if_icmp .ge 52, 3) := by decide +kernel
theorem dX3_rebuild_27 : decode cX3_rebuild 27 = .ok (.aload_n 0, 1) := by decide +kernel
theorem dX3_rebuild_28 : decode cX3_rebuild 28 = .ok (.aload_n 0, 1) := by decide +kernel
theorem dX3_rebuild_29 : decode cX3_rebuild 29 = .ok (.getfield 36, 3) := by decide +kernel
theorem dX3_rebuild_32 : decode cX3_rebuild 32 = .ok (.iload_n 3, 1) := by decide +kernel
theorem dX3_rebuild_33 : decode cX3_rebuild 33 = .ok (.aaload, 1) := by decide +kernel
theorem dX3_rebuild_34 : decode cX3_rebuild 34 = .ok (.invokevirtual 136, 3) := by decide +kernel
theorem dX3_rebuild_37 : decode cX3_rebuild 37 = .ok (.ifCond .eq 33, 3) := by decide +kernel
theorem dX3_rebuild_40 : decode cX3_rebuild 40 = .ok (.aload_n 0, 1) := by decide +kernel
theorem dX3_rebuild_41 : decode cX3_rebuild 41 = .ok (.getfield 36, 3) := by decide +kernel
theorem dX3_rebuild_44 : decode cX3_rebuild 44 = .ok (.iload_n 3, 1) := by decide +kernel
theorem dX3_rebuild_45 : decode cX3_rebuild 45 = .ok (.aaload, 1) := by decide +kernel
theorem dX3_rebuild_46 : decode cX3_rebuild 46 = .ok (.invokevirtual 125, 3) := by decide +kernel
theorem dX3_rebuild_49 : decode cX3_rebuild 49 = .ok (.ifCond .eq 21, 3) := by decide +kernel
theorem dX3_rebuild_52 : decode cX3_rebuild 52 = .ok (.aload_n 0, 1) := by decide +kernel
theorem dX3_rebuild_53 : decode cX3_rebuild 53 = .ok (.aload_n 0, 1) := by decide +kernel
theorem dX3_rebuild_54 : decode cX3_rebuild 54 = .ok (.getfield 36, 3) := by decide +kernel
theorem dX3_rebuild_57 : decode cX3_rebuild 57 = .ok (.iload_n 3, 1) := by decide +kernel
theorem dX3_rebuild_58 : decode cX3_rebuild 58 = .ok (.aaload, 1) := by decide +kernel
theorem dX3_rebuild_59 : decode cX3_rebuild 59 = .ok (.invokevirtual 140, 3) := by decide +kernel
theorem dX3_rebuild_62 : decode cX3_rebuild 62 = .ok (.ifCond .ne 5, 3) := by decide +kernel
theorem dX3_rebuild_65 : decode cX3_rebuild 65 = .ok (.iload_n 2, 1) := by decide +kernel
theorem dX3_rebuild_66 : decode cX3_rebuild 66 = .ok (.ireturn, 1) := by decide +kernel
theorem dX3_rebuild_67 : decode cX3_rebuild 67 = .ok (.iinc 2  1, 3) := by decide +kernel
theorem dX3_rebuild_70 : decode cX3_rebuild 70 = .ok (.iinc 3  1, 3) := by decide +kernel
theorem dX3_rebuild_73 : decode cX3_rebuild 73 = .ok (.goto (-60), 3) := by decide +kernel
theorem dX3_rebuild_76 : decode cX3_rebuild 76 = .ok (.iload_n 2, 1) := by decide +kernel
theorem dX3_rebuild_77 : decode cX3_rebuild 77 = .ok (.ireturn, 1) := by decide +kernel
theorem dX3_cut_0 : decode cX3_cut 0 = .ok (.aload_n 0, 1) := by decide +kernel
theorem dX3_cut_1 : decode cX3_cut 1 = .ok (.getfield 55, 3) := by decide +kernel
theorem dX3_cut_4 : decode cX3_cut 4 = .ok (.ifCond .eq 7, 3) := by decide +kernel
theorem dX3_cut_7 : decode cX3_cut 7 = .ok (.iload_n 1, 1) := by decide +kernel
theorem dX3_cut_8 : decode cX3_cut 8 = .ok (.ifCond .ge 5, 3) := by decide +kernel
theorem dX3_cut_11 : decode cX3_cut 11 = .ok (.iconst 0, 1) := by decide +kernel
theorem dX3_cut_12 : decode cX3_cut 12 = .ok (.ireturn, 1) := by decide +kernel
theorem dX3_cut_13 : decode cX3_cut 13 = .ok (.aload_n 0, 1) := by decide +kernel
theorem dX3_cut_14 : decode cX3_cut 14 = .ok (.iload_n 1, 1) := by decide +kernel
theorem dX3_cut_15 : decode cX3_cut 15 = .ok (.putfield 59, 3) := by decide +kernel
theorem dX3_cut_18 : decode cX3_cut 18 = .ok (.iconst 1, 1) := by decide +kernel
theorem dX3_cut_19 : decode cX3_cut 19 = .ok (.ireturn, 1) := by decide +kernel
theorem dX3_start_0 : decode cX3_start 0 = .ok (.aload_n 0, 1) := by decide +kernel
theorem dX3_start_1 : decode cX3_start 1 = .ok (.getfield 55, 3) := by decide +kernel
theorem dX3_start_4 : decode cX3_start 4 = .ok (.ifCond .eq 5, 3) := by decide +kernel
theorem dX3_start_7 : decode cX3_start 7 = .ok (.iconst (-1), 1) := by decide +kernel
theorem dX3_start_8 : decode cX3_start 8 = .ok (.ireturn, 1) := by decide +kernel
theorem dX3_start_9 : decode cX3_start 9 = .ok (.aload_n 0, 1) := by decide +kernel
theorem dX3_start_10 : decode cX3_start 10 = .ok (.iconst 1, 1) := by decide +kernel
theorem dX3_start_11 : decode cX3_start 11 = .ok (.putfield 55, 3) := by decide +kernel
theorem dX3_start_14 : decode cX3_start 14 = .ok (.aload_n 0, 1) := by decide +kernel
theorem dX3_start_15 : decode cX3_start 15 = .ok (.iconst (-1), 1) := by decide +kernel
theorem dX3_start_16 : decode cX3_start 16 = .ok (.putfield 59, 3) := by decide +kernel
theorem dX3_start_19 : decode cX3_start 19 = .ok (.iconst 0, 1) := by decide +kernel
theorem dX3_start_20 : decode cX3_start 20 = .ok (.istore_n 1, 1) := by decide +kernel
theorem dX3_start_21 : decode cX3_start 21 = .ok (.iconst 0, 1) := by decide +kernel
theorem dX3_start_22 : decode cX3_start 22 = .ok (.istore_n 2, 1) := by decide +kernel
theorem dX3_start_23 : decode cX3_start 23 = .ok (.iload_n 2, 1) := by decide +kernel
theorem dX3_start_24 : decode cX3_start 24 = .ok (.aload_n 0, 1) := by decide +kernel
theorem dX3_start_25 : decode cX3_start 25 = .ok (.getfield 36, 3) := by decide +kernel
theorem dX3_start_28 : decode cX3_start 28 = .ok (.arraylength, 1) := by decide +kernel
theorem dX3_start_29 : decode cX3_start 29 = .ok (.if_icmp .ge 42, 3) := by decide +kernel
theorem dX3_start_32 : decode cX3_start 32 = .ok (.aload_n 0, 1) := by decide +kernel
theorem dX3_start_33 : decode cX3_start 33 = .ok (.getfield 36, 3) := by decide +kernel
theorem dX3_start_36 : decode cX3_start 36 = .ok (.iload_n 2, 1) := by decide +kernel
theorem dX3_start_37 : decode cX3_start 37 = .ok (.aaload, 1) := by decide +kernel
theorem dX3_start_38 : decode cX3_start 38 = .ok (.astore_n 3, 1) := by decide +kernel
theorem dX3_start_39 : decode cX3_start 39 = .ok (.aload_n 3, 1) := by decide +kernel
theorem dX3_start_40 : decode cX3_start 40 = .ok (.getfield 93, 3) := by decide +kernel
theorem dX3_start_43 : decode cX3_start 43 = .ok (.ifCond .eq 22, 3) := by decide +kernel
theorem dX3_start_46 : decode cX3_start 46 = .ok (.aload_n 3, 1) := by decide +kernel
theorem dX3_start_47 : decode cX3_start 47 = .ok (.invokevirtual 76, 3) := by decide +kernel
theorem dX3_start_50 : decode cX3_start 50 = .ok (.ifCond .ne 15, 3) := by decide +kernel
theorem dX3_start_53 : decode cX3_start 53 = .ok (.aload_n 3, 1) := by decide +kernel
theorem dX3_start_54 : decode cX3_start 54 = .ok (.invokevirtual 143, 3) := by decide +kernel
theorem dX3_start_57 : decode cX3_start 57 = .ok (.aload_n 3, 1) := by decide +kernel
theorem dX3_start_58 : decode cX3_start 58 = .ok (.iconst 0, 1) := by decide +kernel
theorem dX3_start_59 : decode cX3_start 59 = .ok (.putfield 93, 3) := by decide +kernel
theorem dX3_start_62 : decode cX3_start 62 = .ok (.iinc 1  1, 3) := by decide +kernel
theorem dX3_start_65 : decode cX3_start 65 = .ok (.iinc 2  1, 3) := by decide +kernel
theorem dX3_start_68 : decode cX3_start 68 = .ok (.goto (-45), 3) := by decide +kernel
theorem dX3_start_71 : decode cX3_start 71 = .ok (.iload_n 1, 1) := by decide +kernel
theorem dX3_start_72 : decode cX3_start 72 = .ok (.ireturn, 1) := by decide +kernel
theorem dX3_on_0 : decode cX3_on 0 = .ok (.aload_n 0, 1) := by decide +kernel
theorem dX3_on_1 : decode cX3_on 1 = .ok (.getfield 55, 3) := by decide +kernel
theorem dX3_on_4 : decode cX3_on 4 = .ok (.ireturn, 1) := by decide +kernel
theorem dX3_drive_0 : decode cX3_drive 0 = .ok (.aload_n 0, 1) := by decide +kernel
theorem dX3_drive_1 : decode cX3_drive 1 = .ok (.iload_n 1, 1) := by decide +kernel
theorem dX3_drive_2 : decode cX3_drive 2 = .ok (.invokevirtual 130, 3) := by decide +kernel
theorem dX3_drive_5 : decode cX3_drive 5 = .ok (.ifCond .ne 5, 3) := by decide +kernel
theorem dX3_drive_8 : decode cX3_drive 8 = .ok (.iconst (-1), 1) := by decide +kernel
theorem dX3_drive_9 : decode cX3_drive 9 = .ok (.ireturn, 1) := by decide +kernel
theorem dX3_drive_10 : decode cX3_drive 10 = .ok (.aload_n 0, 1) := by decide +kernel
theorem dX3_drive_11 : decode cX3_drive 11 = .ok (.getfield 44, 3) := by decide +kernel
theorem dX3_drive_14 : decode cX3_drive 14 = .ok (.iload_n 1, 1) := by decide +kernel
theorem dX3_drive_15 : decode cX3_drive 15 = .ok (.baload, 1) := by decide +kernel
theorem dX3_drive_16 : decode cX3_drive 16 = .ok (.ifCond .eq 5, 3) := by decide +kernel
theorem dX3_drive_19 : decode cX3_drive 19 = .ok (.iconst 1, 1) := by decide +kernel
theorem dX3_drive_20 : decode cX3_drive 20 = .ok (.ireturn, 1) := by decide +kernel
theorem dX3_drive_21 : decode cX3_drive 21 = .ok (.aload_n 0, 1) := by decide +kernel
theorem dX3_drive_22 : decode cX3_drive 22 = .ok (.iload_n 1, 1) := by decide +kernel
theorem dX3_drive_23 : decode cX3_drive 23 = .ok (.invokevirtual 146, 3) := by decide +kernel
theorem dX3_drive_26 : decode cX3_drive 26 = .ok (.ifCond .eq 7, 3) := by decide +kernel
theorem dX3_drive_29 : decode cX3_drive 29 = .ok (.iconst 2, 1) := by decide +kernel
theorem dX3_drive_30 : decode cX3_drive 30 = .ok (.goto 4, 3) := by decide +kernel
theorem dX3_drive_33 : decode cX3_drive 33 = .ok (.iconst 0, 1) := by decide +kernel
theorem dX3_drive_34 : decode cX3_drive 34 = .ok (.ireturn, 1) := by decide +kernel
theorem dX3_stripe_0 : decode cX3_stripe 0 = .ok (.aload_n 0, 1) := by decide +kernel
theorem dX3_stripe_1 : decode cX3_stripe 1 = .ok (.iload_n 1, 1) := by decide +kernel
theorem dX3_stripe_2 : decode cX3_stripe 2 = .ok (.invokevirtual 149, 3) := by decide +kernel
theorem dX3_stripe_5 : decode cX3_stripe 5 = .ok (.ifCond .ne 5, 3) := by decide +kernel
theorem dX3_stripe_8 : decode cX3_stripe 8 = .ok (.iconst (-1), 1) := by decide +kernel
theorem dX3_stripe_9 : decode cX3_stripe 9 = .ok (.ireturn, 1) := by decide +kernel
theorem dX3_stripe_10 : decode cX3_stripe 10 = .ok (.aload_n 0, 1) := by decide +kernel
theorem dX3_stripe_11 : decode cX3_stripe 11 = .ok (.getfield 36, 3) := by decide +kernel
theorem dX3_stripe_14 : decode cX3_stripe 14 = .ok (.iload_n 1, 1) := by decide +kernel
theorem dX3_stripe_15 : decode cX3_stripe 15 = .ok (.aaload, 1) := by decide +kernel
theorem dX3_stripe_16 : decode cX3_stripe 16 = .ok (.invokevirtual 76, 3) := by decide +kernel
theorem dX3_stripe_19 : decode cX3_stripe 19 = .ok (.ifCond .eq 5, 3) := by decide +kernel
theorem dX3_stripe_22 : decode cX3_stripe 22 = .ok (.iconst 2, 1) := by decide +kernel
theorem dX3_stripe_23 : decode cX3_stripe 23 = .ok (.ireturn, 1) := by decide +kernel
theorem dX3_stripe_24 : decode cX3_stripe 24 = .ok (.aload_n 0, 1) := by decide +kernel
theorem dX3_stripe_25 : decode cX3_stripe 25 = .ok (.getfield 36, 3) := by decide +kernel
theorem dX3_stripe_28 : decode cX3_stripe 28 = .ok (.iload_n 1, 1) := by decide +kernel
theorem dX3_stripe_29 : decode cX3_stripe 29 = .ok (.aaload, 1) := by decide +kernel
theorem dX3_stripe_30 : decode cX3_stripe 30 = .ok (.getfield 93, 3) := by decide +kernel
theorem dX3_stripe_33 : decode cX3_stripe 33 = .ok (.ifCond .eq 7, 3) := by decide +kernel
theorem dX3_stripe_36 : decode cX3_stripe 36 = .ok (.iconst 1, 1) := by decide +kernel
theorem dX3_stripe_37 : decode cX3_stripe 37 = .ok (.goto 4, 3) := by decide +kernel
theorem dX3_stripe_40 : decode cX3_stripe 40 = .ok (.iconst 0, 1) := by decide +kernel
theorem dX3_stripe_41 : decode cX3_stripe 41 = .ok (.ireturn, 1) := by decide +kernel
theorem dX3_word_0 : decode cX3_word 0 = .ok (.aload_n 0, 1) := by decide +kernel
theorem dX3_word_1 : decode cX3_word 1 = .ok (.iload_n 1, 1) := by decide +kernel
theorem dX3_word_2 : decode cX3_word 2 = .ok (.invokevirtual 130, 3) := by decide +kernel
theorem dX3_word_5 : decode cX3_word 5 = .ok (.ifCond .eq 26, 3) := by decide +kernel
theorem dX3_word_8 : decode cX3_word 8 = .ok (.aload_n 0, 1) := by decide +kernel
theorem dX3_word_9 : decode cX3_word 9 = .ok (.iload_n 2, 1) := by decide +kernel
theorem dX3_word_10 : decode cX3_word 10 = .ok (.invokevirtual 149, 3) := by decide +kernel
theorem dX3_word_13 : decode cX3_word 13 = .ok (.ifCond .eq 18, 3) := by decide +kernel
theorem dX3_word_16 : decode cX3_word 16 = .ok (.iload_n 3, 1) := by decide +kernel
theorem dX3_word_17 : decode cX3_word 17 = .ok (.ifCond .lt 14, 3) := by decide +kernel
theorem dX3_word_20 : decode cX3_word 20 = .ok (.iload_n 3, 1) := by decide +kernel
theorem dX3_word_21 : decode cX3_word 21 = .ok (.aload_n 0, 1) := by decide +kernel
theorem dX3_word_22 : decode cX3_word 22 = .ok (.getfield 32, 3) := by decide +kernel
theorem dX3_word_25 : decode cX3_word 25 = .ok (.getfield 40, 3) := by decide +kernel
theorem dX3_word_28 : decode cX3_word 28 = .ok (.if_icmp .lt 5, 3) := by decide +kernel
theorem dX3_word_31 : decode cX3_word 31 = .ok (.iconst 0, 1) := by decide +kernel
theorem dX3_word_32 : decode cX3_word 32 = .ok (.ireturn, 1) := by decide +kernel
theorem dX3_word_33 : decode cX3_word 33 = .ok (.aload_n 0, 1) := by decide +kernel
theorem dX3_word_34 : decode cX3_word 34 = .ok (.getfield 36, 3) := by decide +kernel
theorem dX3_word_37 : decode cX3_word 37 = .ok (.iload_n 2, 1) := by decide +kernel
theorem dX3_word_38 : decode cX3_word 38 = .ok (.aaload, 1) := by decide +kernel
theorem dX3_word_39 : decode cX3_word 39 = .ok (.getfield 152, 3) := by decide +kernel
theorem dX3_word_42 : decode cX3_word 42 = .ok (.aload_n 0, 1) := by decide +kernel
theorem dX3_word_43 : decode cX3_word 43 = .ok (.getfield 32, 3) := by decide +kernel
theorem dX3_word_46 : decode cX3_word 46 = .ok (.iload_n 1, 1) := by decide +kernel
theorem dX3_word_47 : decode cX3_word 47 = .ok (.iload_n 3, 1) := by decide +kernel
theorem dX3_word_48 : decode cX3_word 48 = .ok (.invokevirtual 156, 3) := by decide +kernel
theorem dX3_word_51 : decode cX3_word 51 = .ok (.iaload, 1) := by decide +kernel
theorem dX3_word_52 : decode cX3_word 52 = .ok (.ireturn, 1) := by decide +kernel
theorem dX3_agree_0 : decode cX3_agree 0 = .ok (.aload_n 0, 1) := by decide +kernel
theorem dX3_agree_1 : decode cX3_agree 1 = .ok (.iload_n 1, 1) := by decide +kernel
theorem dX3_agree_2 : decode cX3_agree 2 = .ok (.invokevirtual 149, 3) := by decide +kernel
theorem dX3_agree_5 : decode cX3_agree 5 = .ok (.ifCond .eq 15, 3) := by decide +kernel
theorem dX3_agree_8 : decode cX3_agree 8 = .ok (.aload_n 0, 1) := by decide +kernel
theorem dX3_agree_9 : decode cX3_agree 9 = .ok (.getfield 36, 3) := by decide +kernel
theorem dX3_agree_12 : decode cX3_agree 12 = .ok (.iload_n 1, 1) := by decide +kernel
theorem dX3_agree_13 : decode cX3_agree 13 = .ok (.aaload, 1) := by decide +kernel
theorem dX3_agree_14 : decode cX3_agree 14 = .ok (.invokevirtual 159, 3) := by decide +kernel
theorem dX3_agree_17 : decode cX3_agree 17 = .ok (.goto 4, 3) := by decide +kernel
theorem dX3_agree_20 : decode cX3_agree 20 = .ok (.iconst (-1), 1) := by decide +kernel
theorem dX3_agree_21 : decode cX3_agree 21 = .ok (.ireturn, 1) := by decide +kernel
theorem dX3_nearestSize_0 : decode cX3_nearestSize 0 = .ok (.iconst 0, 1) := by decide +kernel
theorem dX3_nearestSize_1 : decode cX3_nearestSize 1 = .ok (.istore_n 1, 1) := by decide +kernel
theorem dX3_nearestSize_2 : decode cX3_nearestSize 2 = .ok (.iload_n 1, 1) := by decide +kernel
theorem dX3_nearestSize_3 : decode cX3_nearestSize 3 = .ok (.getstatic 162, 3) := by decide +kernel
theorem dX3_nearestSize_6 : decode cX3_nearestSize 6 = .ok (.arraylength, 1) := by decide +kernel
theorem dX3_nearestSize_7 : decode cX3_nearestSize 7 = .ok (.if_icmp .ge 24, 3) := by decide +kernel
theorem dX3_nearestSize_10 : decode cX3_nearestSize 10 = .ok (.getstatic 162, 3) := by decide +kernel
theorem dX3_nearestSize_13 : decode cX3_nearestSize 13 = .ok (.iload_n 1, 1) := by decide +kernel
theorem dX3_nearestSize_14 : decode cX3_nearestSize 14 = .ok (.iaload, 1) := by decide +kernel
theorem dX3_nearestSize_15 : decode cX3_nearestSize 15 = .ok (.iload_n 0, 1) := by decide +kernel
theorem dX3_nearestSize_16 : decode cX3_nearestSize 16 = .ok (.if_icmp .lt 9, 3) := by decide +kernel
theorem dX3_nearestSize_19 : decode cX3_nearestSize 19 = .ok (.getstatic 162, 3) := by decide +kernel
theorem dX3_nearestSize_22 : decode cX3_nearestSize 22 = .ok (.iload_n 1, 1) := by decide +kernel
theorem dX3_nearestSize_23 : decode cX3_nearestSize 23 = .ok (.iaload, 1) := by decide +kernel
theorem dX3_nearestSize_24 : decode cX3_nearestSize 24 = .ok (.ireturn, 1) := by decide +kernel
theorem dX3_nearestSize_25 : decode cX3_nearestSize 25 = .ok (.iinc 1  1, 3) := by decide +kernel
theorem dX3_nearestSize_28 : decode cX3_nearestSize 28 = .ok (.goto (-26), 3) := by decide +kernel
theorem dX3_nearestSize_31 : decode cX3_nearestSize 31 = .ok (.getstatic 162, 3) := by decide +kernel
theorem dX3_nearestSize_34 : decode cX3_nearestSize 34 = .ok (.getstatic 162, 3) := by decide +kernel
theorem dX3_nearestSize_37 : decode cX3_nearestSize 37 = .ok (.arraylength, 1) := by decide +kernel
theorem dX3_nearestSize_38 : decode cX3_nearestSize 38 = .ok (.iconst 1, 1) := by decide +kernel
theorem dX3_nearestSize_39 : decode cX3_nearestSize 39 = .ok (.isub, 1) := by decide +kernel
theorem dX3_nearestSize_40 : decode cX3_nearestSize 40 = .ok (.iaload, 1) := by decide +kernel
theorem dX3_nearestSize_41 : decode cX3_nearestSize 41 = .ok (.ireturn, 1) := by decide +kernel
theorem dX3_isBlock_0 : decode cX3_isBlock 0 = .ok (.iload_n 1, 1) := by decide +kernel
theorem dX3_isBlock_1 : decode cX3_isBlock 1 = .ok (.ifCond .lt 24, 3) := by decide +kernel
theorem dX3_isBlock_4 : decode cX3_isBlock 4 = .ok (.iload_n 1, 1) := by decide +kernel
theorem dX3_isBlock_5 : decode cX3_isBlock 5 = .ok (.aload_n 0, 1) := by decide +kernel
theorem dX3_isBlock_6 : decode cX3_isBlock 6 = .ok (.getfield 36, 3) := by decide +kernel
theorem dX3_isBlock_9 : decode cX3_isBlock 9 = .ok (.arraylength, 1) := by decide +kernel
theorem dX3_isBlock_10 : decode cX3_isBlock 10 = .ok (.aload_n 0, 1) := by decide +kernel
theorem dX3_isBlock_11 : decode cX3_isBlock 11 = .ok (.getfield 32, 3) := by decide +kernel
theorem dX3_isBlock_14 : decode cX3_isBlock 14 = .ok (.getfield 62, 3) := by decide +kernel
theorem dX3_isBlock_17 : decode cX3_isBlock 17 = .ok (.imul, 1) := by decide +kernel
theorem dX3_isBlock_18 : decode cX3_isBlock 18 = .ok (.if_icmp .ge 7, 3) := by decide +kernel
theorem dX3_isBlock_21 : decode cX3_isBlock 21 = .ok (.iconst 1, 1) := by decide +kernel
theorem dX3_isBlock_22 : decode cX3_isBlock 22 = .ok (.goto 4, 3) := by decide +kernel
theorem dX3_isBlock_25 : decode cX3_isBlock 25 = .ok (.iconst 0, 1) := by decide +kernel
theorem dX3_isBlock_26 : decode cX3_isBlock 26 = .ok (.ireturn, 1) := by decide +kernel
theorem dX3_isDrive_0 : decode cX3_isDrive 0 = .ok (.iload_n 1, 1) := by decide +kernel
theorem dX3_isDrive_1 : decode cX3_isDrive 1 = .ok (.ifCond .lt 18, 3) := by decide +kernel
theorem dX3_isDrive_4 : decode cX3_isDrive 4 = .ok (.iload_n 1, 1) := by decide +kernel
theorem dX3_isDrive_5 : decode cX3_isDrive 5 = .ok (.aload_n 0, 1) := by decide +kernel
theorem dX3_isDrive_6 : decode cX3_isDrive 6 = .ok (.getfield 32, 3) := by decide +kernel
theorem dX3_isDrive_9 : decode cX3_isDrive 9 = .ok (.getfield 40, 3) := by decide +kernel
theorem dX3_isDrive_12 : decode cX3_isDrive 12 = .ok (.if_icmp .ge 7, 3) := by decide +kernel
theorem dX3_isDrive_15 : decode cX3_isDrive 15 = .ok (.iconst 1, 1) := by decide +kernel
theorem dX3_isDrive_16 : decode cX3_isDrive 16 = .ok (.goto 4, 3) := by decide +kernel
theorem dX3_isDrive_19 : decode cX3_isDrive 19 = .ok (.iconst 0, 1) := by decide +kernel
theorem dX3_isDrive_20 : decode cX3_isDrive 20 = .ok (.ireturn, 1) := by decide +kernel
theorem dX3_isStripe_0 : decode cX3_isStripe 0 = .ok (.iload_n 1, 1) := by decide +kernel
theorem dX3_isStripe_1 : decode cX3_isStripe 1 = .ok (.ifCond .lt 16, 3) := by decide +kernel
theorem dX3_isStripe_4 : decode cX3_isStripe 4 = .ok (.iload_n 1, 1) := by decide +kernel
theorem dX3_isStripe_5 : decode cX3_isStripe 5 = .ok (.aload_n 0, 1) := by decide +kernel
theorem dX3_isStripe_6 : decode cX3_isStripe 6 = .ok (.getfield 36, 3) := by decide +kernel
theorem dX3_isStripe_9 : decode cX3_isStripe 9 = .ok (.arraylength, 1) := by decide +kernel
theorem dX3_isStripe_10 : decode cX3_isStripe 10 = .ok (.if_icmp .ge 7, 3) := by decide +kernel
theorem dX3_isStripe_13 : decode cX3_isStripe 13 = .ok (.iconst 1, 1) := by decide +kernel
theorem dX3_isStripe_14 : decode cX3_isStripe 14 = .ok (.goto 4, 3) := by decide +kernel
theorem dX3_isStripe_17 : decode cX3_isStripe 17 = .ok (.iconst 0, 1) := by decide +kernel
theorem dX3_isStripe_18 : decode cX3_isStripe 18 = .ok (.ireturn, 1) := by decide +kernel
theorem dX3_lostDrives_0 : decode cX3_lostDrives 0 = .ok (.iconst 0, 1) := by decide +kernel
theorem dX3_lostDrives_1 : decode cX3_lostDrives 1 = .ok (.istore_n 1, 1) := by decide +kernel
theorem dX3_lostDrives_2 : decode cX3_lostDrives 2 = .ok (.iconst 0, 1) := by decide +kernel
theorem dX3_lostDrives_3 : decode cX3_lostDrives 3 = .ok (.istore_n 2, 1) := by decide +kernel
theorem dX3_lostDrives_4 : decode cX3_lostDrives 4 = .ok (.iload_n 2, 1) := by decide +kernel
theorem dX3_lostDrives_5 : decode cX3_lostDrives 5 = .ok (.aload_n 0, 1) := by decide +kernel
theorem dX3_lostDrives_6 : decode cX3_lostDrives 6 = .ok (.getfield 32, 3) := by decide +kernel
theorem dX3_lostDrives_9 : decode cX3_lostDrives 9 = .ok (.getfield 40, 3) := by decide +kernel
theorem dX3_lostDrives_12 : decode cX3_lostDrives 12 = .ok (.if_icmp .ge 21, 3) := by decide +kernel
theorem dX3_lostDrives_15 : decode cX3_lostDrives 15 = .ok (.aload_n 0, 1) := by decide +kernel
theorem dX3_lostDrives_16 : decode cX3_lostDrives 16 = .ok (.getfield 44, 3) := by decide +kernel
theorem dX3_lostDrives_19 : decode cX3_lostDrives 19 = .ok (.iload_n 2, 1) := by decide +kernel
theorem dX3_lostDrives_20 : decode cX3_lostDrives 20 = .ok (.baload, 1) := by decide +kernel
theorem dX3_lostDrives_21 : decode cX3_lostDrives 21 = .ok (.ifCond .eq 6, 3) := by decide +kernel
theorem dX3_lostDrives_24 : decode cX3_lostDrives 24 = .ok (.iinc 1  1, 3) := by decide +kernel
theorem dX3_lostDrives_27 : decode cX3_lostDrives 27 = .ok (.iinc 2  1, 3) := by decide +kernel
theorem dX3_lostDrives_30 : decode cX3_lostDrives 30 = .ok (.goto (-26), 3) := by decide +kernel
theorem dX3_lostDrives_33 : decode cX3_lostDrives 33 = .ok (.iload_n 1, 1) := by decide +kernel
theorem dX3_lostDrives_34 : decode cX3_lostDrives 34 = .ok (.ireturn, 1) := by decide +kernel
theorem dX3_incompleteDrives_0 : decode cX3_incompleteDrives 0 = .ok (.iconst 0, 1) := by decide +kernel
theorem dX3_incompleteDrives_1 : decode cX3_incompleteDrives 1 = .ok (.istore_n 1, 1) := by decide +kernel
theorem dX3_incompleteDrives_2 : decode cX3_incompleteDrives 2 = .ok (.iconst 0, 1) := by decide +kernel
theorem dX3_incompleteDrives_3 : decode cX3_incompleteDrives 3 = .ok (.istore_n 2, 1) := by decide +kernel
theorem dX3_incompleteDrives_4 : decode cX3_incompleteDrives 4 = .ok (.iload_n 2, 1) := by decide +kernel
theorem dX3_incompleteDrives_5 : decode cX3_incompleteDrives 5 = .ok (.aload_n 0, 1) := by decide +kernel
theorem dX3_incompleteDrives_6 : decode cX3_incompleteDrives 6 = .ok (.getfield 32, 3) := by decide +kernel
theorem dX3_incompleteDrives_9 : decode cX3_incompleteDrives 9 = .ok (.getfield 40, 3) := by decide +kernel
theorem dX3_incompleteDrives_12 : decode cX3_incompleteDrives 12 = .ok (.if_icmp .ge 20, 3) := by decide +kernel
theorem dX3_incompleteDrives_15 : decode cX3_incompleteDrives 15 = .ok (.aload_n 0, 1) := by decide +kernel
theorem dX3_incompleteDrives_16 : decode cX3_incompleteDrives 16 = .ok (.iload_n 2, 1) := by decide +kernel
theorem dX3_incompleteDrives_17 : decode cX3_incompleteDrives 17 = .ok (.invokevirtual 146, 3) := by decide +kernel
theorem dX3_incompleteDrives_20 : decode cX3_incompleteDrives 20 = .ok (.ifCond .eq 6, 3) := by decide +kernel
theorem dX3_incompleteDrives_23 : decode cX3_incompleteDrives 23 = .ok (.iinc 1  1, 3) := by decide +kernel
theorem dX3_incompleteDrives_26 : decode cX3_incompleteDrives 26 = .ok (.iinc 2  1, 3) := by decide +kernel
theorem dX3_incompleteDrives_29 : decode cX3_incompleteDrives 29 = .ok (.goto (-25), 3) := by decide +kernel
theorem dX3_incompleteDrives_32 : decode cX3_incompleteDrives 32 = .ok (.iload_n 1, 1) := by decide +kernel
theorem dX3_incompleteDrives_33 : decode cX3_incompleteDrives 33 = .ok (.ireturn, 1) := by decide +kernel
theorem dX3_missesSomeStripe_0 : decode cX3_missesSomeStripe 0 = .ok (.iconst 0, 1) := by decide +kernel
theorem dX3_missesSomeStripe_1 : decode cX3_missesSomeStripe 1 = .ok (.istore_n 2, 1) := by decide +kernel
theorem dX3_missesSomeStripe_2 : decode cX3_missesSomeStripe 2 = .ok (.iload_n 2, 1) := by decide +kernel
theorem dX3_missesSomeStripe_3 : decode cX3_missesSomeStripe 3 = .ok (.aload_n 0, 1) := by decide +kernel
theorem dX3_missesSomeStripe_4 : decode cX3_missesSomeStripe 4 = .ok (.getfield 36, 3) := by decide +kernel
theorem dX3_missesSomeStripe_7 : decode cX3_missesSomeStripe 7 = .ok (.arraylength, 1) := by decide +kernel
theorem dX3_missesSomeStripe_8 : decode cX3_missesSomeStripe 8 = .ok (.if_icmp .ge 25, 3) := by decide +kernel
theorem dX3_missesSomeStripe_11 : decode cX3_missesSomeStripe 11 = .ok (.aload_n 0, 1) := by decide +kernel
theorem dX3_missesSomeStripe_12 : decode cX3_missesSomeStripe 12 = .ok (.getfield 36, 3) := by decide +kernel
theorem dX3_missesSomeStripe_15 : decode cX3_missesSomeStripe 15 = .ok (.iload_n 2, 1) := by decide +kernel
theorem dX3_missesSomeStripe_16 : decode cX3_missesSomeStripe 16 = .ok (.aaload, 1) := by decide +kernel
theorem dX3_missesSomeStripe_17 : decode cX3_missesSomeStripe 17 = .ok (.getfield 122, 3) := by decide +kernel
theorem dX3_missesSomeStripe_20 : decode cX3_missesSomeStripe 20 = .ok (.iload_n 1, 1) := by decide +kernel
theorem dX3_missesSomeStripe_21 : decode cX3_missesSomeStripe 21 = .ok (.baload, 1) := by decide +kernel
theorem dX3_missesSomeStripe_22 : decode cX3_missesSomeStripe 22 = .ok (.ifCond .eq 5, 3) := by decide +kernel
theorem dX3_missesSomeStripe_25 : decode cX3_missesSomeStripe 25 = .ok (.iconst 1, 1) := by decide +kernel
theorem dX3_missesSomeStripe_26 : decode cX3_missesSomeStripe 26 = .ok (.ireturn, 1) := by decide +kernel
theorem dX3_missesSomeStripe_27 : decode cX3_missesSomeStripe 27 = .ok (.iinc 2  1, 3) := by decide +kernel
theorem dX3_missesSomeStripe_30 : decode cX3_missesSomeStripe 30 = .ok (.goto (-28), 3) := by decide +kernel
theorem dX3_missesSomeStripe_33 : decode cX3_missesSomeStripe 33 = .ok (.iconst 0, 1) := by decide +kernel
theorem dX3_missesSomeStripe_34 : decode cX3_missesSomeStripe 34 = .ok (.ireturn, 1) := by decide +kernel
theorem dX3_isNewIn_0 : decode cX3_isNewIn 0 = .ok (.aload_n 1, 1) := by decide +kernel
theorem dX3_isNewIn_1 : decode cX3_isNewIn 1 = .ok (.getfield 122, 3) := by decide +kernel
theorem dX3_isNewIn_4 : decode cX3_isNewIn 4 = .ok (.iload_n 2, 1) := by decide +kernel
theorem dX3_isNewIn_5 : decode cX3_isNewIn 5 = .ok (.baload, 1) := by decide +kernel
theorem dX3_isNewIn_6 : decode cX3_isNewIn 6 = .ok (.ifCond .eq 16, 3) := by decide +kernel
theorem dX3_isNewIn_9 : decode cX3_isNewIn 9 = .ok (.aload_n 0, 1) := by decide +kernel
theorem dX3_isNewIn_10 : decode cX3_isNewIn 10 = .ok (.getfield 44, 3) := by decide +kernel
theorem dX3_isNewIn_13 : decode cX3_isNewIn 13 = .ok (.iload_n 2, 1) := by decide +kernel
theorem dX3_isNewIn_14 : decode cX3_isNewIn 14 = .ok (.baload, 1) := by decide +kernel
theorem dX3_isNewIn_15 : decode cX3_isNewIn 15 = .ok (.ifCond .ne 7, 3) := by decide +kernel
theorem dX3_isNewIn_18 : decode cX3_isNewIn 18 = .ok (.iconst 1, 1) := by decide +kernel
theorem dX3_isNewIn_19 : decode cX3_isNewIn 19 = .ok (.goto 4, 3) := by decide +kernel
theorem dX3_isNewIn_22 : decode cX3_isNewIn 22 = .ok (.iconst 0, 1) := by decide +kernel
theorem dX3_isNewIn_23 : decode cX3_isNewIn 23 = .ok (.ireturn, 1) := by decide +kernel
theorem dX3_hasNewDrive_0 : decode cX3_hasNewDrive 0 = .ok (.iconst 0, 1) := by decide +kernel
theorem dX3_hasNewDrive_1 : decode cX3_hasNewDrive 1 = .ok (.istore_n 2, 1) := by decide +kernel
theorem dX3_hasNewDrive_2 : decode cX3_hasNewDrive 2 = .ok (.iload_n 2, 1) := by decide +kernel
theorem dX3_hasNewDrive_3 : decode cX3_hasNewDrive 3 = .ok (.aload_n 0, 1) := by decide +kernel
theorem dX3_hasNewDrive_4 : decode cX3_hasNewDrive 4 = .ok (.getfield 32, 3) := by decide +kernel
theorem dX3_hasNewDrive_7 : decode cX3_hasNewDrive 7 = .ok (.getfield 40, 3) := by decide +kernel
theorem dX3_hasNewDrive_10 : decode cX3_hasNewDrive 10 = .ok (.if_icmp .ge 20, 3) := by decide +kernel
theorem dX3_hasNewDrive_13 : decode cX3_hasNewDrive 13 = .ok (.aload_n 0, 1) := by decide +kernel
theorem dX3_hasNewDrive_14 : decode cX3_hasNewDrive 14 = .ok (.aload_n 1, 1) := by decide +kernel
theorem dX3_hasNewDrive_15 : decode cX3_hasNewDrive 15 = .ok (.iload_n 2, 1) := by decide +kernel
theorem dX3_hasNewDrive_16 : decode cX3_hasNewDrive 16 = .ok (.invokevirtual 165, 3) := by decide +kernel
theorem dX3_hasNewDrive_19 : decode cX3_hasNewDrive 19 = .ok (.ifCond .eq 5, 3) := by decide +kernel
theorem dX3_hasNewDrive_22 : decode cX3_hasNewDrive 22 = .ok (.iconst 1, 1) := by decide +kernel
theorem dX3_hasNewDrive_23 : decode cX3_hasNewDrive 23 = .ok (.ireturn, 1) := by decide +kernel
theorem dX3_hasNewDrive_24 : decode cX3_hasNewDrive 24 = .ok (.iinc 2  1, 3) := by decide +kernel
theorem dX3_hasNewDrive_27 : decode cX3_hasNewDrive 27 = .ok (.goto (-25), 3) := by decide +kernel
theorem dX3_hasNewDrive_30 : decode cX3_hasNewDrive 30 = .ok (.iconst 0, 1) := by decide +kernel
theorem dX3_hasNewDrive_31 : decode cX3_hasNewDrive 31 = .ok (.ireturn, 1) := by decide +kernel
theorem dX3_valueOf_0 : decode cX3_valueOf 0 = .ok (.aload_n 0, 1) := by decide +kernel
theorem dX3_valueOf_1 : decode cX3_valueOf 1 = .ok (.getfield 32, 3) := by decide +kernel
theorem dX3_valueOf_4 : decode cX3_valueOf 4 = .ok (.iload_n 2, 1) := by decide +kernel
theorem dX3_valueOf_5 : decode cX3_valueOf 5 = .ok (.iload_n 3, 1) := by decide +kernel
theorem dX3_valueOf_6 : decode cX3_valueOf 6 = .ok (.invokevirtual 156, 3) := by decide +kernel
theorem dX3_valueOf_9 : decode cX3_valueOf 9 = .ok (.istore 4, 2) := by decide +kernel
theorem dX3_valueOf_11 : decode cX3_valueOf 11 = .ok (.aload_n 1, 1) := by decide +kernel
theorem dX3_valueOf_12 : decode cX3_valueOf 12 = .ok (.getfield 122, 3) := by decide +kernel
theorem dX3_valueOf_15 : decode cX3_valueOf 15 = .ok (.iload_n 2, 1) := by decide +kernel
theorem dX3_valueOf_16 : decode cX3_valueOf 16 = .ok (.baload, 1) := by decide +kernel
theorem dX3_valueOf_17 : decode cX3_valueOf 17 = .ok (.ifCond .ne 11, 3) := by decide +kernel
theorem dX3_valueOf_20 : decode cX3_valueOf 20 = .ok (.aload_n 1, 1) := by decide +kernel
theorem dX3_valueOf_21 : decode cX3_valueOf 21 = .ok (.getfield 152, 3) := by decide +kernel
theorem dX3_valueOf_24 : decode cX3_valueOf 24 = .ok (.iload 4, 2) := by decide +kernel
theorem dX3_valueOf_26 : decode cX3_valueOf 26 = .ok (.iaload, 1) := by decide +kernel
theorem dX3_valueOf_27 : decode cX3_valueOf 27 = .ok (.ireturn, 1) := by decide +kernel
theorem dX3_valueOf_28 : decode cX3_valueOf 28 = .ok (.aload_n 0, 1) := by decide +kernel
theorem dX3_valueOf_29 : decode cX3_valueOf 29 = .ok (.getfield 51, 3) := by decide +kernel
theorem dX3_valueOf_32 : decode cX3_valueOf 32 = .ok (.aload_n 1, 1) := by decide +kernel
theorem dX3_valueOf_33 : decode cX3_valueOf 33 = .ok (.invokevirtual 169, 3) := by decide +kernel
theorem dX3_valueOf_36 : decode cX3_valueOf 36 = .ok (.aload_n 0, 1) := by decide +kernel
theorem dX3_valueOf_37 : decode cX3_valueOf 37 = .ok (.getfield 51, 3) := by decide +kernel
theorem dX3_valueOf_40 : decode cX3_valueOf 40 = .ok (.getfield 173, 3) := by decide +kernel
theorem dX3_valueOf_43 : decode cX3_valueOf 43 = .ok (.iload 4, 2) := by decide +kernel
theorem dX3_valueOf_45 : decode cX3_valueOf 45 = .ok (.iaload, 1) := by decide +kernel
theorem dX3_valueOf_46 : decode cX3_valueOf 46 = .ok (.ireturn, 1) := by decide +kernel
theorem dX3_takeTurn_0 : decode cX3_takeTurn 0 = .ok (.aload_n 0, 1) := by decide +kernel
theorem dX3_takeTurn_1 : decode cX3_takeTurn 1 = .ok (.getfield 59, 3) := by decide +kernel
theorem dX3_takeTurn_4 : decode cX3_takeTurn 4 = .ok (.ifCond .ne 10, 3) := by decide +kernel
theorem dX3_takeTurn_7 : decode cX3_takeTurn 7 = .ok (.aload_n 0, 1) := by decide +kernel
theorem dX3_takeTurn_8 : decode cX3_takeTurn 8 = .ok (.iconst 0, 1) := by decide +kernel
theorem dX3_takeTurn_9 : decode cX3_takeTurn 9 = .ok (.putfield 55, 3) := by decide +kernel
theorem dX3_takeTurn_12 : decode cX3_takeTurn 12 = .ok (.iconst 0, 1) := by decide +kernel
theorem dX3_takeTurn_13 : decode cX3_takeTurn 13 = .ok (.ireturn, 1) := by decide +kernel
theorem dX3_takeTurn_14 : decode cX3_takeTurn 14 = .ok (.aload_n 0, 1) := by decide +kernel
theorem dX3_takeTurn_15 : decode cX3_takeTurn 15 = .ok (.getfield 59, 3) := by decide +kernel
theorem dX3_takeTurn_18 : decode cX3_takeTurn 18 = .ok (.ifCond .le 13, 3) := by decide +kernel
theorem dX3_takeTurn_21 : decode cX3_takeTurn 21 = .ok (.aload_n 0, 1) := by decide +kernel
theorem dX3_takeTurn_22 : decode cX3_takeTurn 22 = .ok (.dup, 1) := by decide +kernel
theorem dX3_takeTurn_23 : decode cX3_takeTurn 23 = .ok (.getfield 59, 3) := by decide +kernel
theorem dX3_takeTurn_26 : decode cX3_takeTurn 26 = .ok (.iconst 1, 1) := by decide +kernel
theorem dX3_takeTurn_27 : decode cX3_takeTurn 27 = .ok (.isub, 1) := by decide +kernel
theorem dX3_takeTurn_28 : decode cX3_takeTurn 28 = .ok (.putfield 59, 3) := by decide +kernel
theorem dX3_takeTurn_31 : decode cX3_takeTurn 31 = .ok (.iconst 1, 1) := by decide +kernel
theorem dX3_takeTurn_32 : decode cX3_takeTurn 32 = .ok (.ireturn, 1) := by decide +kernel
theorem dX3_put_0 : decode cX3_put 0 = .ok (.aload_n 0, 1) := by decide +kernel
theorem dX3_put_1 : decode cX3_put 1 = .ok (.invokevirtual 174, 3) := by decide +kernel
theorem dX3_put_4 : decode cX3_put 4 = .ok (.ifCond .ne 5, 3) := by decide +kernel
theorem dX3_put_7 : decode cX3_put 7 = .ok (.iconst 0, 1) := by decide +kernel
theorem dX3_put_8 : decode cX3_put 8 = .ok (.ireturn, 1) := by decide +kernel
theorem dX3_put_9 : decode cX3_put 9 = .ok (.aload_n 1, 1) := by decide +kernel
theorem dX3_put_10 : decode cX3_put 10 = .ok (.getfield 152, 3) := by decide +kernel
theorem dX3_put_13 : decode cX3_put 13 = .ok (.aload_n 0, 1) := by decide +kernel
theorem dX3_put_14 : decode cX3_put 14 = .ok (.getfield 32, 3) := by decide +kernel
theorem dX3_put_17 : decode cX3_put 17 = .ok (.iload_n 2, 1) := by decide +kernel
theorem dX3_put_18 : decode cX3_put 18 = .ok (.iload_n 3, 1) := by decide +kernel
theorem dX3_put_19 : decode cX3_put 19 = .ok (.invokevirtual 156, 3) := by decide +kernel
theorem dX3_put_22 : decode cX3_put 22 = .ok (.iload 4, 2) := by decide +kernel
theorem dX3_put_24 : decode cX3_put 24 = .ok (.iastore, 1) := by decide +kernel
theorem dX3_put_25 : decode cX3_put 25 = .ok (.iconst 1, 1) := by decide +kernel
theorem dX3_put_26 : decode cX3_put 26 = .ok (.ireturn, 1) := by decide +kernel
theorem dX3_putIfPresent_0 : decode cX3_putIfPresent 0 = .ok (.aload_n 1, 1) := by decide +kernel
theorem dX3_putIfPresent_1 : decode cX3_putIfPresent 1 = .ok (.getfield 122, 3) := by decide +kernel
theorem dX3_putIfPresent_4 : decode cX3_putIfPresent 4 = .ok (.iload_n 2, 1) := by decide +kernel
theorem dX3_putIfPresent_5 : decode cX3_putIfPresent 5 = .ok (.baload, 1) := by decide +kernel
theorem dX3_putIfPresent_6 : decode cX3_putIfPresent 6 = .ok (.ifCond .ne 15, 3) := by decide +kernel
theorem dX3_putIfPresent_9 : decode cX3_putIfPresent 9 = .ok (.aload_n 0, 1) := by decide +kernel
theorem dX3_putIfPresent_10 : decode cX3_putIfPresent 10 = .ok (.aload_n 1, 1) := by decide +kernel
theorem dX3_putIfPresent_11 : decode cX3_putIfPresent 11 = .ok (.iload_n 2, 1) := by decide +kernel
theorem dX3_putIfPresent_12 : decode cX3_putIfPresent 12 = .ok (.iload_n 3, 1) := by decide +kernel
theorem dX3_putIfPresent_13 : decode cX3_putIfPresent 13 = .ok (.iload 4, 2) := by decide +kernel
theorem dX3_putIfPresent_15 : decode cX3_putIfPresent 15 = .ok (.invokevirtual 177, 3) := by decide +kernel
theorem dX3_putIfPresent_18 : decode cX3_putIfPresent 18 = .ok (.ifCond .eq 7, 3) := by decide +kernel
theorem dX3_putIfPresent_21 : decode cX3_putIfPresent 21 = .ok (.iconst 1, 1) := by decide +kernel
theorem dX3_putIfPresent_22 : decode cX3_putIfPresent 22 = .ok (.goto 4, 3) := by decide +kernel
theorem dX3_putIfPresent_25 : decode cX3_putIfPresent 25 = .ok (.iconst 0, 1) := by decide +kernel
theorem dX3_putIfPresent_26 : decode cX3_putIfPresent 26 = .ok (.ireturn, 1) := by decide +kernel
theorem dX3_changeParity_0 : decode cX3_changeParity 0 = .ok (.aload_n 0, 1) := by decide +kernel
theorem dX3_changeParity_1 : decode cX3_changeParity 1 = .ok (.getfield 32, 3) := by decide +kernel
theorem dX3_changeParity_4 : decode cX3_changeParity 4 = .ok (.iload_n 2, 1) := by decide +kernel
theorem dX3_changeParity_5 : decode cX3_changeParity 5 = .ok (.iload_n 3, 1) := by decide +kernel
theorem dX3_changeParity_6 : decode cX3_changeParity 6 = .ok (.iload 4, 2) := by decide +kernel
theorem dX3_changeParity_8 : decode cX3_changeParity 8 = .ok (.invokevirtual 180, 3) := by decide +kernel
theorem dX3_changeParity_11 : decode cX3_changeParity 11 = .ok (.istore 6, 2) := by decide +kernel
theorem dX3_changeParity_13 : decode cX3_changeParity 13 = .ok (.aload_n 0, 1) := by decide +kernel
theorem dX3_changeParity_14 : decode cX3_changeParity 14 = .ok (.aload_n 1, 1) := by decide +kernel
theorem dX3_changeParity_15 : decode cX3_changeParity 15 = .ok (.iload 6, 2) := by decide +kernel
theorem dX3_changeParity_17 : decode cX3_changeParity 17 = .ok (.iload 4, 2) := by decide +kernel
theorem dX3_changeParity_19 : decode cX3_changeParity 19 = .ok (.aload_n 1, 1) := by decide +kernel
theorem dX3_changeParity_20 : decode cX3_changeParity 20 = .ok (.getfield 152, 3) := by decide +kernel
theorem dX3_changeParity_23 : decode cX3_changeParity 23 = .ok (.aload_n 0, 1) := by decide +kernel
theorem dX3_changeParity_24 : decode cX3_changeParity 24 = .ok (.getfield 32, 3) := by decide +kernel
theorem dX3_changeParity_27 : decode cX3_changeParity 27 = .ok (.iload 6, 2) := by decide +kernel
theorem dX3_changeParity_29 : decode cX3_changeParity 29 = .ok (.iload 4, 2) := by decide +kernel
theorem dX3_changeParity_31 : decode cX3_changeParity 31 = .ok (.invokevirtual 156, 3) := by decide +kernel
theorem dX3_changeParity_34 : decode cX3_changeParity 34 = .ok (.iaload, 1) := by decide +kernel
theorem dX3_changeParity_35 : decode cX3_changeParity 35 = .ok (.iload 5, 2) := by decide +kernel
theorem dX3_changeParity_37 : decode cX3_changeParity 37 = .ok (.ixor, 1) := by decide +kernel
theorem dX3_changeParity_38 : decode cX3_changeParity 38 = .ok (.invokevirtual 96, 3) := by decide +kernel
theorem dX3_changeParity_41 : decode cX3_changeParity 41 = .ok (.ireturn, 1) := by decide +kernel
theorem dX3_rebuildStripe_0 : decode cX3_rebuildStripe 0 = .ok (.aload_n 0, 1) := by decide +kernel
theorem dX3_rebuildStripe_1 : decode cX3_rebuildStripe 1 = .ok (.getfield 51, 3) := by decide +kernel
theorem dX3_rebuildStripe_4 : decode cX3_rebuildStripe 4 = .ok (.aload_n 1, 1) := by decide +kernel
theorem dX3_rebuildStripe_5 : decode cX3_rebuildStripe 5 = .ok (.invokevirtual 169, 3) := by decide +kernel
theorem dX3_rebuildStripe_8 : decode cX3_rebuildStripe 8 = .ok (.iconst 0, 1) := by decide +kernel
theorem dX3_rebuildStripe_9 : decode cX3_rebuildStripe 9 = .ok (.istore_n 2, 1) := by decide +kernel
theorem dX3_rebuildStripe_10 : decode cX3_rebuildStripe 10 = .ok (.iload_n 2, 1) := by decide +kernel
theorem dX3_rebuildStripe_11 : decode cX3_rebuildStripe 11 = .ok (.aload_n 0, 1) := by decide +kernel
theorem dX3_rebuildStripe_12 : decode cX3_rebuildStripe 12 = .ok (.getfield 32, 3) := by decide +kernel
theorem dX3_rebuildStripe_15 : decode cX3_rebuildStripe 15 = .ok (.getfield 40, 3) := by decide +kernel
theorem dX3_rebuildStripe_18 : decode cX3_rebuildStripe 18 = .ok (.if_icmp .ge 29, 3) := by decide +kernel
theorem dX3_rebuildStripe_21 : decode cX3_rebuildStripe 21 = .ok (.aload_n 0, 1) := by decide +kernel
theorem dX3_rebuildStripe_22 : decode cX3_rebuildStripe 22 = .ok (.aload_n 1, 1) := by decide +kernel
theorem dX3_rebuildStripe_23 : decode cX3_rebuildStripe 23 = .ok (.iload_n 2, 1) := by decide +kernel
theorem dX3_rebuildStripe_24 : decode cX3_rebuildStripe 24 = .ok (.invokevirtual 165, 3) := by decide +kernel
theorem dX3_rebuildStripe_27 : decode cX3_rebuildStripe 27 = .ok (.ifCond .eq 14, 3) := by decide +kernel
theorem dX3_rebuildStripe_30 : decode cX3_rebuildStripe 30 = .ok (.aload_n 0, 1) := by decide +kernel
theorem dX3_rebuildStripe_31 : decode cX3_rebuildStripe 31 = .ok (.aload_n 1, 1) := by decide +kernel
theorem dX3_rebuildStripe_32 : decode cX3_rebuildStripe 32 = .ok (.iload_n 2, 1) := by decide +kernel
theorem dX3_rebuildStripe_33 : decode cX3_rebuildStripe 33 = .ok (.invokevirtual 184, 3) := by decide +kernel
theorem dX3_rebuildStripe_36 : decode cX3_rebuildStripe 36 = .ok (.ifCond .ne 5, 3) := by decide +kernel
theorem dX3_rebuildStripe_39 : decode cX3_rebuildStripe 39 = .ok (.iconst 0, 1) := by decide +kernel
theorem dX3_rebuildStripe_40 : decode cX3_rebuildStripe 40 = .ok (.ireturn, 1) := by decide +kernel
theorem dX3_rebuildStripe_41 : decode cX3_rebuildStripe 41 = .ok (.iinc 2  1, 3) := by decide +kernel
theorem dX3_rebuildStripe_44 : decode cX3_rebuildStripe 44 = .ok (.goto (-34), 3) := by decide +kernel
theorem dX3_rebuildStripe_47 : decode cX3_rebuildStripe 47 = .ok (.iconst 0, 1) := by decide +kernel
theorem dX3_rebuildStripe_48 : decode cX3_rebuildStripe 48 = .ok (.istore_n 2, 1) := by decide +kernel
theorem dX3_rebuildStripe_49 : decode cX3_rebuildStripe 49 = .ok (.iload_n 2, 1) := by decide +kernel
theorem dX3_rebuildStripe_50 : decode cX3_rebuildStripe 50 = .ok (.aload_n 0, 1) := by decide +kernel
theorem dX3_rebuildStripe_51 : decode cX3_rebuildStripe 51 = .ok (.getfield 32, 3) := by decide +kernel
theorem dX3_rebuildStripe_54 : decode cX3_rebuildStripe 54 = .ok (.getfield 40, 3) := by decide +kernel
theorem dX3_rebuildStripe_57 : decode cX3_rebuildStripe 57 = .ok (.if_icmp .ge 25, 3) := by decide +kernel
theorem dX3_rebuildStripe_60 : decode cX3_rebuildStripe 60 = .ok (.aload_n 0, 1) := by decide +kernel
theorem dX3_rebuildStripe_61 : decode cX3_rebuildStripe 61 = .ok (.aload_n 1, 1) := by decide +kernel
theorem dX3_rebuildStripe_62 : decode cX3_rebuildStripe 62 = .ok (.iload_n 2, 1) := by decide +kernel
theorem dX3_rebuildStripe_63 : decode cX3_rebuildStripe 63 = .ok (.invokevirtual 165, 3) := by decide +kernel
theorem dX3_rebuildStripe_66 : decode cX3_rebuildStripe 66 = .ok (.ifCond .eq 10, 3) := by decide +kernel
theorem dX3_rebuildStripe_69 : decode cX3_rebuildStripe 69 = .ok (.aload_n 1, 1) := by decide +kernel
theorem dX3_rebuildStripe_70 : decode cX3_rebuildStripe 70 = .ok (.getfield 122, 3) := by decide +kernel
theorem dX3_rebuildStripe_73 : decode cX3_rebuildStripe 73 = .ok (.iload_n 2, 1) := by decide +kernel
theorem dX3_rebuildStripe_74 : decode cX3_rebuildStripe 74 = .ok (.iconst 0, 1) := by decide +kernel
theorem dX3_rebuildStripe_75 : decode cX3_rebuildStripe 75 = .ok (.bastore, 1) := by decide +kernel
theorem dX3_rebuildStripe_76 : decode cX3_rebuildStripe 76 = .ok (.iinc 2  1, 3) := by decide +kernel
theorem dX3_rebuildStripe_79 : decode cX3_rebuildStripe 79 = .ok (.goto (-30), 3) := by decide +kernel
theorem dX3_rebuildStripe_82 : decode cX3_rebuildStripe 82 = .ok (.iconst 1, 1) := by decide +kernel
theorem dX3_rebuildStripe_83 : decode cX3_rebuildStripe 83 = .ok (.ireturn, 1) := by decide +kernel
theorem dX3_putDrive_0 : decode cX3_putDrive 0 = .ok (.iconst 0, 1) := by decide +kernel
theorem dX3_putDrive_1 : decode cX3_putDrive 1 = .ok (.istore_n 3, 1) := by decide +kernel
theorem dX3_putDrive_2 : decode cX3_putDrive 2 = .ok (.iload_n 3, 1) := by decide +kernel
theorem dX3_putDrive_3 : decode cX3_putDrive 3 = .ok (.aload_n 0, 1) := by decide +kernel
theorem dX3_putDrive_4 : decode cX3_putDrive 4 = .ok (.getfield 32, 3) := by decide +kernel
theorem dX3_putDrive_7 : decode cX3_putDrive 7 = .ok (.getfield 40, 3) := by decide +kernel
theorem dX3_putDrive_10 : decode cX3_putDrive 10 = .ok (.if_icmp .ge 38, 3) := by decide +kernel
theorem dX3_putDrive_13 : decode cX3_putDrive 13 = .ok (.aload_n 0, 1) := by decide +kernel
theorem dX3_putDrive_14 : decode cX3_putDrive 14 = .ok (.aload_n 1, 1) := by decide +kernel
theorem dX3_putDrive_15 : decode cX3_putDrive 15 = .ok (.iload_n 2, 1) := by decide +kernel
theorem dX3_putDrive_16 : decode cX3_putDrive 16 = .ok (.iload_n 3, 1) := by decide +kernel
theorem dX3_putDrive_17 : decode cX3_putDrive 17 = .ok (.aload_n 0, 1) := by decide +kernel
theorem dX3_putDrive_18 : decode cX3_putDrive 18 = .ok (.getfield 51, 3) := by decide +kernel
theorem dX3_putDrive_21 : decode cX3_putDrive 21 = .ok (.getfield 173, 3) := by decide +kernel
theorem dX3_putDrive_24 : decode cX3_putDrive 24 = .ok (.aload_n 0, 1) := by decide +kernel
theorem dX3_putDrive_25 : decode cX3_putDrive 25 = .ok (.getfield 32, 3) := by decide +kernel
theorem dX3_putDrive_28 : decode cX3_putDrive 28 = .ok (.iload_n 2, 1) := by decide +kernel
theorem dX3_putDrive_29 : decode cX3_putDrive 29 = .ok (.iload_n 3, 1) := by decide +kernel
theorem dX3_putDrive_30 : decode cX3_putDrive 30 = .ok (.invokevirtual 156, 3) := by decide +kernel
theorem dX3_putDrive_33 : decode cX3_putDrive 33 = .ok (.iaload, 1) := by decide +kernel
theorem dX3_putDrive_34 : decode cX3_putDrive 34 = .ok (.invokevirtual 177, 3) := by decide +kernel
theorem dX3_putDrive_37 : decode cX3_putDrive 37 = .ok (.ifCond .ne 5, 3) := by decide +kernel
theorem dX3_putDrive_40 : decode cX3_putDrive 40 = .ok (.iconst 0, 1) := by decide +kernel
theorem dX3_putDrive_41 : decode cX3_putDrive 41 = .ok (.ireturn, 1) := by decide +kernel
theorem dX3_putDrive_42 : decode cX3_putDrive 42 = .ok (.iinc 3  1, 3) := by decide +kernel
theorem dX3_putDrive_45 : decode cX3_putDrive 45 = .ok (.goto (-43), 3) := by decide +kernel
theorem dX3_putDrive_48 : decode cX3_putDrive 48 = .ok (.iconst 1, 1) := by decide +kernel
theorem dX3_putDrive_49 : decode cX3_putDrive 49 = .ok (.ireturn, 1) := by decide +kernel
end
section
/-! the ring's own words: a range, a value, a turn; all stripes' cells -/
def dr_in (x : Int32) (n : Nat) : Bool := decide (¬ x < 0 ∧ ¬ nI n ≤ x)
theorem dr_in_t {x : Int32} {n : Nat} (hn : n < 2 ^ 31) (h : dr_in x n = true) : ∃ j : Nat, j < n ∧ x = nI j := by
  obtain ⟨h1, h2⟩ := of_decide_eq_true h
  obtain ⟨j, -, rfl⟩ := nI_of h1
  rcases pk_ix (nI j) hn with z | z | z
  · exact absurd z h1
  · exact absurd z h2
  · exact z
theorem dr_in_of {n j : Nat} (hn : n < 2 ^ 31) (h : j < n) : dr_in (nI j) n = true := decide_eq_true ⟨nI_pos (by omega), nI_ge h hn⟩
def dr_vt (P : Nat) (ms : Nat → Bool) (w : Nat → Int32) (x : dr_T) (d : Nat) : dr_T := if ms d = true then dr_tell P ms w x.1 x.2.1 else x
def dr_va (P : Nat) (ms : Nat → Bool) (w : Nat → Int32) (x : dr_T) (d k : Nat) : Int32 := if ms d = true then (dr_tell P ms w x.1 x.2.1).2.1 (d * P + k) else w (d * P + k)
def dr_tp (pw : Bool) (tn : Int32) : Bool := if tn = 0 then false else pw
def dr_tn (tn : Int32) : Int32 := if 0 < tn then tn - 1 else tn
theorem dr_pdr_stop {P : Nat} {tw : Nat → Int32} {d : Nat} {x : dr_X} : ∀ {n i : Nat}, i ≤ n → (dr_pdr P tw d x i).1 = false → dr_pdr P tw d x n = dr_pdr P tw d x i
  | 0, i, h, _ => by rw [Nat.le_zero.mp h]
  | n + 1, i, h, hf => by
    by_cases e : i = n + 1
    · rw [e]
    · have ih := dr_pdr_stop (P := P) (tw := tw) (d := d) (x := x) (n := n) (i := i) (by omega) hf
      rw [dr_pdr, ih, hf]
      simp
theorem dr_pdr_false {P : Nat} {tw : Nat → Int32} {d : Nat} {x0 x : dr_X} {n i : Nat} (hi : i < n) (hx : dr_pdr P tw d x0 i = (true, x)) (hf : (dr_put P x d i (tw (d * P + i))).1 = false) : dr_pdr P tw d x0 n = dr_put P x d i (tw (d * P + i)) := by
  have e : dr_pdr P tw d x0 (i + 1) = dr_put P x d i (tw (d * P + i)) := by rw [dr_pdr, hx, if_pos rfl]
  rw [dr_pdr_stop (show i + 1 ≤ n from hi) (by rw [e]; exact hf), e]
theorem dr_rbl_stop {P : Nat} {lo ms : Nat → Bool} {tw : Nat → Int32} {x : dr_X} : ∀ {n i : Nat}, i ≤ n → (dr_rbl P lo ms tw x i).1 = false → dr_rbl P lo ms tw x n = dr_rbl P lo ms tw x i
  | 0, i, h, _ => by rw [Nat.le_zero.mp h]
  | n + 1, i, h, hf => by
    by_cases e : i = n + 1
    · rw [e]
    · have ih := dr_rbl_stop (P := P) (lo := lo) (ms := ms) (tw := tw) (x := x) (n := n) (i := i) (by omega) hf
      rw [dr_rbl, ih, hf]
      simp
theorem dr_rbl_false {P : Nat} {lo ms : Nat → Bool} {tw : Nat → Int32} {x0 x : dr_X} {n i : Nat} (hi : i < n) (hx : dr_rbl P lo ms tw x0 i = (true, x)) (hn : (ms i && !lo i) = true) (hf : (dr_pdr P tw i x P).1 = false) : dr_rbl P lo ms tw x0 n = dr_pdr P tw i x P := by
  have e : dr_rbl P lo ms tw x0 (i + 1) = dr_pdr P tw i x P := by rw [dr_rbl, hx, if_pos rfl, if_pos hn]
  rw [dr_rbl_stop (show i + 1 ≤ n from hi) (by rw [e]; exact hf), e]
/-- a stripe's three cells, all stripes' cells, all but one's -/
def stC (cI cB : ClassId) (aS P : Nat) (aT aW aM : Nat → Nat) (w : Nat → Nat → Int32) (ms : Nat → Nat → Bool) (mk : Nat → Bool) (s : Nat) : va_W :=
  [(aT s, .inr (1, [.ref aS, .ref (aW s), .ref (aM s), .int (bI (mk s))])), (aW s, .inl (cI, P * P, .inl (w s))), (aM s, .inl (cB, P, .inl (fun z9 => bI (ms s z9))))]
def stW (cI cB : ClassId) (aS P : Nat) (aT aW aM : Nat → Nat) (w : Nat → Nat → Int32) (ms : Nat → Nat → Bool) (mk : Nat → Bool) (n : Nat) : va_W := (List.range n).flatMap (stC cI cB aS P aT aW aM w ms mk)
def stO (cI cB : ClassId) (aS P : Nat) (aT aW aM : Nat → Nat) (w : Nat → Nat → Int32) (ms : Nat → Nat → Bool) (mk : Nat → Bool) (n s : Nat) : va_W := ((List.range n).erase s).flatMap (stC cI cB aS P aT aW aM w ms mk)
section FOC
variable {D : va_G} {cl : List vw_C} {A : Nat → Prop} {H : Heap} {pre : va_W} {cI cB : ClassId} {aS P n s : Nat} {aT aW aM : Nat → Nat} {w : Nat → Nat → Int32} {ms : Nat → Nat → Bool} {mk : Nat → Bool}
theorem foc_perm (hs : s < n) : (stW cI cB aS P aT aW aM w ms mk n).Perm (stC cI cB aS P aT aW aM w ms mk s ++ stO cI cB aS P aT aW aM w ms mk n s) := by
  have h1 : (List.range n).Perm (s :: (List.range n).erase s) := List.perm_cons_erase (List.mem_range.mpr hs)
  have h2 := h1.flatMap_right (stC cI cB aS P aT aW aM w ms mk)
  rw [List.flatMap_cons] at h2
  exact h2
theorem foc_P (h : va_P D cl (pre ++ stW cI cB aS P aT aW aM w ms mk n) H) (hs : s < n) : va_P D cl (pre ++ (stC cI cB aS P aT aW aM w ms mk s ++ stO cI cB aS P aT aW aM w ms mk n s)) H :=
  h.perm ((foc_perm hs).symm.append_left pre)
theorem foc_D (h : va_D A (pre ++ stW cI cB aS P aT aW aM w ms mk n)) (hs : s < n) : va_D A (pre ++ (stC cI cB aS P aT aW aM w ms mk s ++ stO cI cB aS P aT aW aM w ms mk n s)) :=
  h.perm ((foc_perm hs).symm.append_left pre)
theorem unf0_P (h : va_P D cl (pre ++ (stC cI cB aS P aT aW aM w ms mk s ++ stO cI cB aS P aT aW aM w ms mk n s)) H) (hs : s < n) : va_P D cl (pre ++ stW cI cB aS P aT aW aM w ms mk n) H :=
  h.perm ((foc_perm hs).append_left pre)
theorem unf0_D (h : va_D A (pre ++ (stC cI cB aS P aT aW aM w ms mk s ++ stO cI cB aS P aT aW aM w ms mk n s))) (hs : s < n) : va_D A (pre ++ stW cI cB aS P aT aW aM w ms mk n) :=
  h.perm ((foc_perm hs).append_left pre)
theorem stO_up (wn : Nat → Int32) (mn : Nat → Bool) (kn : Bool) : stO cI cB aS P aT aW aM (va_up w s wn) (va_up ms s mn) (va_up mk s kn) n s = stO cI cB aS P aT aW aM w ms mk n s := by
  unfold stO
  have hn : ∀ t ∈ (List.range n).erase s, t ≠ s := fun t ht => ((List.Nodup.mem_erase_iff List.nodup_range).mp ht).1
  generalize (List.range n).erase s = l at hn
  induction l with
  | nil => rfl
  | cons t l ih =>
    rw [List.flatMap_cons, List.flatMap_cons, ih (fun u hu => hn u (List.mem_cons_of_mem _ hu))]
    congr 1
    have := hn t List.mem_cons_self
    simp only [stC, va_up, if_neg this]
theorem stC_up (wn : Nat → Int32) (mn : Nat → Bool) (kn : Bool) : stC cI cB aS P aT aW aM (va_up w s wn) (va_up ms s mn) (va_up mk s kn) s = [(aT s, .inr (1, [.ref aS, .ref (aW s), .ref (aM s), .int (bI kn)])), (aW s, .inl (cI, P * P, .inl wn)), (aM s, .inl (cB, P, .inl (fun z9 => bI (mn z9))))] := by
  simp only [stC, va_up_s]
theorem unf_P {wn : Nat → Int32} {mn : Nat → Bool} {kn : Bool} (h : va_P D cl (pre ++ ([(aT s, .inr (1, [.ref aS, .ref (aW s), .ref (aM s), .int (bI kn)])), (aW s, .inl (cI, P * P, .inl wn)), (aM s, .inl (cB, P, .inl (fun z9 => bI (mn z9))))] ++ stO cI cB aS P aT aW aM w ms mk n s)) H) (hs : s < n) : va_P D cl (pre ++ stW cI cB aS P aT aW aM (va_up w s wn) (va_up ms s mn) (va_up mk s kn) n) H := by
  rw [← stC_up (w := w) (ms := ms) (mk := mk), ← stO_up wn mn kn] at h
  exact unf0_P h hs
theorem unf_D {wn : Nat → Int32} {mn : Nat → Bool} {kn : Bool} (h : va_D A (pre ++ ([(aT s, .inr (1, [.ref aS, .ref (aW s), .ref (aM s), .int (bI kn)])), (aW s, .inl (cI, P * P, .inl wn)), (aM s, .inl (cB, P, .inl (fun z9 => bI (mn z9))))] ++ stO cI cB aS P aT aW aM w ms mk n s))) (hs : s < n) : va_D A (pre ++ stW cI cB aS P aT aW aM (va_up w s wn) (va_up ms s mn) (va_up mk s kn) n) := by
  rw [← stC_up (w := w) (ms := ms) (mk := mk), ← stO_up wn mn kn] at h
  exact unf0_D h hs
end FOC
end
section
abbrev rm_c_isDrive : Room := { frames := 0, cells := 0, slots := 0, locals := 0 }
set_option maxHeartbeats 4000000 in
set_option maxRecDepth 100000 in
theorem c_isDrive (l : Launch) (dC : Nat → ClassId) (dI : Nat → Nat → Nat) (cI cB cQ cJ : ClassId) (aR : Nat) (aS : Nat) (aA : Nat) (aL : Nat) (aE : Nat) (pw : Bool) (tn : Int32) (P : Nat) (x : Int32)  : MG l yX3_isDrive (Cond.code yX3_isDrive cX3_isDrive 2 (some .boolean) :: TB) rm_c_isDrive (dC, dI) vwCl (TY cI cB cQ cJ) [.ref aR, .int x] [(aR, .inr (3, [.ref aS, .ref aA, .ref aL, .ref aE, .int (bI pw), .int tn])), (aS, .inr (0, [.int (nI P), .int (nI (P - 2)), .int (nI (P - 1)), .int (nI (P * (P - 2)))]))] (fun (r : Int32) (u : Unit) => r = bI (dr_in x P)) (fun (u : Unit) => [(aR, .inr (3, [.ref aS, .ref aA, .ref aL, .ref aE, .int (bI pw), .int tn])), (aS, .inr (0, [.int (nI P), .int (nI (P - 2)), .int (nI (P - 1)), .int (nI (P * (P - 2)))]))]) := by
  refine MG.ofW (cc := cX3_isDrive) (maxL := 2) (rt := .boolean) (by decide +kernel) rfl (Nat.le_of_ble_eq_true rfl) ?_
  intro p e s m args below meth c A ls Q H locs hQ hx hb hml hr hlk hts hown hK hP hD hS hA hl
  have hts : ∀ w ∈ TB, w.before args s = true := fun w h => hts w (List.mem_cons_of_mem _ h)
  have hown : s.vm.findClass RX3 = some m.cls := hown
  have hl : lv_has ls 2 [(0, .ref aR), (1, .int x)] := hl
  have hP : va_P (dC, dI) vwCl [(aR, .inr (3, [.ref aS, .ref aA, .ref aL, .ref aE, .int (bI pw), .int tn])), (aS, .inr (0, [.int (nI P), .int (nI (P - 2)), .int (nI (P - 1)), .int (nI (P * (P - 2)))]))] H := hP
  have hD : va_D A [(aR, .inr (3, [.ref aS, .ref aA, .ref aL, .ref aE, .int (bI pw), .int tn])), (aS, .inr (0, [.int (nI P), .int (nI (P - 2)), .int (nI (P - 1)), .int (nI (P * (P - 2)))]))] := hD
  refine lv_iload_n hx hb dX3_isDrive_0 rfl (lv_at hl 1 rfl) ?_
  refine lv_if_lt (tgt := 19) hx hb dX3_isDrive_1 (by decide) (fun h1 => ?_) (fun h1 => ?_)
  · -- 1t
    refine lv_iconst (v := bI false) hx hb dX3_isDrive_19 (by decide) ?_
    exact x_zret (D := (dC, dI)) (cl := vwCl) (A := A) () hQ hx hb hr hlk hP hD hS dX3_isDrive_20 (by first | rfl | (simp [dr_in, h1]; done) | (simp [dr_in, h1]; omega))
  · -- 1f
    refine lv_iload_n hx hb dX3_isDrive_4 rfl (lv_at hl 1 rfl) ?_
    refine lv_aload_n hx hb dX3_isDrive_5 rfl (lv_at hl 0 rfl) ?_
    refine va_get (D := (dC, dI)) (ci := 3) (v := .ref aS) (C := RX3) (T := TX3) (N := 6) hx hb hts inX3 hown hK hP 0 rfl rfl 0 (by decide) (hts _ t_fX3_32) (fun _ h9 => h9) rfl dX3_isDrive_6 ?_
    refine va_get (D := (dC, dI)) (ci := 0) (v := .int (nI P)) (C := RX0) (T := TX0) (N := 4) hx hb hts inX0 hown hK hP 1 rfl rfl 0 (by decide) (hts _ t_fX3_40) (fun _ h9 => h9) rfl dX3_isDrive_9 ?_
    refine lv_icmp_ge (tgt := 19) hx hb dX3_isDrive_12 (by decide) (fun h12 => ?_) (fun h12 => ?_)
    · -- 12t
      refine lv_iconst (v := bI false) hx hb dX3_isDrive_19 (by decide) ?_
      exact x_zret (D := (dC, dI)) (cl := vwCl) (A := A) () hQ hx hb hr hlk hP hD hS dX3_isDrive_20 (by first | rfl | (simp [dr_in, h1, h12]; done) | (simp [dr_in, h1, h12]; omega))
    · -- 12f
      refine lv_iconst (v := bI true) hx hb dX3_isDrive_15 (by decide) ?_
      refine lv_goto (tgt := 20) hx hb dX3_isDrive_16 (by decide) ?_
      exact x_zret (D := (dC, dI)) (cl := vwCl) (A := A) () hQ hx hb hr hlk hP hD hS dX3_isDrive_20 (by first | rfl | (simp [dr_in, h1, h12]; done) | (simp [dr_in, h1, h12]; omega))

abbrev rm_c_isStripe : Room := { frames := 0, cells := 0, slots := 0, locals := 0 }
set_option maxHeartbeats 4000000 in
set_option maxRecDepth 100000 in
theorem c_isStripe (l : Launch) (dC : Nat → ClassId) (dI : Nat → Nat → Nat) (cI cB cQ cJ : ClassId) (aR : Nat) (aS : Nat) (aA : Nat) (aL : Nat) (aE : Nat) (pw : Bool) (tn : Int32) (n : Nat) (aTs : Nat → Nat) (x : Int32)  : MG l yX3_isStripe (Cond.code yX3_isStripe cX3_isStripe 2 (some .boolean) :: TB) rm_c_isStripe (dC, dI) vwCl (TY cI cB cQ cJ) [.ref aR, .int x] [(aR, .inr (3, [.ref aS, .ref aA, .ref aL, .ref aE, .int (bI pw), .int tn])), (aA, .inl (cQ, n, .inr (.inr (.inr (.inr (fun z8 => some (aTs z8)))))))] (fun (r : Int32) (u : Unit) => r = bI (dr_in x n)) (fun (u : Unit) => [(aR, .inr (3, [.ref aS, .ref aA, .ref aL, .ref aE, .int (bI pw), .int tn])), (aA, .inl (cQ, n, .inr (.inr (.inr (.inr (fun z8 => some (aTs z8)))))))]) := by
  refine MG.ofW (cc := cX3_isStripe) (maxL := 2) (rt := .boolean) (by decide +kernel) rfl (Nat.le_of_ble_eq_true rfl) ?_
  intro p e s m args below meth c A ls Q H locs hQ hx hb hml hr hlk hts hown hK hP hD hS hA hl
  have hts : ∀ w ∈ TB, w.before args s = true := fun w h => hts w (List.mem_cons_of_mem _ h)
  have hown : s.vm.findClass RX3 = some m.cls := hown
  have hl : lv_has ls 2 [(0, .ref aR), (1, .int x)] := hl
  have hP : va_P (dC, dI) vwCl [(aR, .inr (3, [.ref aS, .ref aA, .ref aL, .ref aE, .int (bI pw), .int tn])), (aA, .inl (cQ, n, .inr (.inr (.inr (.inr (fun z8 => some (aTs z8)))))))] H := hP
  have hD : va_D A [(aR, .inr (3, [.ref aS, .ref aA, .ref aL, .ref aE, .int (bI pw), .int tn])), (aA, .inl (cQ, n, .inr (.inr (.inr (.inr (fun z8 => some (aTs z8)))))))] := hD
  refine lv_iload_n hx hb dX3_isStripe_0 rfl (lv_at hl 1 rfl) ?_
  refine lv_if_lt (tgt := 17) hx hb dX3_isStripe_1 (by decide) (fun h1 => ?_) (fun h1 => ?_)
  · -- 1t
    refine lv_iconst (v := bI false) hx hb dX3_isStripe_17 (by decide) ?_
    exact x_zret (D := (dC, dI)) (cl := vwCl) (A := A) () hQ hx hb hr hlk hP hD hS dX3_isStripe_18 (by first | rfl | (simp [dr_in, h1]; done) | (simp [dr_in, h1]; omega))
  · -- 1f
    refine lv_iload_n hx hb dX3_isStripe_4 rfl (lv_at hl 1 rfl) ?_
    refine lv_aload_n hx hb dX3_isStripe_5 rfl (lv_at hl 0 rfl) ?_
    refine va_get (D := (dC, dI)) (ci := 3) (v := .ref aA) (C := RX3) (T := TX3) (N := 6) hx hb hts inX3 hown hK hP 0 rfl rfl 1 (by decide) (hts _ t_fX3_36) (fun _ h9 => h9) rfl dX3_isStripe_6 ?_
    refine va_alen (v := nI n) hx hb hK hP 1 2 rfl rfl rfl dX3_isStripe_9 ?_
    refine lv_icmp_ge (tgt := 17) hx hb dX3_isStripe_10 (by decide) (fun h10 => ?_) (fun h10 => ?_)
    · -- 10t
      refine lv_iconst (v := bI false) hx hb dX3_isStripe_17 (by decide) ?_
      exact x_zret (D := (dC, dI)) (cl := vwCl) (A := A) () hQ hx hb hr hlk hP hD hS dX3_isStripe_18 (by first | rfl | (simp [dr_in, h1, h10]; done) | (simp [dr_in, h1, h10]; omega))
    · -- 10f
      refine lv_iconst (v := bI true) hx hb dX3_isStripe_13 (by decide) ?_
      refine lv_goto (tgt := 18) hx hb dX3_isStripe_14 (by decide) ?_
      exact x_zret (D := (dC, dI)) (cl := vwCl) (A := A) () hQ hx hb hr hlk hP hD hS dX3_isStripe_18 (by first | rfl | (simp [dr_in, h1, h10]; done) | (simp [dr_in, h1, h10]; omega))

abbrev rm_c_isBlock : Room := { frames := 0, cells := 0, slots := 0, locals := 0 }
set_option maxHeartbeats 4000000 in
set_option maxRecDepth 100000 in
theorem c_isBlock (l : Launch) (dC : Nat → ClassId) (dI : Nat → Nat → Nat) (cI cB cQ cJ : ClassId) (aR : Nat) (aS : Nat) (aA : Nat) (aL : Nat) (aE : Nat) (pw : Bool) (tn : Int32) (P : Nat) (n : Nat) (aTs : Nat → Nat) (x : Int32)  : MG l yX3_isBlock (Cond.code yX3_isBlock cX3_isBlock 2 (some .boolean) :: TB) rm_c_isBlock (dC, dI) vwCl (TY cI cB cQ cJ) [.ref aR, .int x] [(aR, .inr (3, [.ref aS, .ref aA, .ref aL, .ref aE, .int (bI pw), .int tn])), (aS, .inr (0, [.int (nI P), .int (nI (P - 2)), .int (nI (P - 1)), .int (nI (P * (P - 2)))])), (aA, .inl (cQ, n, .inr (.inr (.inr (.inr (fun z8 => some (aTs z8)))))))] (fun (r : Int32) (u : Unit) => r = bI (dr_in x (n * (P * (P - 2))))) (fun (u : Unit) => [(aR, .inr (3, [.ref aS, .ref aA, .ref aL, .ref aE, .int (bI pw), .int tn])), (aS, .inr (0, [.int (nI P), .int (nI (P - 2)), .int (nI (P - 1)), .int (nI (P * (P - 2)))])), (aA, .inl (cQ, n, .inr (.inr (.inr (.inr (fun z8 => some (aTs z8)))))))]) := by
  refine MG.ofW (cc := cX3_isBlock) (maxL := 2) (rt := .boolean) (by decide +kernel) rfl (Nat.le_of_ble_eq_true rfl) ?_
  intro p e s m args below meth c A ls Q H locs hQ hx hb hml hr hlk hts hown hK hP hD hS hA hl
  have hts : ∀ w ∈ TB, w.before args s = true := fun w h => hts w (List.mem_cons_of_mem _ h)
  have hown : s.vm.findClass RX3 = some m.cls := hown
  have hl : lv_has ls 2 [(0, .ref aR), (1, .int x)] := hl
  have hP : va_P (dC, dI) vwCl [(aR, .inr (3, [.ref aS, .ref aA, .ref aL, .ref aE, .int (bI pw), .int tn])), (aS, .inr (0, [.int (nI P), .int (nI (P - 2)), .int (nI (P - 1)), .int (nI (P * (P - 2)))])), (aA, .inl (cQ, n, .inr (.inr (.inr (.inr (fun z8 => some (aTs z8)))))))] H := hP
  have hD : va_D A [(aR, .inr (3, [.ref aS, .ref aA, .ref aL, .ref aE, .int (bI pw), .int tn])), (aS, .inr (0, [.int (nI P), .int (nI (P - 2)), .int (nI (P - 1)), .int (nI (P * (P - 2)))])), (aA, .inl (cQ, n, .inr (.inr (.inr (.inr (fun z8 => some (aTs z8)))))))] := hD
  refine lv_iload_n hx hb dX3_isBlock_0 rfl (lv_at hl 1 rfl) ?_
  refine lv_if_lt (tgt := 25) hx hb dX3_isBlock_1 (by decide) (fun h1 => ?_) (fun h1 => ?_)
  · -- 1t
    refine lv_iconst (v := bI false) hx hb dX3_isBlock_25 (by decide) ?_
    exact x_zret (D := (dC, dI)) (cl := vwCl) (A := A) () hQ hx hb hr hlk hP hD hS dX3_isBlock_26 (by first | rfl | (simp [dr_in, h1]; done) | (simp [dr_in, h1]; omega))
  · -- 1f
    refine lv_iload_n hx hb dX3_isBlock_4 rfl (lv_at hl 1 rfl) ?_
    refine lv_aload_n hx hb dX3_isBlock_5 rfl (lv_at hl 0 rfl) ?_
    refine va_get (D := (dC, dI)) (ci := 3) (v := .ref aA) (C := RX3) (T := TX3) (N := 6) hx hb hts inX3 hown hK hP 0 rfl rfl 1 (by decide) (hts _ t_fX3_36) (fun _ h9 => h9) rfl dX3_isBlock_6 ?_
    refine va_alen (v := nI n) hx hb hK hP 2 2 rfl rfl rfl dX3_isBlock_9 ?_
    refine lv_aload_n hx hb dX3_isBlock_10 rfl (lv_at hl 0 rfl) ?_
    refine va_get (D := (dC, dI)) (ci := 3) (v := .ref aS) (C := RX3) (T := TX3) (N := 6) hx hb hts inX3 hown hK hP 0 rfl rfl 0 (by decide) (hts _ t_fX3_32) (fun _ h9 => h9) rfl dX3_isBlock_11 ?_
    refine va_get (D := (dC, dI)) (ci := 0) (v := .int (nI (P * (P - 2)))) (C := RX0) (T := TX0) (N := 4) hx hb hts inX0 hown hK hP 1 rfl rfl 3 (by decide) (hts _ t_fX3_62) (fun _ h9 => h9) rfl dX3_isBlock_14 ?_
    refine x_mul hx hb dX3_isBlock_17 ?_
    refine lv_icmp_ge (tgt := 25) hx hb dX3_isBlock_18 (by decide) (fun h18 => ?_) (fun h18 => ?_)
    · -- 18t
      refine lv_iconst (v := bI false) hx hb dX3_isBlock_25 (by decide) ?_
      exact x_zret (D := (dC, dI)) (cl := vwCl) (A := A) () hQ hx hb hr hlk hP hD hS dX3_isBlock_26 (by first | rfl | (simp [dr_in, h1, h18]; done) | (simp [dr_in, h1, h18]; omega))
    · -- 18f
      refine lv_iconst (v := bI true) hx hb dX3_isBlock_21 (by decide) ?_
      refine lv_goto (tgt := 26) hx hb dX3_isBlock_22 (by decide) ?_
      exact x_zret (D := (dC, dI)) (cl := vwCl) (A := A) () hQ hx hb hr hlk hP hD hS dX3_isBlock_26 (by first | rfl | (simp [dr_in, h1, h18]; done) | (simp [dr_in, h1, h18]; omega))

abbrev rm_c_lostDrives : Room := { frames := 0, cells := 0, slots := 0, locals := 0 }
set_option maxHeartbeats 4000000 in
set_option maxRecDepth 100000 in
theorem c_lostDrives (l : Launch) (dC : Nat → ClassId) (dI : Nat → Nat → Nat) (cI cB cQ cJ : ClassId) (aR : Nat) (aS : Nat) (aA : Nat) (aL : Nat) (aE : Nat) (pw : Bool) (tn : Int32) (P : Nat) (lo : Nat → Bool) (hp5 : dr_P P) : MG l yX3_lostDrives (Cond.code yX3_lostDrives cX3_lostDrives 3 (some .int) :: TB) rm_c_lostDrives (dC, dI) vwCl (TY cI cB cQ cJ) [.ref aR] [(aR, .inr (3, [.ref aS, .ref aA, .ref aL, .ref aE, .int (bI pw), .int tn])), (aS, .inr (0, [.int (nI P), .int (nI (P - 2)), .int (nI (P - 1)), .int (nI (P * (P - 2)))])), (aL, .inl (cB, P, .inl (fun z9 => bI (lo z9))))] (fun (r : Int32) (u : Unit) => r = nI (dr_cnt lo P)) (fun (u : Unit) => [(aR, .inr (3, [.ref aS, .ref aA, .ref aL, .ref aE, .int (bI pw), .int tn])), (aS, .inr (0, [.int (nI P), .int (nI (P - 2)), .int (nI (P - 1)), .int (nI (P * (P - 2)))])), (aL, .inl (cB, P, .inl (fun z9 => bI (lo z9))))]) := by
  refine MG.ofW (cc := cX3_lostDrives) (maxL := 3) (rt := .int) (by decide +kernel) rfl (Nat.le_of_ble_eq_true rfl) ?_
  intro p e s m args below meth c A ls Q H locs hQ hx hb hml hr hlk hts hown hK hP hD hS hA hl
  have hts : ∀ w ∈ TB, w.before args s = true := fun w h => hts w (List.mem_cons_of_mem _ h)
  have hown : s.vm.findClass RX3 = some m.cls := hown
  have hl : lv_has ls 3 [(0, .ref aR)] := hl
  have hP : va_P (dC, dI) vwCl [(aR, .inr (3, [.ref aS, .ref aA, .ref aL, .ref aE, .int (bI pw), .int tn])), (aS, .inr (0, [.int (nI P), .int (nI (P - 2)), .int (nI (P - 1)), .int (nI (P * (P - 2)))])), (aL, .inl (cB, P, .inl (fun z9 => bI (lo z9))))] H := hP
  have hD : va_D A [(aR, .inr (3, [.ref aS, .ref aA, .ref aL, .ref aE, .int (bI pw), .int tn])), (aS, .inr (0, [.int (nI P), .int (nI (P - 2)), .int (nI (P - 1)), .int (nI (P * (P - 2)))])), (aL, .inl (cB, P, .inl (fun z9 => bI (lo z9))))] := hD
  have hp := hp5.le
  have hpp := dr_PP hp5
  have hpq := dr_PP2 hp5
  refine lv_iconst (v := nI 0) hx hb dX3_lostDrives_0 (by decide) ?_
  refine lv_istore_n hx hb dX3_lostDrives_1 rfl hl (by decide) rfl (fun ls hl => ?_)
  have hl : lv_has ls 3 [(1, .int (nI 0)), (0, .ref aR)] := hl
  refine lv_iconst (v := nI 0) hx hb dX3_lostDrives_2 (by decide) ?_
  refine lv_istore_n hx hb dX3_lostDrives_3 rfl hl (by decide) rfl (fun ls hl => ?_)
  have hl : lv_has ls 3 [(2, .int (nI 0)), (1, .int (nI 0)), (0, .ref aR)] := hl
  have lp4 : ∀ (n9 : Nat) (i : Nat) (ls : Array Slot) (H : Heap) (locs : List Loc), P - i < n9 → (i ≤ P) → lv_has ls 3 [(2, .int (nI i)), (1, .int (nI (dr_cnt lo i))), (0, .ref aR)] → va_P (dC, dI) vwCl [(aR, .inr (3, [.ref aS, .ref aA, .ref aL, .ref aE, .int (bI pw), .int tn])), (aS, .inr (0, [.int (nI P), .int (nI (P - 2)), .int (nI (P - 1)), .int (nI (P * (P - 2)))])), (aL, .inl (cB, P, .inl (fun z9 => bI (lo z9))))] H → va_D A [(aR, .inr (3, [.ref aS, .ref aA, .ref aL, .ref aE, .int (bI pw), .int tn])), (aS, .inr (0, [.int (nI P), .int (nI (P - 2)), .int (nI (P - 1)), .int (nI (P * (P - 2)))])), (aL, .inl (cB, P, .inl (fun z9 => bI (lo z9))))] → va_S A s.heap H locs → W p l e rm_c_lostDrives s m args below meth c H locs 0 0 Q (F0 m 4 ls []) := by
    intro n9
    induction n9 with
    | zero => intro i ls H locs hn9; omega
    | succ n9 ih4 =>
      intro i ls H locs hn9 hi hl hP hD hS
      refine lv_iload_n hx hb dX3_lostDrives_4 rfl (lv_at hl 0 rfl) ?_
      refine lv_aload_n hx hb dX3_lostDrives_5 rfl (lv_at hl 2 rfl) ?_
      refine va_get (D := (dC, dI)) (ci := 3) (v := .ref aS) (C := RX3) (T := TX3) (N := 6) hx hb hts inX3 hown hK hP 0 rfl rfl 0 (by decide) (hts _ t_fX3_32) (fun _ h9 => h9) rfl dX3_lostDrives_6 ?_
      refine va_get (D := (dC, dI)) (ci := 0) (v := .int (nI P)) (C := RX0) (T := TX0) (N := 4) hx hb hts inX0 hown hK hP 1 rfl rfl 0 (by decide) (hts _ t_fX3_40) (fun _ h9 => h9) rfl dX3_lostDrives_9 ?_
      refine x_cge (tgt := 33) hx hb dX3_lostDrives_12 (by decide) (by omega) (by omega) (fun h12 => ?_) (fun h12 => ?_)
      · -- 12t
        have hie12 : i = P := by omega
        try rw [hie12] at hl
        try rw [hie12] at hP
        try rw [hie12] at hD
        have hl : lv_has ls 3 [(2, .int (nI P)), (1, .int (nI (dr_cnt lo P))), (0, .ref aR)] := hl
        have hP : va_P (dC, dI) vwCl [(aR, .inr (3, [.ref aS, .ref aA, .ref aL, .ref aE, .int (bI pw), .int tn])), (aS, .inr (0, [.int (nI P), .int (nI (P - 2)), .int (nI (P - 1)), .int (nI (P * (P - 2)))])), (aL, .inl (cB, P, .inl (fun z9 => bI (lo z9))))] H := hP
        have hD : va_D A [(aR, .inr (3, [.ref aS, .ref aA, .ref aL, .ref aE, .int (bI pw), .int tn])), (aS, .inr (0, [.int (nI P), .int (nI (P - 2)), .int (nI (P - 1)), .int (nI (P * (P - 2)))])), (aL, .inl (cB, P, .inl (fun z9 => bI (lo z9))))] := hD
        refine lv_iload_n hx hb dX3_lostDrives_33 rfl (lv_at hl 1 rfl) ?_
        exact x_iret (D := (dC, dI)) (cl := vwCl) (A := A) () hQ hx hb hr hlk hP hD hS dX3_lostDrives_34 (by first | rfl | (simp [h12]; done) | (simp [h12]; omega))
      · -- 12f
        refine lv_aload_n hx hb dX3_lostDrives_15 rfl (lv_at hl 2 rfl) ?_
        refine va_get (D := (dC, dI)) (ci := 3) (v := .ref aL) (C := RX3) (T := TX3) (N := 6) hx hb hts inX3 hown hK hP 0 rfl rfl 2 (by decide) (hts _ t_fX3_44) (fun _ h9 => h9) rfl dX3_lostDrives_16 ?_
        refine lv_iload_n hx hb dX3_lostDrives_19 rfl (lv_at hl 0 rfl) ?_
        refine x_zald (g := lo) hx hb hK hP 2 1 rfl rfl dX3_lostDrives_20 (by omega) (by omega) ?_
        refine x_ifF (tgt := 27) hx hb dX3_lostDrives_21 (by decide) (fun h21 => ?_) (fun h21 => ?_)
        · -- 21t
          refine lv_iinc (v := nI (i + 1)) hx hb dX3_lostDrives_27 hl (k := 0) rfl (x_inc _) (by decide) rfl (fun ls hl => ?_)
          have hl : lv_has ls 3 [(2, .int (nI (i + 1))), (1, .int (nI (dr_cnt lo i))), (0, .ref aR)] := hl
          refine lv_goto (tgt := 4) hx hb dX3_lostDrives_30 (by decide) ?_
          have e1 : (dr_cnt lo (i + 1)) = (dr_cnt lo i) := by first | rfl | (simp [dr_cnt, h12, h21]; done) | (simp [dr_cnt, h12, h21]; omega)
          exact ih4 (i + 1) ls H locs (by omega) (by omega) (by rw [e1]; exact lv_sub hl [0, 1, 2] rfl) hP hD hS
        · -- 21f
          refine lv_iinc (v := nI (dr_cnt lo i + 1)) hx hb dX3_lostDrives_24 hl (k := 1) rfl (x_inc _) (by decide) rfl (fun ls hl => ?_)
          have hl : lv_has ls 3 [(1, .int (nI (dr_cnt lo i + 1))), (2, .int (nI i)), (0, .ref aR)] := hl
          refine lv_iinc (v := nI (i + 1)) hx hb dX3_lostDrives_27 hl (k := 1) rfl (x_inc _) (by decide) rfl (fun ls hl => ?_)
          have hl : lv_has ls 3 [(2, .int (nI (i + 1))), (1, .int (nI (dr_cnt lo i + 1))), (0, .ref aR)] := hl
          refine lv_goto (tgt := 4) hx hb dX3_lostDrives_30 (by decide) ?_
          have e2 : (dr_cnt lo (i + 1)) = (dr_cnt lo i + 1) := by first | rfl | (simp [dr_cnt, h12, h21]; done) | (simp [dr_cnt, h12, h21]; omega)
          exact ih4 (i + 1) ls H locs (by omega) (by omega) (by rw [e2]; exact lv_sub hl [0, 1, 2] rfl) hP hD hS
  have e3 : (dr_cnt lo 0) = 0 := by first | rfl | (simp [dr_cnt]; done) | (simp [dr_cnt]; omega)
  exact lp4 (P - 0 + 1) 0 ls H locs (by omega) (by omega) (by rw [e3]; exact lv_sub hl [0, 1, 2] rfl) hP hD hS

abbrev rm_c_isNewIn : Room := { frames := 0, cells := 0, slots := 0, locals := 0 }
set_option maxHeartbeats 4000000 in
set_option maxRecDepth 100000 in
theorem c_isNewIn (l : Launch) (dC : Nat → ClassId) (dI : Nat → Nat → Nat) (cI cB cQ cJ : ClassId) (aR : Nat) (aS : Nat) (aA : Nat) (aL : Nat) (aE : Nat) (pw : Bool) (tn : Int32) (P : Nat) (lo : Nat → Bool) (aT : Nat) (aW : Nat) (aM : Nat) (ms : Nat → Bool) (mk : Bool) (d : Nat) (hp5 : dr_P P) (hd : d < P) : MG l yX3_isNewIn (Cond.code yX3_isNewIn cX3_isNewIn 3 (some .boolean) :: TB) rm_c_isNewIn (dC, dI) vwCl (TY cI cB cQ cJ) [.ref aR, .ref aT, .int (nI d)] [(aR, .inr (3, [.ref aS, .ref aA, .ref aL, .ref aE, .int (bI pw), .int tn])), (aL, .inl (cB, P, .inl (fun z9 => bI (lo z9)))), (aT, .inr (1, [.ref aS, .ref aW, .ref aM, .int (bI mk)])), (aM, .inl (cB, P, .inl (fun z9 => bI (ms z9))))] (fun (r : Int32) (u : Unit) => r = bI (ms d && !lo d)) (fun (u : Unit) => [(aR, .inr (3, [.ref aS, .ref aA, .ref aL, .ref aE, .int (bI pw), .int tn])), (aL, .inl (cB, P, .inl (fun z9 => bI (lo z9)))), (aT, .inr (1, [.ref aS, .ref aW, .ref aM, .int (bI mk)])), (aM, .inl (cB, P, .inl (fun z9 => bI (ms z9))))]) := by
  refine MG.ofW (cc := cX3_isNewIn) (maxL := 3) (rt := .boolean) (by decide +kernel) rfl (Nat.le_of_ble_eq_true rfl) ?_
  intro p e s m args below meth c A ls Q H locs hQ hx hb hml hr hlk hts hown hK hP hD hS hA hl
  have hts : ∀ w ∈ TB, w.before args s = true := fun w h => hts w (List.mem_cons_of_mem _ h)
  have hown : s.vm.findClass RX3 = some m.cls := hown
  have hl : lv_has ls 3 [(0, .ref aR), (1, .ref aT), (2, .int (nI d))] := hl
  have hP : va_P (dC, dI) vwCl [(aR, .inr (3, [.ref aS, .ref aA, .ref aL, .ref aE, .int (bI pw), .int tn])), (aL, .inl (cB, P, .inl (fun z9 => bI (lo z9)))), (aT, .inr (1, [.ref aS, .ref aW, .ref aM, .int (bI mk)])), (aM, .inl (cB, P, .inl (fun z9 => bI (ms z9))))] H := hP
  have hD : va_D A [(aR, .inr (3, [.ref aS, .ref aA, .ref aL, .ref aE, .int (bI pw), .int tn])), (aL, .inl (cB, P, .inl (fun z9 => bI (lo z9)))), (aT, .inr (1, [.ref aS, .ref aW, .ref aM, .int (bI mk)])), (aM, .inl (cB, P, .inl (fun z9 => bI (ms z9))))] := hD
  have hp := hp5.le
  have hpp := dr_PP hp5
  have hpq := dr_PP2 hp5
  refine lv_aload_n hx hb dX3_isNewIn_0 rfl (lv_at hl 1 rfl) ?_
  refine va_get (D := (dC, dI)) (ci := 1) (v := .ref aM) (C := RX1) (T := TX1) (N := 4) hx hb hts inX1 hown hK hP 2 rfl rfl 2 (by decide) (hts _ t_fX3_122) (fun _ h9 => h9) rfl dX3_isNewIn_1 ?_
  refine lv_iload_n hx hb dX3_isNewIn_4 rfl (lv_at hl 2 rfl) ?_
  refine x_zald (g := ms) hx hb hK hP 3 1 rfl rfl dX3_isNewIn_5 (by omega) (by omega) ?_
  refine x_ifF (tgt := 22) hx hb dX3_isNewIn_6 (by decide) (fun h6 => ?_) (fun h6 => ?_)
  · -- 6t
    refine lv_iconst (v := bI false) hx hb dX3_isNewIn_22 (by decide) ?_
    exact x_zret (D := (dC, dI)) (cl := vwCl) (A := A) () hQ hx hb hr hlk hP hD hS dX3_isNewIn_23 (by first | rfl | (simp [h6]; done) | (simp [h6]; omega))
  · -- 6f
    refine lv_aload_n hx hb dX3_isNewIn_9 rfl (lv_at hl 0 rfl) ?_
    refine va_get (D := (dC, dI)) (ci := 3) (v := .ref aL) (C := RX3) (T := TX3) (N := 6) hx hb hts inX3 hown hK hP 0 rfl rfl 2 (by decide) (hts _ t_fX3_44) (fun _ h9 => h9) rfl dX3_isNewIn_10 ?_
    refine lv_iload_n hx hb dX3_isNewIn_13 rfl (lv_at hl 2 rfl) ?_
    refine x_zald (g := lo) hx hb hK hP 1 1 rfl rfl dX3_isNewIn_14 (by omega) (by omega) ?_
    refine x_ifT (tgt := 22) hx hb dX3_isNewIn_15 (by decide) (fun h15 => ?_) (fun h15 => ?_)
    · -- 15t
      refine lv_iconst (v := bI false) hx hb dX3_isNewIn_22 (by decide) ?_
      exact x_zret (D := (dC, dI)) (cl := vwCl) (A := A) () hQ hx hb hr hlk hP hD hS dX3_isNewIn_23 (by first | rfl | (simp [h6, h15]; done) | (simp [h6, h15]; omega))
    · -- 15f
      refine lv_iconst (v := bI true) hx hb dX3_isNewIn_18 (by decide) ?_
      refine lv_goto (tgt := 23) hx hb dX3_isNewIn_19 (by decide) ?_
      exact x_zret (D := (dC, dI)) (cl := vwCl) (A := A) () hQ hx hb hr hlk hP hD hS dX3_isNewIn_23 (by first | rfl | (simp [h6, h15]; done) | (simp [h6, h15]; omega))

abbrev rm_c_hasNew : Room := { frames := 1, cells := 0, slots := 0, locals := 22 }
set_option maxHeartbeats 4000000 in
set_option maxRecDepth 100000 in
theorem c_hasNew (l : Launch) (dC : Nat → ClassId) (dI : Nat → Nat → Nat) (cI cB cQ cJ : ClassId) (aR : Nat) (aS : Nat) (aA : Nat) (aL : Nat) (aE : Nat) (pw : Bool) (tn : Int32) (P : Nat) (lo : Nat → Bool) (aT : Nat) (aW : Nat) (aM : Nat) (ms : Nat → Bool) (mk : Bool) (hp5 : dr_P P) : MG l yX3_hasNewDrive (Cond.code yX3_hasNewDrive cX3_hasNewDrive 3 (some .boolean) :: TB) rm_c_hasNew (dC, dI) vwCl (TY cI cB cQ cJ) [.ref aR, .ref aT] [(aR, .inr (3, [.ref aS, .ref aA, .ref aL, .ref aE, .int (bI pw), .int tn])), (aS, .inr (0, [.int (nI P), .int (nI (P - 2)), .int (nI (P - 1)), .int (nI (P * (P - 2)))])), (aL, .inl (cB, P, .inl (fun z9 => bI (lo z9)))), (aT, .inr (1, [.ref aS, .ref aW, .ref aM, .int (bI mk)])), (aM, .inl (cB, P, .inl (fun z9 => bI (ms z9))))] (fun (r : Int32) (u : Unit) => r = bI (dr_any (fun d => ms d && !lo d) P)) (fun (u : Unit) => [(aR, .inr (3, [.ref aS, .ref aA, .ref aL, .ref aE, .int (bI pw), .int tn])), (aS, .inr (0, [.int (nI P), .int (nI (P - 2)), .int (nI (P - 1)), .int (nI (P * (P - 2)))])), (aL, .inl (cB, P, .inl (fun z9 => bI (lo z9)))), (aT, .inr (1, [.ref aS, .ref aW, .ref aM, .int (bI mk)])), (aM, .inl (cB, P, .inl (fun z9 => bI (ms z9))))]) := by
  refine MG.ofW (cc := cX3_hasNewDrive) (maxL := 3) (rt := .boolean) (by decide +kernel) rfl (Nat.le_of_ble_eq_true rfl) ?_
  intro p e s m args below meth c A ls Q H locs hQ hx hb hml hr hlk hts hown hK hP hD hS hA hl
  have hts : ∀ w ∈ TB, w.before args s = true := fun w h => hts w (List.mem_cons_of_mem _ h)
  have hown : s.vm.findClass RX3 = some m.cls := hown
  have hl : lv_has ls 3 [(0, .ref aR), (1, .ref aT)] := hl
  have hP : va_P (dC, dI) vwCl [(aR, .inr (3, [.ref aS, .ref aA, .ref aL, .ref aE, .int (bI pw), .int tn])), (aS, .inr (0, [.int (nI P), .int (nI (P - 2)), .int (nI (P - 1)), .int (nI (P * (P - 2)))])), (aL, .inl (cB, P, .inl (fun z9 => bI (lo z9)))), (aT, .inr (1, [.ref aS, .ref aW, .ref aM, .int (bI mk)])), (aM, .inl (cB, P, .inl (fun z9 => bI (ms z9))))] H := hP
  have hD : va_D A [(aR, .inr (3, [.ref aS, .ref aA, .ref aL, .ref aE, .int (bI pw), .int tn])), (aS, .inr (0, [.int (nI P), .int (nI (P - 2)), .int (nI (P - 1)), .int (nI (P * (P - 2)))])), (aL, .inl (cB, P, .inl (fun z9 => bI (lo z9)))), (aT, .inr (1, [.ref aS, .ref aW, .ref aM, .int (bI mk)])), (aM, .inl (cB, P, .inl (fun z9 => bI (ms z9))))] := hD
  have hp := hp5.le
  have hpp := dr_PP hp5
  have hpq := dr_PP2 hp5
  refine lv_iconst (v := nI 0) hx hb dX3_hasNewDrive_0 (by decide) ?_
  refine lv_istore_n hx hb dX3_hasNewDrive_1 rfl hl (by decide) rfl (fun ls hl => ?_)
  have hl : lv_has ls 3 [(2, .int (nI 0)), (0, .ref aR), (1, .ref aT)] := hl
  have lp2 : ∀ (n9 : Nat) (i : Nat) (ls : Array Slot) (H : Heap) (locs : List Loc), P - i < n9 → (i ≤ P) → (dr_any (fun d => ms d && !lo d) i = false) → lv_has ls 3 [(2, .int (nI i)), (1, .ref aT), (0, .ref aR)] → va_P (dC, dI) vwCl [(aR, .inr (3, [.ref aS, .ref aA, .ref aL, .ref aE, .int (bI pw), .int tn])), (aS, .inr (0, [.int (nI P), .int (nI (P - 2)), .int (nI (P - 1)), .int (nI (P * (P - 2)))])), (aL, .inl (cB, P, .inl (fun z9 => bI (lo z9)))), (aT, .inr (1, [.ref aS, .ref aW, .ref aM, .int (bI mk)])), (aM, .inl (cB, P, .inl (fun z9 => bI (ms z9))))] H → va_D A [(aR, .inr (3, [.ref aS, .ref aA, .ref aL, .ref aE, .int (bI pw), .int tn])), (aS, .inr (0, [.int (nI P), .int (nI (P - 2)), .int (nI (P - 1)), .int (nI (P * (P - 2)))])), (aL, .inl (cB, P, .inl (fun z9 => bI (lo z9)))), (aT, .inr (1, [.ref aS, .ref aW, .ref aM, .int (bI mk)])), (aM, .inl (cB, P, .inl (fun z9 => bI (ms z9))))] → va_S A s.heap H locs → W p l e rm_c_hasNew s m args below meth c H locs 0 0 Q (F0 m 2 ls []) := by
    intro n9
    induction n9 with
    | zero => intro i ls H locs hn9; omega
    | succ n9 ih2 =>
      intro i ls H locs hn9 hi ha hl hP hD hS
      refine lv_iload_n hx hb dX3_hasNewDrive_2 rfl (lv_at hl 0 rfl) ?_
      refine lv_aload_n hx hb dX3_hasNewDrive_3 rfl (lv_at hl 2 rfl) ?_
      refine va_get (D := (dC, dI)) (ci := 3) (v := .ref aS) (C := RX3) (T := TX3) (N := 6) hx hb hts inX3 hown hK hP 0 rfl rfl 0 (by decide) (hts _ t_fX3_32) (fun _ h9 => h9) rfl dX3_hasNewDrive_4 ?_
      refine va_get (D := (dC, dI)) (ci := 0) (v := .int (nI P)) (C := RX0) (T := TX0) (N := 4) hx hb hts inX0 hown hK hP 1 rfl rfl 0 (by decide) (hts _ t_fX3_40) (fun _ h9 => h9) rfl dX3_hasNewDrive_7 ?_
      refine x_cge (tgt := 30) hx hb dX3_hasNewDrive_10 (by decide) (by omega) (by omega) (fun h10 => ?_) (fun h10 => ?_)
      · -- 10t
        refine lv_iconst (v := bI false) hx hb dX3_hasNewDrive_30 (by decide) ?_
        exact x_zret (D := (dC, dI)) (cl := vwCl) (A := A) () hQ hx hb hr hlk hP hD hS dX3_hasNewDrive_31 (by rw [show i = P by omega] at ha; rw [ha])
      · -- 10f
        refine lv_aload_n hx hb dX3_hasNewDrive_13 rfl (lv_at hl 2 rfl) ?_
        refine lv_aload_n hx hb dX3_hasNewDrive_14 rfl (lv_at hl 1 rfl) ?_
        refine lv_iload_n hx hb dX3_hasNewDrive_15 rfl (lv_at hl 0 rfl) ?_
        refine gV (wr := [(aS, .inr (0, [.int (nI P), .int (nI (P - 2)), .int (nI (P - 1)), .int (nI (P * (P - 2)))]))]) (pre := [(aR, .inr (3, [.ref aS, .ref aA, .ref aL, .ref aE, .int (bI pw), .int tn])), (aS, .inr (0, [.int (nI P), .int (nI (P - 2)), .int (nI (P - 1)), .int (nI (P * (P - 2)))])), (aL, .inl (cB, P, .inl (fun z9 => bI (lo z9)))), (aT, .inr (1, [.ref aS, .ref aW, .ref aM, .int (bI mk)])), (aM, .inl (cB, P, .inl (fun z9 => bI (ms z9))))]) (tl := []) (G := fun (u : Unit) => [(aR, .inr (3, [.ref aS, .ref aA, .ref aL, .ref aE, .int (bI pw), .int tn])), (aS, .inr (0, [.int (nI P), .int (nI (P - 2)), .int (nI (P - 1)), .int (nI (P * (P - 2)))])), (aL, .inl (cB, P, .inl (fun z9 => bI (lo z9)))), (aT, .inr (1, [.ref aS, .ref aW, .ref aM, .int (bI mk)])), (aM, .inl (cB, P, .inl (fun z9 => bI (ms z9))))]) (b := aR) (As := [.ref aT, .int (nI i)]) (rst := []) ⟨hx, hb, hml, hown, hts⟩ (c_isNewIn l dC dI cI cB cQ cJ aR aS aA aL aE pw tn P lo aT aW aM ms mk i hp5 (by omega)) (cwV 2 hts (gdV t_mX3_165 t_inst_X3_isNewIn t_sel_X3_isNewIn t_ini_X3 t_code_X3_isNewIn) rfl rfl rfl (by decide +kernel) ⟨Nat.le_of_ble_eq_true rfl, Nat.le_of_ble_eq_true rfl⟩) hK hP hD hS hA [0, 2, 3, 4] [1] [0, 4, 1, 2, 3] rfl (by decide) (fun _ => rfl) (by decide) (ci := 3) rfl rfl rfl rfl hl.1 rfl (Nat.le_of_ble_eq_true rfl) dX3_hasNewDrive_16 ⟨Nat.zero_le _, Nat.zero_le _⟩ (fun r u H locs hu1 hP hD hS => ?_)
        have hr16 := hu1
        have hr16 : r = bI (ms i && !lo i) := hr16
        subst hr16
        have hP : va_P (dC, dI) vwCl [(aR, .inr (3, [.ref aS, .ref aA, .ref aL, .ref aE, .int (bI pw), .int tn])), (aS, .inr (0, [.int (nI P), .int (nI (P - 2)), .int (nI (P - 1)), .int (nI (P * (P - 2)))])), (aL, .inl (cB, P, .inl (fun z9 => bI (lo z9)))), (aT, .inr (1, [.ref aS, .ref aW, .ref aM, .int (bI mk)])), (aM, .inl (cB, P, .inl (fun z9 => bI (ms z9))))] H := hP
        have hD : va_D A [(aR, .inr (3, [.ref aS, .ref aA, .ref aL, .ref aE, .int (bI pw), .int tn])), (aS, .inr (0, [.int (nI P), .int (nI (P - 2)), .int (nI (P - 1)), .int (nI (P * (P - 2)))])), (aL, .inl (cB, P, .inl (fun z9 => bI (lo z9)))), (aT, .inr (1, [.ref aS, .ref aW, .ref aM, .int (bI mk)])), (aM, .inl (cB, P, .inl (fun z9 => bI (ms z9))))] := hD
        refine x_ifF (tgt := 24) hx hb dX3_hasNewDrive_19 (by decide) (fun h19 => ?_) (fun h19 => ?_)
        · -- 19t
          refine lv_iinc (v := nI (i + 1)) hx hb dX3_hasNewDrive_24 hl (k := 0) rfl (x_inc _) (by decide) rfl (fun ls hl => ?_)
          have hl : lv_has ls 3 [(2, .int (nI (i + 1))), (1, .ref aT), (0, .ref aR)] := hl
          refine lv_goto (tgt := 2) hx hb dX3_hasNewDrive_27 (by decide) ?_
          exact ih2 (i + 1) ls H locs (by omega) (by omega) (by first | rfl | (rw [dr_any, ha, Bool.false_or]; exact h19)) (lv_sub hl [0, 1, 2] rfl) hP hD hS
        · -- 19f
          refine lv_iconst (v := bI true) hx hb dX3_hasNewDrive_22 (by decide) ?_
          exact x_zret (D := (dC, dI)) (cl := vwCl) (A := A) () hQ hx hb hr hlk hP hD hS dX3_hasNewDrive_23 (by rw [dr_any_true (g := fun d => ms d && !lo d) (i := i) (by omega) h19])
  exact lp2 (P - 0 + 1) 0 ls H locs (by omega) (by omega) (by first | rfl | (rw [dr_any, ha, Bool.false_or]; exact h19)) (lv_sub hl [0, 2, 1] rfl) hP hD hS

abbrev rm_c_valueOf : Room := { frames := 4, cells := 0, slots := 0, locals := 97 }
set_option maxHeartbeats 4000000 in
set_option maxRecDepth 100000 in
theorem c_valueOf (l : Launch) (dC : Nat → ClassId) (dI : Nat → Nat → Nat) (cI cB cQ cJ : ClassId) (aR : Nat) (aS : Nat) (aA : Nat) (aL : Nat) (aE : Nat) (pw : Bool) (tn : Int32) (P : Nat) (aEW : Nat) (aEK : Nat) (tw : Nat → Int32) (kn : Nat → Bool) (un : Int32) (aT : Nat) (aW : Nat) (aM : Nat) (w : Nat → Int32) (ms : Nat → Bool) (mk : Bool) (d : Nat) (k : Nat) (hp5 : dr_P P) (hd : d < P) (hk : k < P) : MG l yX3_valueOf (Cond.code yX3_valueOf cX3_valueOf 5 (some .int) :: TB) rm_c_valueOf (dC, dI) vwCl (TY cI cB cQ cJ) [.ref aR, .ref aT, .int (nI d), .int (nI k)] [(aR, .inr (3, [.ref aS, .ref aA, .ref aL, .ref aE, .int (bI pw), .int tn])), (aS, .inr (0, [.int (nI P), .int (nI (P - 2)), .int (nI (P - 1)), .int (nI (P * (P - 2)))])), (aE, .inr (2, [.ref aS, .ref aEW, .ref aEK, .int un])), (aEW, .inl (cI, P * P, .inl tw)), (aEK, .inl (cB, P * P, .inl (fun z9 => bI (kn z9)))), (aT, .inr (1, [.ref aS, .ref aW, .ref aM, .int (bI mk)])), (aW, .inl (cI, P * P, .inl w)), (aM, .inl (cB, P, .inl (fun z9 => bI (ms z9))))] (fun (r : Int32) (u : Unit) => r = dr_va P ms w (kn, tw, un) d k) (fun (u : Unit) => [(aR, .inr (3, [.ref aS, .ref aA, .ref aL, .ref aE, .int (bI pw), .int tn])), (aS, .inr (0, [.int (nI P), .int (nI (P - 2)), .int (nI (P - 1)), .int (nI (P * (P - 2)))])), (aE, .inr (2, [.ref aS, .ref aEW, .ref aEK, .int ((dr_vt P ms w (kn, tw, un) d).2.2)])), (aEW, .inl (cI, P * P, .inl ((dr_vt P ms w (kn, tw, un) d).2.1))), (aEK, .inl (cB, P * P, .inl (fun z9 => bI (((dr_vt P ms w (kn, tw, un) d).1) z9)))), (aT, .inr (1, [.ref aS, .ref aW, .ref aM, .int (bI mk)])), (aW, .inl (cI, P * P, .inl w)), (aM, .inl (cB, P, .inl (fun z9 => bI (ms z9))))]) := by
  refine MG.ofW (cc := cX3_valueOf) (maxL := 5) (rt := .int) (by decide +kernel) rfl (Nat.le_of_ble_eq_true rfl) ?_
  intro p e s m args below meth c A ls Q H locs hQ hx hb hml hr hlk hts hown hK hP hD hS hA hl
  have hts : ∀ w ∈ TB, w.before args s = true := fun w h => hts w (List.mem_cons_of_mem _ h)
  have hown : s.vm.findClass RX3 = some m.cls := hown
  have hl : lv_has ls 5 [(0, .ref aR), (1, .ref aT), (2, .int (nI d)), (3, .int (nI k))] := hl
  have hP : va_P (dC, dI) vwCl [(aR, .inr (3, [.ref aS, .ref aA, .ref aL, .ref aE, .int (bI pw), .int tn])), (aS, .inr (0, [.int (nI P), .int (nI (P - 2)), .int (nI (P - 1)), .int (nI (P * (P - 2)))])), (aE, .inr (2, [.ref aS, .ref aEW, .ref aEK, .int un])), (aEW, .inl (cI, P * P, .inl tw)), (aEK, .inl (cB, P * P, .inl (fun z9 => bI (kn z9)))), (aT, .inr (1, [.ref aS, .ref aW, .ref aM, .int (bI mk)])), (aW, .inl (cI, P * P, .inl w)), (aM, .inl (cB, P, .inl (fun z9 => bI (ms z9))))] H := hP
  have hD : va_D A [(aR, .inr (3, [.ref aS, .ref aA, .ref aL, .ref aE, .int (bI pw), .int tn])), (aS, .inr (0, [.int (nI P), .int (nI (P - 2)), .int (nI (P - 1)), .int (nI (P * (P - 2)))])), (aE, .inr (2, [.ref aS, .ref aEW, .ref aEK, .int un])), (aEW, .inl (cI, P * P, .inl tw)), (aEK, .inl (cB, P * P, .inl (fun z9 => bI (kn z9)))), (aT, .inr (1, [.ref aS, .ref aW, .ref aM, .int (bI mk)])), (aW, .inl (cI, P * P, .inl w)), (aM, .inl (cB, P, .inl (fun z9 => bI (ms z9))))] := hD
  have hp := hp5.le
  have hpp := dr_PP hp5
  have hpq := dr_PP2 hp5
  refine lv_aload_n hx hb dX3_valueOf_0 rfl (lv_at hl 0 rfl) ?_
  refine va_get (D := (dC, dI)) (ci := 3) (v := .ref aS) (C := RX3) (T := TX3) (N := 6) hx hb hts inX3 hown hK hP 0 rfl rfl 0 (by decide) (hts _ t_fX3_32) (fun _ h9 => h9) rfl dX3_valueOf_1 ?_
  refine lv_iload_n hx hb dX3_valueOf_4 rfl (lv_at hl 2 rfl) ?_
  refine lv_iload_n hx hb dX3_valueOf_5 rfl (lv_at hl 3 rfl) ?_
  refine gV (wr := [(aR, .inr (3, [.ref aS, .ref aA, .ref aL, .ref aE, .int (bI pw), .int tn])), (aE, .inr (2, [.ref aS, .ref aEW, .ref aEK, .int un])), (aEW, .inl (cI, P * P, .inl tw)), (aEK, .inl (cB, P * P, .inl (fun z9 => bI (kn z9)))), (aT, .inr (1, [.ref aS, .ref aW, .ref aM, .int (bI mk)])), (aW, .inl (cI, P * P, .inl w)), (aM, .inl (cB, P, .inl (fun z9 => bI (ms z9))))]) (pre := [(aR, .inr (3, [.ref aS, .ref aA, .ref aL, .ref aE, .int (bI pw), .int tn])), (aS, .inr (0, [.int (nI P), .int (nI (P - 2)), .int (nI (P - 1)), .int (nI (P * (P - 2)))])), (aE, .inr (2, [.ref aS, .ref aEW, .ref aEK, .int un])), (aEW, .inl (cI, P * P, .inl tw)), (aEK, .inl (cB, P * P, .inl (fun z9 => bI (kn z9)))), (aT, .inr (1, [.ref aS, .ref aW, .ref aM, .int (bI mk)])), (aW, .inl (cI, P * P, .inl w)), (aM, .inl (cB, P, .inl (fun z9 => bI (ms z9))))]) (tl := []) (G := fun (u : Unit) => [(aR, .inr (3, [.ref aS, .ref aA, .ref aL, .ref aE, .int (bI pw), .int tn])), (aS, .inr (0, [.int (nI P), .int (nI (P - 2)), .int (nI (P - 1)), .int (nI (P * (P - 2)))])), (aE, .inr (2, [.ref aS, .ref aEW, .ref aEK, .int un])), (aEW, .inl (cI, P * P, .inl tw)), (aEK, .inl (cB, P * P, .inl (fun z9 => bI (kn z9)))), (aT, .inr (1, [.ref aS, .ref aW, .ref aM, .int (bI mk)])), (aW, .inl (cI, P * P, .inl w)), (aM, .inl (cB, P, .inl (fun z9 => bI (ms z9))))]) (b := aS) (As := [.int (nI d), .int (nI k)]) (rst := []) ⟨hx, hb, hml, hown, hts⟩ (c_place l dC dI cI cB cQ cJ aS P d k ) (cwV 2 hts (gdV t_mX3_156 t_inst_X0_place t_sel_X0_place t_ini_X0 t_code_X0_place) rfl rfl rfl (by decide +kernel) ⟨Nat.le_of_ble_eq_true rfl, Nat.le_of_ble_eq_true rfl⟩) hK hP hD hS hA [1] [0, 2, 3, 4, 5, 6, 7] [1, 0, 2, 3, 4, 5, 6, 7] rfl (by decide) (fun _ => rfl) (by decide) (ci := 0) rfl rfl rfl rfl hl.1 rfl (Nat.le_of_ble_eq_true rfl) dX3_valueOf_6 ⟨Nat.zero_le _, Nat.zero_le _⟩ (fun r u H locs hu1 hP hD hS => ?_)
  have hr6 := hu1
  have hr6 : r = nI (d * P + k) := hr6
  subst hr6
  have hP : va_P (dC, dI) vwCl [(aR, .inr (3, [.ref aS, .ref aA, .ref aL, .ref aE, .int (bI pw), .int tn])), (aS, .inr (0, [.int (nI P), .int (nI (P - 2)), .int (nI (P - 1)), .int (nI (P * (P - 2)))])), (aE, .inr (2, [.ref aS, .ref aEW, .ref aEK, .int un])), (aEW, .inl (cI, P * P, .inl tw)), (aEK, .inl (cB, P * P, .inl (fun z9 => bI (kn z9)))), (aT, .inr (1, [.ref aS, .ref aW, .ref aM, .int (bI mk)])), (aW, .inl (cI, P * P, .inl w)), (aM, .inl (cB, P, .inl (fun z9 => bI (ms z9))))] H := hP
  have hD : va_D A [(aR, .inr (3, [.ref aS, .ref aA, .ref aL, .ref aE, .int (bI pw), .int tn])), (aS, .inr (0, [.int (nI P), .int (nI (P - 2)), .int (nI (P - 1)), .int (nI (P * (P - 2)))])), (aE, .inr (2, [.ref aS, .ref aEW, .ref aEK, .int un])), (aEW, .inl (cI, P * P, .inl tw)), (aEK, .inl (cB, P * P, .inl (fun z9 => bI (kn z9)))), (aT, .inr (1, [.ref aS, .ref aW, .ref aM, .int (bI mk)])), (aW, .inl (cI, P * P, .inl w)), (aM, .inl (cB, P, .inl (fun z9 => bI (ms z9))))] := hD
  refine lv_istore hx hb dX3_valueOf_9 hl (by decide) rfl (fun ls hl => ?_)
  have hl : lv_has ls 5 [(4, .int (nI (d * P + k))), (0, .ref aR), (1, .ref aT), (2, .int (nI d)), (3, .int (nI k))] := hl
  refine lv_aload_n hx hb dX3_valueOf_11 rfl (lv_at hl 2 rfl) ?_
  refine va_get (D := (dC, dI)) (ci := 1) (v := .ref aM) (C := RX1) (T := TX1) (N := 4) hx hb hts inX1 hown hK hP 5 rfl rfl 2 (by decide) (hts _ t_fX3_122) (fun _ h9 => h9) rfl dX3_valueOf_12 ?_
  refine lv_iload_n hx hb dX3_valueOf_15 rfl (lv_at hl 3 rfl) ?_
  refine x_zald (g := ms) hx hb hK hP 7 1 rfl rfl dX3_valueOf_16 (by omega) (by omega) ?_
  refine x_ifT (tgt := 28) hx hb dX3_valueOf_17 (by decide) (fun h17 => ?_) (fun h17 => ?_)
  · -- 17t
    refine lv_aload_n hx hb dX3_valueOf_28 rfl (lv_at hl 1 rfl) ?_
    refine va_get (D := (dC, dI)) (ci := 3) (v := .ref aE) (C := RX3) (T := TX3) (N := 6) hx hb hts inX3 hown hK hP 0 rfl rfl 3 (by decide) (hts _ t_fX3_51) (fun _ h9 => h9) rfl dX3_valueOf_29 ?_
    refine lv_aload_n hx hb dX3_valueOf_32 rfl (lv_at hl 2 rfl) ?_
    refine gVv (wr := [(aR, .inr (3, [.ref aS, .ref aA, .ref aL, .ref aE, .int (bI pw), .int tn]))]) (pre := [(aR, .inr (3, [.ref aS, .ref aA, .ref aL, .ref aE, .int (bI pw), .int tn])), (aS, .inr (0, [.int (nI P), .int (nI (P - 2)), .int (nI (P - 1)), .int (nI (P * (P - 2)))])), (aE, .inr (2, [.ref aS, .ref aEW, .ref aEK, .int un])), (aEW, .inl (cI, P * P, .inl tw)), (aEK, .inl (cB, P * P, .inl (fun z9 => bI (kn z9)))), (aT, .inr (1, [.ref aS, .ref aW, .ref aM, .int (bI mk)])), (aW, .inl (cI, P * P, .inl w)), (aM, .inl (cB, P, .inl (fun z9 => bI (ms z9))))]) (tl := []) (G := fun (u : Unit) => [(aR, .inr (3, [.ref aS, .ref aA, .ref aL, .ref aE, .int (bI pw), .int tn])), (aS, .inr (0, [.int (nI P), .int (nI (P - 2)), .int (nI (P - 1)), .int (nI (P * (P - 2)))])), (aE, .inr (2, [.ref aS, .ref aEW, .ref aEK, .int ((dr_tell P ms w kn tw).2.2)])), (aEW, .inl (cI, P * P, .inl ((dr_tell P ms w kn tw).2.1))), (aEK, .inl (cB, P * P, .inl (fun z9 => bI (((dr_tell P ms w kn tw).1) z9)))), (aT, .inr (1, [.ref aS, .ref aW, .ref aM, .int (bI mk)])), (aW, .inl (cI, P * P, .inl w)), (aM, .inl (cB, P, .inl (fun z9 => bI (ms z9))))]) (b := aE) (As := [.ref aT]) (rst := []) ⟨hx, hb, hml, hown, hts⟩ (c_tell l dC dI cI cB cQ cJ aE aS aEW aEK P tw kn un aT aW aM w ms mk hp5) (cwV 1 hts (gdV t_mX3_169 t_inst_X2_tell t_sel_X2_tell t_ini_X2 t_code_X2_tell) rfl rfl rfl (by decide +kernel) ⟨Nat.le_of_ble_eq_true rfl, Nat.le_of_ble_eq_true rfl⟩) hK hP hD hS hA [2, 3, 4, 1, 5, 6, 7] [0] [7, 3, 0, 1, 2, 4, 5, 6] rfl (by decide) (fun _ => rfl) (by decide) (ci := 2) rfl rfl rfl rfl hl.1 rfl (Nat.le_of_ble_eq_true rfl) dX3_valueOf_33 ⟨Nat.zero_le _, Nat.zero_le _⟩ (fun u H locs hu2 hP hD hS => ?_)
    have hP : va_P (dC, dI) vwCl [(aR, .inr (3, [.ref aS, .ref aA, .ref aL, .ref aE, .int (bI pw), .int tn])), (aS, .inr (0, [.int (nI P), .int (nI (P - 2)), .int (nI (P - 1)), .int (nI (P * (P - 2)))])), (aE, .inr (2, [.ref aS, .ref aEW, .ref aEK, .int ((dr_tell P ms w kn tw).2.2)])), (aEW, .inl (cI, P * P, .inl ((dr_tell P ms w kn tw).2.1))), (aEK, .inl (cB, P * P, .inl (fun z9 => bI (((dr_tell P ms w kn tw).1) z9)))), (aT, .inr (1, [.ref aS, .ref aW, .ref aM, .int (bI mk)])), (aW, .inl (cI, P * P, .inl w)), (aM, .inl (cB, P, .inl (fun z9 => bI (ms z9))))] H := hP
    have hD : va_D A [(aR, .inr (3, [.ref aS, .ref aA, .ref aL, .ref aE, .int (bI pw), .int tn])), (aS, .inr (0, [.int (nI P), .int (nI (P - 2)), .int (nI (P - 1)), .int (nI (P * (P - 2)))])), (aE, .inr (2, [.ref aS, .ref aEW, .ref aEK, .int ((dr_tell P ms w kn tw).2.2)])), (aEW, .inl (cI, P * P, .inl ((dr_tell P ms w kn tw).2.1))), (aEK, .inl (cB, P * P, .inl (fun z9 => bI (((dr_tell P ms w kn tw).1) z9)))), (aT, .inr (1, [.ref aS, .ref aW, .ref aM, .int (bI mk)])), (aW, .inl (cI, P * P, .inl w)), (aM, .inl (cB, P, .inl (fun z9 => bI (ms z9))))] := hD
    refine lv_aload_n hx hb dX3_valueOf_36 rfl (lv_at hl 1 rfl) ?_
    refine va_get (D := (dC, dI)) (ci := 3) (v := .ref aE) (C := RX3) (T := TX3) (N := 6) hx hb hts inX3 hown hK hP 0 rfl rfl 3 (by decide) (hts _ t_fX3_51) (fun _ h9 => h9) rfl dX3_valueOf_37 ?_
    refine va_get (D := (dC, dI)) (ci := 2) (v := .ref aEW) (C := RX2) (T := TX2) (N := 4) hx hb hts inX2 hown hK hP 2 rfl rfl 1 (by decide) (hts _ t_fX3_173) (fun _ h9 => h9) rfl dX3_valueOf_40 ?_
    refine lv_iload hx hb dX3_valueOf_43 (lv_at hl 0 rfl) ?_
    refine x_iald (f := (dr_tell P ms w kn tw).2.1) hx hb hK hP 3 0 rfl rfl dX3_valueOf_45 (dr_pl hd hk) (by omega) ?_
    have e3 : ((dr_vt P ms w (kn, tw, un) d).2.2) = ((dr_tell P ms w kn tw).2.2) := by first | rfl | (simp [dr_vt, dr_va, h17]; done)
    have e4 : ((dr_vt P ms w (kn, tw, un) d).2.1) = ((dr_tell P ms w kn tw).2.1) := by first | rfl | (simp [dr_vt, dr_va, h17]; done)
    have e5 : ((dr_vt P ms w (kn, tw, un) d).1) = ((dr_tell P ms w kn tw).1) := by first | rfl | (simp [dr_vt, dr_va, h17]; done)
    exact x_iret (D := (dC, dI)) (cl := vwCl) (A := A) () hQ hx hb hr hlk (by rw [e3, e4, e5]; exact hP) (by rw [e3, e4, e5]; exact hD) hS dX3_valueOf_46 (by first | rfl | (simp [dr_vt, dr_va, h17]; done) | (simp [dr_vt, dr_va, h17]; omega))
  · -- 17f
    refine lv_aload_n hx hb dX3_valueOf_20 rfl (lv_at hl 2 rfl) ?_
    refine va_get (D := (dC, dI)) (ci := 1) (v := .ref aW) (C := RX1) (T := TX1) (N := 4) hx hb hts inX1 hown hK hP 5 rfl rfl 1 (by decide) (hts _ t_fX3_152) (fun _ h9 => h9) rfl dX3_valueOf_21 ?_
    refine lv_iload hx hb dX3_valueOf_24 (lv_at hl 0 rfl) ?_
    refine x_iald (f := w) hx hb hK hP 6 0 rfl rfl dX3_valueOf_26 (dr_pl hd hk) (by omega) ?_
    have e6 : ((dr_vt P ms w (kn, tw, un) d).2.2) = un := by first | rfl | (simp [dr_vt, dr_va, h17]; done)
    have e7 : ((dr_vt P ms w (kn, tw, un) d).2.1) = tw := by first | rfl | (simp [dr_vt, dr_va, h17]; done)
    have e8 : ((dr_vt P ms w (kn, tw, un) d).1) = kn := by first | rfl | (simp [dr_vt, dr_va, h17]; done)
    exact x_iret (D := (dC, dI)) (cl := vwCl) (A := A) () hQ hx hb hr hlk (by rw [e6, e7, e8]; exact hP) (by rw [e6, e7, e8]; exact hD) hS dX3_valueOf_27 (by first | rfl | (simp [dr_vt, dr_va, h17]; done) | (simp [dr_vt, dr_va, h17]; omega))

abbrev rm_c_takeTurn : Room := { frames := 0, cells := 0, slots := 0, locals := 0 }
set_option maxHeartbeats 4000000 in
set_option maxRecDepth 100000 in
theorem c_takeTurn (l : Launch) (dC : Nat → ClassId) (dI : Nat → Nat → Nat) (cI cB cQ cJ : ClassId) (aR : Nat) (aS : Nat) (aA : Nat) (aL : Nat) (aE : Nat) (pw : Bool) (tn : Int32)  : MG l yX3_takeTurn (Cond.code yX3_takeTurn cX3_takeTurn 1 (some .boolean) :: TB) rm_c_takeTurn (dC, dI) vwCl (TY cI cB cQ cJ) [.ref aR] [(aR, .inr (3, [.ref aS, .ref aA, .ref aL, .ref aE, .int (bI pw), .int tn]))] (fun (r : Int32) (u : Unit) => r = bI (!decide (tn = 0))) (fun (u : Unit) => [(aR, .inr (3, [.ref aS, .ref aA, .ref aL, .ref aE, .int (bI (dr_tp pw tn)), .int (dr_tn tn)]))]) := by
  refine MG.ofW (cc := cX3_takeTurn) (maxL := 1) (rt := .boolean) (by decide +kernel) rfl (Nat.le_of_ble_eq_true rfl) ?_
  intro p e s m args below meth c A ls Q H locs hQ hx hb hml hr hlk hts hown hK hP hD hS hA hl
  have hts : ∀ w ∈ TB, w.before args s = true := fun w h => hts w (List.mem_cons_of_mem _ h)
  have hown : s.vm.findClass RX3 = some m.cls := hown
  have hl : lv_has ls 1 [(0, .ref aR)] := hl
  have hP : va_P (dC, dI) vwCl [(aR, .inr (3, [.ref aS, .ref aA, .ref aL, .ref aE, .int (bI pw), .int tn]))] H := hP
  have hD : va_D A [(aR, .inr (3, [.ref aS, .ref aA, .ref aL, .ref aE, .int (bI pw), .int tn]))] := hD
  refine lv_aload_n hx hb dX3_takeTurn_0 rfl (lv_at hl 0 rfl) ?_
  refine va_get (D := (dC, dI)) (ci := 3) (v := .int tn) (C := RX3) (T := TX3) (N := 6) hx hb hts inX3 hown hK hP 0 rfl rfl 5 (by decide) (hts _ t_fX3_59) (fun _ h9 => h9) rfl dX3_takeTurn_1 ?_
  refine lv_if_ne (tgt := 14) hx hb dX3_takeTurn_4 (by decide) (fun h4 => ?_) (fun h4 => ?_)
  · -- 4t
    refine lv_aload_n hx hb dX3_takeTurn_14 rfl (lv_at hl 0 rfl) ?_
    refine va_get (D := (dC, dI)) (ci := 3) (v := .int tn) (C := RX3) (T := TX3) (N := 6) hx hb hts inX3 hown hK hP 0 rfl rfl 5 (by decide) (hts _ t_fX3_59) (fun _ h9 => h9) rfl dX3_takeTurn_15 ?_
    refine lv_if_le (tgt := 31) hx hb dX3_takeTurn_18 (by decide) (fun h18 => ?_) (fun h18 => ?_)
    · -- 18t
      have h18a : ¬ 0 < tn := Int32.not_lt.mpr h18
      refine lv_iconst (v := bI true) hx hb dX3_takeTurn_31 (by decide) ?_
      have e1 : (dr_tp pw tn) = pw := by simp [dr_tp, dr_tn, h4, h18a]
      have e2 : (dr_tn tn) = tn := by simp [dr_tp, dr_tn, h4, h18a]
      exact x_zret (D := (dC, dI)) (cl := vwCl) (A := A) () hQ hx hb hr hlk (by rw [e1, e2]; exact hP) (by rw [e1, e2]; exact hD) hS dX3_takeTurn_32 (by first | rfl | (simp [dr_tp, dr_tn, h4, h18]; done) | (simp [dr_tp, dr_tn, h4, h18]; omega))
    · -- 18f
      have h18a : 0 < tn := Int32.not_le.mp h18
      refine lv_aload_n hx hb dX3_takeTurn_21 rfl (lv_at hl 0 rfl) ?_
      refine lv_dup hx hb dX3_takeTurn_22 rfl ?_
      refine va_get (D := (dC, dI)) (ci := 3) (v := .int tn) (C := RX3) (T := TX3) (N := 6) hx hb hts inX3 hown hK hP 0 rfl rfl 5 (by decide) (hts _ t_fX3_59) (fun _ h9 => h9) rfl dX3_takeTurn_23 ?_
      refine lv_iconst (v := 1) hx hb dX3_takeTurn_26 (by decide) ?_
      refine lv_isub hx hb dX3_takeTurn_27 ?_
      refine va_put (D := (dC, dI)) (ci := 3) (v := .int (tn - 1)) (ty := .int) (C := RX3) (T := TX3) (N := 6) hx hb hts inX3 tyX3 tyX3_ok nmX3 hown hK hP hD hS 0 rfl rfl 5 (by decide) (hts _ t_fX3_59) (fun _ h9 => h9) rfl (by decide +kernel) rfl rfl (Nat.le_of_ble_eq_true rfl) dX3_takeTurn_28 (fun H locs hP hD hS => ?_)
      have hP : va_P (dC, dI) vwCl [(aR, .inr (3, [.ref aS, .ref aA, .ref aL, .ref aE, .int (bI pw), .int (tn - 1)]))] H := hP
      have hD : va_D A [(aR, .inr (3, [.ref aS, .ref aA, .ref aL, .ref aE, .int (bI pw), .int (tn - 1)]))] := hD
      refine lv_iconst (v := bI true) hx hb dX3_takeTurn_31 (by decide) ?_
      have e3 : (dr_tp pw tn) = pw := by simp [dr_tp, dr_tn, h4, h18a]
      have e4 : (dr_tn tn) = (tn - 1) := by simp [dr_tp, dr_tn, h4, h18a]
      exact x_zret (D := (dC, dI)) (cl := vwCl) (A := A) () hQ hx hb hr hlk (by rw [e3, e4]; exact hP) (by rw [e3, e4]; exact hD) hS dX3_takeTurn_32 (by first | rfl | (simp [dr_tp, dr_tn, h4, h18]; done) | (simp [dr_tp, dr_tn, h4, h18]; omega))
  · -- 4f
    refine lv_aload_n hx hb dX3_takeTurn_7 rfl (lv_at hl 0 rfl) ?_
    refine lv_iconst (v := bI false) hx hb dX3_takeTurn_8 (by decide) ?_
    refine va_put (D := (dC, dI)) (ci := 3) (v := .int (bI false)) (ty := .boolean) (C := RX3) (T := TX3) (N := 6) hx hb hts inX3 tyX3 tyX3_ok nmX3 hown hK hP hD hS 0 rfl rfl 4 (by decide) (hts _ t_fX3_55) (fun _ h9 => h9) rfl (by decide +kernel) (bI_narrow _) (bI_fits _) (Nat.le_of_ble_eq_true rfl) dX3_takeTurn_9 (fun H locs hP hD hS => ?_)
    have hP : va_P (dC, dI) vwCl [(aR, .inr (3, [.ref aS, .ref aA, .ref aL, .ref aE, .int (bI false), .int tn]))] H := hP
    have hD : va_D A [(aR, .inr (3, [.ref aS, .ref aA, .ref aL, .ref aE, .int (bI false), .int tn]))] := hD
    refine lv_iconst (v := bI false) hx hb dX3_takeTurn_12 (by decide) ?_
    have e5 : (dr_tp pw tn) = false := by simp [dr_tp, dr_tn, h4]
    have e6 : (dr_tn tn) = tn := by simp [dr_tp, dr_tn, h4]
    exact x_zret (D := (dC, dI)) (cl := vwCl) (A := A) () hQ hx hb hr hlk (by rw [e5, e6]; exact hP) (by rw [e5, e6]; exact hD) hS dX3_takeTurn_13 (by first | rfl | (simp [dr_tp, dr_tn, h4]; done) | (simp [dr_tp, dr_tn, h4]; omega))

abbrev rm_c_put : Room := { frames := 1, cells := 0, slots := 0, locals := 22 }
set_option maxHeartbeats 4000000 in
set_option maxRecDepth 100000 in
theorem c_put (l : Launch) (dC : Nat → ClassId) (dI : Nat → Nat → Nat) (cI cB cQ cJ : ClassId) (aR : Nat) (aS : Nat) (aA : Nat) (aL : Nat) (aE : Nat) (pw : Bool) (tn : Int32) (P : Nat) (aT : Nat) (aW : Nat) (aM : Nat) (w : Nat → Int32) (mk : Bool) (d : Nat) (k : Nat) (v : Int32) (hp5 : dr_P P) (hd : d < P) (hk : k < P) : MG l yX3_put (Cond.code yX3_put cX3_put 5 (some .boolean) :: TB) rm_c_put (dC, dI) vwCl (TY cI cB cQ cJ) [.ref aR, .ref aT, .int (nI d), .int (nI k), .int v] [(aR, .inr (3, [.ref aS, .ref aA, .ref aL, .ref aE, .int (bI pw), .int tn])), (aS, .inr (0, [.int (nI P), .int (nI (P - 2)), .int (nI (P - 1)), .int (nI (P * (P - 2)))])), (aT, .inr (1, [.ref aS, .ref aW, .ref aM, .int (bI mk)])), (aW, .inl (cI, P * P, .inl w))] (fun (r : Int32) (u : Unit) => r = bI ((dr_put P (w, pw, tn) d k v).1)) (fun (u : Unit) => [(aR, .inr (3, [.ref aS, .ref aA, .ref aL, .ref aE, .int (bI ((dr_put P (w, pw, tn) d k v).2.2.1)), .int ((dr_put P (w, pw, tn) d k v).2.2.2)])), (aS, .inr (0, [.int (nI P), .int (nI (P - 2)), .int (nI (P - 1)), .int (nI (P * (P - 2)))])), (aT, .inr (1, [.ref aS, .ref aW, .ref aM, .int (bI mk)])), (aW, .inl (cI, P * P, .inl ((dr_put P (w, pw, tn) d k v).2.1)))]) := by
  refine MG.ofW (cc := cX3_put) (maxL := 5) (rt := .boolean) (by decide +kernel) rfl (Nat.le_of_ble_eq_true rfl) ?_
  intro p e s m args below meth c A ls Q H locs hQ hx hb hml hr hlk hts hown hK hP hD hS hA hl
  have hts : ∀ w ∈ TB, w.before args s = true := fun w h => hts w (List.mem_cons_of_mem _ h)
  have hown : s.vm.findClass RX3 = some m.cls := hown
  have hl : lv_has ls 5 [(0, .ref aR), (1, .ref aT), (2, .int (nI d)), (3, .int (nI k)), (4, .int v)] := hl
  have hP : va_P (dC, dI) vwCl [(aR, .inr (3, [.ref aS, .ref aA, .ref aL, .ref aE, .int (bI pw), .int tn])), (aS, .inr (0, [.int (nI P), .int (nI (P - 2)), .int (nI (P - 1)), .int (nI (P * (P - 2)))])), (aT, .inr (1, [.ref aS, .ref aW, .ref aM, .int (bI mk)])), (aW, .inl (cI, P * P, .inl w))] H := hP
  have hD : va_D A [(aR, .inr (3, [.ref aS, .ref aA, .ref aL, .ref aE, .int (bI pw), .int tn])), (aS, .inr (0, [.int (nI P), .int (nI (P - 2)), .int (nI (P - 1)), .int (nI (P * (P - 2)))])), (aT, .inr (1, [.ref aS, .ref aW, .ref aM, .int (bI mk)])), (aW, .inl (cI, P * P, .inl w))] := hD
  have hp := hp5.le
  have hpp := dr_PP hp5
  have hpq := dr_PP2 hp5
  refine lv_aload_n hx hb dX3_put_0 rfl (lv_at hl 0 rfl) ?_
  refine gV (wr := [(aS, .inr (0, [.int (nI P), .int (nI (P - 2)), .int (nI (P - 1)), .int (nI (P * (P - 2)))])), (aT, .inr (1, [.ref aS, .ref aW, .ref aM, .int (bI mk)])), (aW, .inl (cI, P * P, .inl w))]) (pre := [(aR, .inr (3, [.ref aS, .ref aA, .ref aL, .ref aE, .int (bI pw), .int tn])), (aS, .inr (0, [.int (nI P), .int (nI (P - 2)), .int (nI (P - 1)), .int (nI (P * (P - 2)))])), (aT, .inr (1, [.ref aS, .ref aW, .ref aM, .int (bI mk)])), (aW, .inl (cI, P * P, .inl w))]) (tl := []) (G := fun (u : Unit) => [(aR, .inr (3, [.ref aS, .ref aA, .ref aL, .ref aE, .int (bI (dr_tp pw tn)), .int (dr_tn tn)])), (aS, .inr (0, [.int (nI P), .int (nI (P - 2)), .int (nI (P - 1)), .int (nI (P * (P - 2)))])), (aT, .inr (1, [.ref aS, .ref aW, .ref aM, .int (bI mk)])), (aW, .inl (cI, P * P, .inl w))]) (b := aR) (As := []) (rst := []) ⟨hx, hb, hml, hown, hts⟩ (c_takeTurn l dC dI cI cB cQ cJ aR aS aA aL aE pw tn ) (cwV 0 hts (gdV t_mX3_174 t_inst_X3_takeTurn t_sel_X3_takeTurn t_ini_X3 t_code_X3_takeTurn) rfl rfl rfl (by decide +kernel) ⟨Nat.le_of_ble_eq_true rfl, Nat.le_of_ble_eq_true rfl⟩) hK hP hD hS hA [0] [1, 2, 3] [0, 1, 2, 3] rfl (by decide) (fun _ => rfl) (by decide) (ci := 3) rfl rfl rfl rfl hl.1 rfl (Nat.le_of_ble_eq_true rfl) dX3_put_1 ⟨Nat.zero_le _, Nat.zero_le _⟩ (fun r u H locs hu1 hP hD hS => ?_)
  have hr1 := hu1
  have hr1 : r = bI (!decide (tn = 0)) := hr1
  subst hr1
  have hP : va_P (dC, dI) vwCl [(aR, .inr (3, [.ref aS, .ref aA, .ref aL, .ref aE, .int (bI (dr_tp pw tn)), .int (dr_tn tn)])), (aS, .inr (0, [.int (nI P), .int (nI (P - 2)), .int (nI (P - 1)), .int (nI (P * (P - 2)))])), (aT, .inr (1, [.ref aS, .ref aW, .ref aM, .int (bI mk)])), (aW, .inl (cI, P * P, .inl w))] H := hP
  have hD : va_D A [(aR, .inr (3, [.ref aS, .ref aA, .ref aL, .ref aE, .int (bI (dr_tp pw tn)), .int (dr_tn tn)])), (aS, .inr (0, [.int (nI P), .int (nI (P - 2)), .int (nI (P - 1)), .int (nI (P * (P - 2)))])), (aT, .inr (1, [.ref aS, .ref aW, .ref aM, .int (bI mk)])), (aW, .inl (cI, P * P, .inl w))] := hD
  refine x_ifT (tgt := 9) hx hb dX3_put_4 (by decide) (fun h4 => ?_) (fun h4 => ?_)
  · -- 4t
    have h4a : ¬ tn = 0 := by simpa using h4
    refine lv_aload_n hx hb dX3_put_9 rfl (lv_at hl 1 rfl) ?_
    refine va_get (D := (dC, dI)) (ci := 1) (v := .ref aW) (C := RX1) (T := TX1) (N := 4) hx hb hts inX1 hown hK hP 2 rfl rfl 1 (by decide) (hts _ t_fX3_152) (fun _ h9 => h9) rfl dX3_put_10 ?_
    refine lv_aload_n hx hb dX3_put_13 rfl (lv_at hl 0 rfl) ?_
    refine va_get (D := (dC, dI)) (ci := 3) (v := .ref aS) (C := RX3) (T := TX3) (N := 6) hx hb hts inX3 hown hK hP 0 rfl rfl 0 (by decide) (hts _ t_fX3_32) (fun _ h9 => h9) rfl dX3_put_14 ?_
    refine lv_iload_n hx hb dX3_put_17 rfl (lv_at hl 2 rfl) ?_
    refine lv_iload_n hx hb dX3_put_18 rfl (lv_at hl 3 rfl) ?_
    refine gV (wr := [(aR, .inr (3, [.ref aS, .ref aA, .ref aL, .ref aE, .int (bI (dr_tp pw tn)), .int (dr_tn tn)])), (aT, .inr (1, [.ref aS, .ref aW, .ref aM, .int (bI mk)])), (aW, .inl (cI, P * P, .inl w))]) (pre := [(aR, .inr (3, [.ref aS, .ref aA, .ref aL, .ref aE, .int (bI (dr_tp pw tn)), .int (dr_tn tn)])), (aS, .inr (0, [.int (nI P), .int (nI (P - 2)), .int (nI (P - 1)), .int (nI (P * (P - 2)))])), (aT, .inr (1, [.ref aS, .ref aW, .ref aM, .int (bI mk)])), (aW, .inl (cI, P * P, .inl w))]) (tl := []) (G := fun (u : Unit) => [(aR, .inr (3, [.ref aS, .ref aA, .ref aL, .ref aE, .int (bI (dr_tp pw tn)), .int (dr_tn tn)])), (aS, .inr (0, [.int (nI P), .int (nI (P - 2)), .int (nI (P - 1)), .int (nI (P * (P - 2)))])), (aT, .inr (1, [.ref aS, .ref aW, .ref aM, .int (bI mk)])), (aW, .inl (cI, P * P, .inl w))]) (b := aS) (As := [.int (nI d), .int (nI k)]) (rst := [.ref aW]) ⟨hx, hb, hml, hown, hts⟩ (c_place l dC dI cI cB cQ cJ aS P d k ) (cwV 2 hts (gdV t_mX3_156 t_inst_X0_place t_sel_X0_place t_ini_X0 t_code_X0_place) rfl rfl rfl (by decide +kernel) ⟨Nat.le_of_ble_eq_true rfl, Nat.le_of_ble_eq_true rfl⟩) hK hP hD hS hA [1] [0, 2, 3] [1, 0, 2, 3] rfl (by decide) (fun _ => rfl) (by decide) (ci := 0) rfl rfl rfl rfl hl.1 rfl (Nat.le_of_ble_eq_true rfl) dX3_put_19 ⟨Nat.zero_le _, Nat.zero_le _⟩ (fun r u H locs hu2 hP hD hS => ?_)
    have hr19 := hu2
    have hr19 : r = nI (d * P + k) := hr19
    subst hr19
    have hP : va_P (dC, dI) vwCl [(aR, .inr (3, [.ref aS, .ref aA, .ref aL, .ref aE, .int (bI (dr_tp pw tn)), .int (dr_tn tn)])), (aS, .inr (0, [.int (nI P), .int (nI (P - 2)), .int (nI (P - 1)), .int (nI (P * (P - 2)))])), (aT, .inr (1, [.ref aS, .ref aW, .ref aM, .int (bI mk)])), (aW, .inl (cI, P * P, .inl w))] H := hP
    have hD : va_D A [(aR, .inr (3, [.ref aS, .ref aA, .ref aL, .ref aE, .int (bI (dr_tp pw tn)), .int (dr_tn tn)])), (aS, .inr (0, [.int (nI P), .int (nI (P - 2)), .int (nI (P - 1)), .int (nI (P * (P - 2)))])), (aT, .inr (1, [.ref aS, .ref aW, .ref aM, .int (bI mk)])), (aW, .inl (cI, P * P, .inl w))] := hD
    refine lv_iload hx hb dX3_put_22 (lv_at hl 4 rfl) ?_
    refine x_iast (f := w) hx hb hK hP hD hS 3 0 rfl rfl dX3_put_24 (dr_pl hd hk) (by omega) (fun H locs hP hD hS => ?_)
    have hP : va_P (dC, dI) vwCl [(aR, .inr (3, [.ref aS, .ref aA, .ref aL, .ref aE, .int (bI (dr_tp pw tn)), .int (dr_tn tn)])), (aS, .inr (0, [.int (nI P), .int (nI (P - 2)), .int (nI (P - 1)), .int (nI (P * (P - 2)))])), (aT, .inr (1, [.ref aS, .ref aW, .ref aM, .int (bI mk)])), (aW, .inl (cI, P * P, .inl (va_up w (d * P + k) v)))] H := hP
    have hD : va_D A [(aR, .inr (3, [.ref aS, .ref aA, .ref aL, .ref aE, .int (bI (dr_tp pw tn)), .int (dr_tn tn)])), (aS, .inr (0, [.int (nI P), .int (nI (P - 2)), .int (nI (P - 1)), .int (nI (P * (P - 2)))])), (aT, .inr (1, [.ref aS, .ref aW, .ref aM, .int (bI mk)])), (aW, .inl (cI, P * P, .inl (va_up w (d * P + k) v)))] := hD
    refine lv_iconst (v := bI true) hx hb dX3_put_25 (by decide) ?_
    have e3 : ((dr_put P (w, pw, tn) d k v).2.2.1) = (dr_tp pw tn) := by simp [dr_put, dr_tp, dr_tn, h4a]
    have e4 : ((dr_put P (w, pw, tn) d k v).2.2.2) = (dr_tn tn) := by simp [dr_put, dr_tp, dr_tn, h4a]
    have e5 : ((dr_put P (w, pw, tn) d k v).2.1) = (va_up w (d * P + k) v) := by simp [dr_put, dr_tp, dr_tn, h4a]
    exact x_zret (D := (dC, dI)) (cl := vwCl) (A := A) () hQ hx hb hr hlk (by rw [e3, e4, e5]; exact hP) (by rw [e3, e4, e5]; exact hD) hS dX3_put_26 (by simp [dr_put, h4a])
  · -- 4f
    have h4a : tn = 0 := by simpa using h4
    refine lv_iconst (v := bI false) hx hb dX3_put_7 (by decide) ?_
    have e6 : ((dr_put P (w, pw, tn) d k v).2.2.1) = (dr_tp pw tn) := by simp [dr_put, dr_tp, dr_tn, h4a]
    have e7 : ((dr_put P (w, pw, tn) d k v).2.2.2) = (dr_tn tn) := by simp [dr_put, dr_tp, dr_tn, h4a]
    have e8 : ((dr_put P (w, pw, tn) d k v).2.1) = w := by simp [dr_put, dr_tp, dr_tn, h4a]
    exact x_zret (D := (dC, dI)) (cl := vwCl) (A := A) () hQ hx hb hr hlk (by rw [e6, e7, e8]; exact hP) (by rw [e6, e7, e8]; exact hD) hS dX3_put_8 (by simp [dr_put, h4a])

abbrev rm_c_pif : Room := { frames := 2, cells := 0, slots := 0, locals := 46 }
set_option maxHeartbeats 4000000 in
set_option maxRecDepth 100000 in
theorem c_pif (l : Launch) (dC : Nat → ClassId) (dI : Nat → Nat → Nat) (cI cB cQ cJ : ClassId) (aR : Nat) (aS : Nat) (aA : Nat) (aL : Nat) (aE : Nat) (pw : Bool) (tn : Int32) (P : Nat) (aT : Nat) (aW : Nat) (aM : Nat) (w : Nat → Int32) (ms : Nat → Bool) (mk : Bool) (d : Nat) (k : Nat) (v : Int32) (hp5 : dr_P P) (hd : d < P) (hk : k < P) : MG l yX3_putIfPresent (Cond.code yX3_putIfPresent cX3_putIfPresent 5 (some .boolean) :: TB) rm_c_pif (dC, dI) vwCl (TY cI cB cQ cJ) [.ref aR, .ref aT, .int (nI d), .int (nI k), .int v] [(aR, .inr (3, [.ref aS, .ref aA, .ref aL, .ref aE, .int (bI pw), .int tn])), (aS, .inr (0, [.int (nI P), .int (nI (P - 2)), .int (nI (P - 1)), .int (nI (P * (P - 2)))])), (aT, .inr (1, [.ref aS, .ref aW, .ref aM, .int (bI mk)])), (aW, .inl (cI, P * P, .inl w)), (aM, .inl (cB, P, .inl (fun z9 => bI (ms z9))))] (fun (r : Int32) (u : Unit) => r = bI ((dr_pif P ms (w, pw, tn) d k v).1)) (fun (u : Unit) => [(aR, .inr (3, [.ref aS, .ref aA, .ref aL, .ref aE, .int (bI ((dr_pif P ms (w, pw, tn) d k v).2.2.1)), .int ((dr_pif P ms (w, pw, tn) d k v).2.2.2)])), (aS, .inr (0, [.int (nI P), .int (nI (P - 2)), .int (nI (P - 1)), .int (nI (P * (P - 2)))])), (aT, .inr (1, [.ref aS, .ref aW, .ref aM, .int (bI mk)])), (aW, .inl (cI, P * P, .inl ((dr_pif P ms (w, pw, tn) d k v).2.1))), (aM, .inl (cB, P, .inl (fun z9 => bI (ms z9))))]) := by
  refine MG.ofW (cc := cX3_putIfPresent) (maxL := 5) (rt := .boolean) (by decide +kernel) rfl (Nat.le_of_ble_eq_true rfl) ?_
  intro p e s m args below meth c A ls Q H locs hQ hx hb hml hr hlk hts hown hK hP hD hS hA hl
  have hts : ∀ w ∈ TB, w.before args s = true := fun w h => hts w (List.mem_cons_of_mem _ h)
  have hown : s.vm.findClass RX3 = some m.cls := hown
  have hl : lv_has ls 5 [(0, .ref aR), (1, .ref aT), (2, .int (nI d)), (3, .int (nI k)), (4, .int v)] := hl
  have hP : va_P (dC, dI) vwCl [(aR, .inr (3, [.ref aS, .ref aA, .ref aL, .ref aE, .int (bI pw), .int tn])), (aS, .inr (0, [.int (nI P), .int (nI (P - 2)), .int (nI (P - 1)), .int (nI (P * (P - 2)))])), (aT, .inr (1, [.ref aS, .ref aW, .ref aM, .int (bI mk)])), (aW, .inl (cI, P * P, .inl w)), (aM, .inl (cB, P, .inl (fun z9 => bI (ms z9))))] H := hP
  have hD : va_D A [(aR, .inr (3, [.ref aS, .ref aA, .ref aL, .ref aE, .int (bI pw), .int tn])), (aS, .inr (0, [.int (nI P), .int (nI (P - 2)), .int (nI (P - 1)), .int (nI (P * (P - 2)))])), (aT, .inr (1, [.ref aS, .ref aW, .ref aM, .int (bI mk)])), (aW, .inl (cI, P * P, .inl w)), (aM, .inl (cB, P, .inl (fun z9 => bI (ms z9))))] := hD
  have hp := hp5.le
  have hpp := dr_PP hp5
  have hpq := dr_PP2 hp5
  refine lv_aload_n hx hb dX3_putIfPresent_0 rfl (lv_at hl 1 rfl) ?_
  refine va_get (D := (dC, dI)) (ci := 1) (v := .ref aM) (C := RX1) (T := TX1) (N := 4) hx hb hts inX1 hown hK hP 2 rfl rfl 2 (by decide) (hts _ t_fX3_122) (fun _ h9 => h9) rfl dX3_putIfPresent_1 ?_
  refine lv_iload_n hx hb dX3_putIfPresent_4 rfl (lv_at hl 2 rfl) ?_
  refine x_zald (g := ms) hx hb hK hP 4 1 rfl rfl dX3_putIfPresent_5 (by omega) (by omega) ?_
  refine x_ifT (tgt := 21) hx hb dX3_putIfPresent_6 (by decide) (fun h6 => ?_) (fun h6 => ?_)
  · -- 6t
    refine lv_iconst (v := bI true) hx hb dX3_putIfPresent_21 (by decide) ?_
    refine lv_goto (tgt := 26) hx hb dX3_putIfPresent_22 (by decide) ?_
    have e1 : ((dr_pif P ms (w, pw, tn) d k v).2.2.1) = pw := by first | rfl | (simp [dr_pif, h6]; done)
    have e2 : ((dr_pif P ms (w, pw, tn) d k v).2.2.2) = tn := by first | rfl | (simp [dr_pif, h6]; done)
    have e3 : ((dr_pif P ms (w, pw, tn) d k v).2.1) = w := by first | rfl | (simp [dr_pif, h6]; done)
    exact x_zret (D := (dC, dI)) (cl := vwCl) (A := A) () hQ hx hb hr hlk (by rw [e1, e2, e3]; exact hP) (by rw [e1, e2, e3]; exact hD) hS dX3_putIfPresent_26 (by first | rfl | (simp [dr_pif, h6]; done) | (simp [dr_pif, h6]; omega))
  · -- 6f
    refine lv_aload_n hx hb dX3_putIfPresent_9 rfl (lv_at hl 0 rfl) ?_
    refine lv_aload_n hx hb dX3_putIfPresent_10 rfl (lv_at hl 1 rfl) ?_
    refine lv_iload_n hx hb dX3_putIfPresent_11 rfl (lv_at hl 2 rfl) ?_
    refine lv_iload_n hx hb dX3_putIfPresent_12 rfl (lv_at hl 3 rfl) ?_
    refine lv_iload hx hb dX3_putIfPresent_13 (lv_at hl 4 rfl) ?_
    refine gV (wr := [(aM, .inl (cB, P, .inl (fun z9 => bI (ms z9))))]) (pre := [(aR, .inr (3, [.ref aS, .ref aA, .ref aL, .ref aE, .int (bI pw), .int tn])), (aS, .inr (0, [.int (nI P), .int (nI (P - 2)), .int (nI (P - 1)), .int (nI (P * (P - 2)))])), (aT, .inr (1, [.ref aS, .ref aW, .ref aM, .int (bI mk)])), (aW, .inl (cI, P * P, .inl w)), (aM, .inl (cB, P, .inl (fun z9 => bI (ms z9))))]) (tl := []) (G := fun (u : Unit) => [(aR, .inr (3, [.ref aS, .ref aA, .ref aL, .ref aE, .int (bI ((dr_put P (w, pw, tn) d k v).2.2.1)), .int ((dr_put P (w, pw, tn) d k v).2.2.2)])), (aS, .inr (0, [.int (nI P), .int (nI (P - 2)), .int (nI (P - 1)), .int (nI (P * (P - 2)))])), (aT, .inr (1, [.ref aS, .ref aW, .ref aM, .int (bI mk)])), (aW, .inl (cI, P * P, .inl ((dr_put P (w, pw, tn) d k v).2.1))), (aM, .inl (cB, P, .inl (fun z9 => bI (ms z9))))]) (b := aR) (As := [.ref aT, .int (nI d), .int (nI k), .int v]) (rst := []) ⟨hx, hb, hml, hown, hts⟩ (c_put l dC dI cI cB cQ cJ aR aS aA aL aE pw tn P aT aW aM w mk d k v hp5 (by omega) (by omega)) (cwV 4 hts (gdV t_mX3_177 t_inst_X3_put t_sel_X3_put t_ini_X3 t_code_X3_put) rfl rfl rfl (by decide +kernel) ⟨Nat.le_of_ble_eq_true rfl, Nat.le_of_ble_eq_true rfl⟩) hK hP hD hS hA [0, 1, 2, 3] [4] [0, 1, 2, 3, 4] rfl (by decide) (fun _ => rfl) (by decide) (ci := 3) rfl rfl rfl rfl hl.1 rfl (Nat.le_of_ble_eq_true rfl) dX3_putIfPresent_15 ⟨Nat.zero_le _, Nat.zero_le _⟩ (fun r u H locs hu4 hP hD hS => ?_)
    have hr15 := hu4
    have hr15 : r = bI ((dr_put P (w, pw, tn) d k v).1) := hr15
    subst hr15
    have hP : va_P (dC, dI) vwCl [(aR, .inr (3, [.ref aS, .ref aA, .ref aL, .ref aE, .int (bI ((dr_put P (w, pw, tn) d k v).2.2.1)), .int ((dr_put P (w, pw, tn) d k v).2.2.2)])), (aS, .inr (0, [.int (nI P), .int (nI (P - 2)), .int (nI (P - 1)), .int (nI (P * (P - 2)))])), (aT, .inr (1, [.ref aS, .ref aW, .ref aM, .int (bI mk)])), (aW, .inl (cI, P * P, .inl ((dr_put P (w, pw, tn) d k v).2.1))), (aM, .inl (cB, P, .inl (fun z9 => bI (ms z9))))] H := hP
    have hD : va_D A [(aR, .inr (3, [.ref aS, .ref aA, .ref aL, .ref aE, .int (bI ((dr_put P (w, pw, tn) d k v).2.2.1)), .int ((dr_put P (w, pw, tn) d k v).2.2.2)])), (aS, .inr (0, [.int (nI P), .int (nI (P - 2)), .int (nI (P - 1)), .int (nI (P * (P - 2)))])), (aT, .inr (1, [.ref aS, .ref aW, .ref aM, .int (bI mk)])), (aW, .inl (cI, P * P, .inl ((dr_put P (w, pw, tn) d k v).2.1))), (aM, .inl (cB, P, .inl (fun z9 => bI (ms z9))))] := hD
    refine x_ifF (tgt := 25) hx hb dX3_putIfPresent_18 (by decide) (fun h18 => ?_) (fun h18 => ?_)
    · -- 18t
      refine lv_iconst (v := bI false) hx hb dX3_putIfPresent_25 (by decide) ?_
      have e5 : ((dr_pif P ms (w, pw, tn) d k v).2.2.1) = ((dr_put P (w, pw, tn) d k v).2.2.1) := by first | rfl | (simp [dr_pif, h6, h18]; done)
      have e6 : ((dr_pif P ms (w, pw, tn) d k v).2.2.2) = ((dr_put P (w, pw, tn) d k v).2.2.2) := by first | rfl | (simp [dr_pif, h6, h18]; done)
      have e7 : ((dr_pif P ms (w, pw, tn) d k v).2.1) = ((dr_put P (w, pw, tn) d k v).2.1) := by first | rfl | (simp [dr_pif, h6, h18]; done)
      exact x_zret (D := (dC, dI)) (cl := vwCl) (A := A) () hQ hx hb hr hlk (by rw [e5, e6, e7]; exact hP) (by rw [e5, e6, e7]; exact hD) hS dX3_putIfPresent_26 (by first | rfl | (simp [dr_pif, h6, h18]; done) | (simp [dr_pif, h6, h18]; omega))
    · -- 18f
      refine lv_iconst (v := bI true) hx hb dX3_putIfPresent_21 (by decide) ?_
      refine lv_goto (tgt := 26) hx hb dX3_putIfPresent_22 (by decide) ?_
      have e8 : ((dr_pif P ms (w, pw, tn) d k v).2.2.1) = ((dr_put P (w, pw, tn) d k v).2.2.1) := by first | rfl | (simp [dr_pif, h6, h18]; done)
      have e9 : ((dr_pif P ms (w, pw, tn) d k v).2.2.2) = ((dr_put P (w, pw, tn) d k v).2.2.2) := by first | rfl | (simp [dr_pif, h6, h18]; done)
      have e10 : ((dr_pif P ms (w, pw, tn) d k v).2.1) = ((dr_put P (w, pw, tn) d k v).2.1) := by first | rfl | (simp [dr_pif, h6, h18]; done)
      exact x_zret (D := (dC, dI)) (cl := vwCl) (A := A) () hQ hx hb hr hlk (by rw [e8, e9, e10]; exact hP) (by rw [e8, e9, e10]; exact hD) hS dX3_putIfPresent_26 (by first | rfl | (simp [dr_pif, h6, h18]; done) | (simp [dr_pif, h6, h18]; omega))

abbrev rm_c_chg : Room := { frames := 3, cells := 0, slots := 0, locals := 70 }
set_option maxHeartbeats 4000000 in
set_option maxRecDepth 100000 in
theorem c_chg (l : Launch) (dC : Nat → ClassId) (dI : Nat → Nat → Nat) (cI cB cQ cJ : ClassId) (aR : Nat) (aS : Nat) (aA : Nat) (aL : Nat) (aE : Nat) (pw : Bool) (tn : Int32) (P : Nat) (aT : Nat) (aW : Nat) (aM : Nat) (w : Nat → Int32) (ms : Nat → Bool) (mk : Bool) (d : Nat) (k : Nat) (row : Nat) (ch : Int32) (hp5 : dr_P P) (hd : d < P) (hk : k < P - 2) (hrw : dr_row P row) : MG l yX3_changeParity (Cond.code yX3_changeParity cX3_changeParity 7 (some .boolean) :: TB) rm_c_chg (dC, dI) vwCl (TY cI cB cQ cJ) [.ref aR, .ref aT, .int (nI d), .int (nI k), .int (nI row), .int ch] [(aR, .inr (3, [.ref aS, .ref aA, .ref aL, .ref aE, .int (bI pw), .int tn])), (aS, .inr (0, [.int (nI P), .int (nI (P - 2)), .int (nI (P - 1)), .int (nI (P * (P - 2)))])), (aT, .inr (1, [.ref aS, .ref aW, .ref aM, .int (bI mk)])), (aW, .inl (cI, P * P, .inl w)), (aM, .inl (cB, P, .inl (fun z9 => bI (ms z9))))] (fun (r : Int32) (u : Unit) => r = bI ((dr_chg P ms (w, pw, tn) d k row ch).1)) (fun (u : Unit) => [(aR, .inr (3, [.ref aS, .ref aA, .ref aL, .ref aE, .int (bI ((dr_chg P ms (w, pw, tn) d k row ch).2.2.1)), .int ((dr_chg P ms (w, pw, tn) d k row ch).2.2.2)])), (aS, .inr (0, [.int (nI P), .int (nI (P - 2)), .int (nI (P - 1)), .int (nI (P * (P - 2)))])), (aT, .inr (1, [.ref aS, .ref aW, .ref aM, .int (bI mk)])), (aW, .inl (cI, P * P, .inl ((dr_chg P ms (w, pw, tn) d k row ch).2.1))), (aM, .inl (cB, P, .inl (fun z9 => bI (ms z9))))]) := by
  refine MG.ofW (cc := cX3_changeParity) (maxL := 7) (rt := .boolean) (by decide +kernel) rfl (Nat.le_of_ble_eq_true rfl) ?_
  intro p e s m args below meth c A ls Q H locs hQ hx hb hml hr hlk hts hown hK hP hD hS hA hl
  have hts : ∀ w ∈ TB, w.before args s = true := fun w h => hts w (List.mem_cons_of_mem _ h)
  have hown : s.vm.findClass RX3 = some m.cls := hown
  have hl : lv_has ls 7 [(0, .ref aR), (1, .ref aT), (2, .int (nI d)), (3, .int (nI k)), (4, .int (nI row)), (5, .int ch)] := hl
  have hP : va_P (dC, dI) vwCl [(aR, .inr (3, [.ref aS, .ref aA, .ref aL, .ref aE, .int (bI pw), .int tn])), (aS, .inr (0, [.int (nI P), .int (nI (P - 2)), .int (nI (P - 1)), .int (nI (P * (P - 2)))])), (aT, .inr (1, [.ref aS, .ref aW, .ref aM, .int (bI mk)])), (aW, .inl (cI, P * P, .inl w)), (aM, .inl (cB, P, .inl (fun z9 => bI (ms z9))))] H := hP
  have hD : va_D A [(aR, .inr (3, [.ref aS, .ref aA, .ref aL, .ref aE, .int (bI pw), .int tn])), (aS, .inr (0, [.int (nI P), .int (nI (P - 2)), .int (nI (P - 1)), .int (nI (P * (P - 2)))])), (aT, .inr (1, [.ref aS, .ref aW, .ref aM, .int (bI mk)])), (aW, .inl (cI, P * P, .inl w)), (aM, .inl (cB, P, .inl (fun z9 => bI (ms z9))))] := hD
  have hp := hp5.le
  have hpp := dr_PP hp5
  have hpq := dr_PP2 hp5
  have hrl : row < P := by rcases hrw with rfl | rfl <;> omega
  refine lv_aload_n hx hb dX3_changeParity_0 rfl (lv_at hl 0 rfl) ?_
  refine va_get (D := (dC, dI)) (ci := 3) (v := .ref aS) (C := RX3) (T := TX3) (N := 6) hx hb hts inX3 hown hK hP 0 rfl rfl 0 (by decide) (hts _ t_fX3_32) (fun _ h9 => h9) rfl dX3_changeParity_1 ?_
  refine lv_iload_n hx hb dX3_changeParity_4 rfl (lv_at hl 2 rfl) ?_
  refine lv_iload_n hx hb dX3_changeParity_5 rfl (lv_at hl 3 rfl) ?_
  refine lv_iload hx hb dX3_changeParity_6 (lv_at hl 4 rfl) ?_
  refine gV (wr := [(aR, .inr (3, [.ref aS, .ref aA, .ref aL, .ref aE, .int (bI pw), .int tn])), (aT, .inr (1, [.ref aS, .ref aW, .ref aM, .int (bI mk)])), (aW, .inl (cI, P * P, .inl w)), (aM, .inl (cB, P, .inl (fun z9 => bI (ms z9))))]) (pre := [(aR, .inr (3, [.ref aS, .ref aA, .ref aL, .ref aE, .int (bI pw), .int tn])), (aS, .inr (0, [.int (nI P), .int (nI (P - 2)), .int (nI (P - 1)), .int (nI (P * (P - 2)))])), (aT, .inr (1, [.ref aS, .ref aW, .ref aM, .int (bI mk)])), (aW, .inl (cI, P * P, .inl w)), (aM, .inl (cB, P, .inl (fun z9 => bI (ms z9))))]) (tl := []) (G := fun (u : Unit) => [(aR, .inr (3, [.ref aS, .ref aA, .ref aL, .ref aE, .int (bI pw), .int tn])), (aS, .inr (0, [.int (nI P), .int (nI (P - 2)), .int (nI (P - 1)), .int (nI (P * (P - 2)))])), (aT, .inr (1, [.ref aS, .ref aW, .ref aM, .int (bI mk)])), (aW, .inl (cI, P * P, .inl w)), (aM, .inl (cB, P, .inl (fun z9 => bI (ms z9))))]) (b := aS) (As := [.int (nI d), .int (nI k), .int (nI row)]) (rst := []) ⟨hx, hb, hml, hown, hts⟩ (c_pd l dC dI cI cB cQ cJ aS P d k row hp5 hd hk hrw) (cwV 3 hts (gdV t_mX3_180 t_inst_X0_parityDrive t_sel_X0_parityDrive t_ini_X0 t_code_X0_parityDrive) rfl rfl rfl (by decide +kernel) ⟨Nat.le_of_ble_eq_true rfl, Nat.le_of_ble_eq_true rfl⟩) hK hP hD hS hA [1] [0, 2, 3, 4] [1, 0, 2, 3, 4] rfl (by decide) (fun _ => rfl) (by decide) (ci := 0) rfl rfl rfl rfl hl.1 rfl (Nat.le_of_ble_eq_true rfl) dX3_changeParity_8 ⟨Nat.zero_le _, Nat.zero_le _⟩ (fun r u H locs hu1 hP hD hS => ?_)
  have hr8 := hu1
  have hr8 : r = nI (dr_pd P d k row) := hr8
  subst hr8
  have hP : va_P (dC, dI) vwCl [(aR, .inr (3, [.ref aS, .ref aA, .ref aL, .ref aE, .int (bI pw), .int tn])), (aS, .inr (0, [.int (nI P), .int (nI (P - 2)), .int (nI (P - 1)), .int (nI (P * (P - 2)))])), (aT, .inr (1, [.ref aS, .ref aW, .ref aM, .int (bI mk)])), (aW, .inl (cI, P * P, .inl w)), (aM, .inl (cB, P, .inl (fun z9 => bI (ms z9))))] H := hP
  have hD : va_D A [(aR, .inr (3, [.ref aS, .ref aA, .ref aL, .ref aE, .int (bI pw), .int tn])), (aS, .inr (0, [.int (nI P), .int (nI (P - 2)), .int (nI (P - 1)), .int (nI (P * (P - 2)))])), (aT, .inr (1, [.ref aS, .ref aW, .ref aM, .int (bI mk)])), (aW, .inl (cI, P * P, .inl w)), (aM, .inl (cB, P, .inl (fun z9 => bI (ms z9))))] := hD
  refine lv_istore hx hb dX3_changeParity_11 hl (by decide) rfl (fun ls hl => ?_)
  have hl : lv_has ls 7 [(6, .int (nI (dr_pd P d k row))), (0, .ref aR), (1, .ref aT), (2, .int (nI d)), (3, .int (nI k)), (4, .int (nI row)), (5, .int ch)] := hl
  refine lv_aload_n hx hb dX3_changeParity_13 rfl (lv_at hl 1 rfl) ?_
  refine lv_aload_n hx hb dX3_changeParity_14 rfl (lv_at hl 2 rfl) ?_
  refine lv_iload hx hb dX3_changeParity_15 (lv_at hl 0 rfl) ?_
  refine lv_iload hx hb dX3_changeParity_17 (lv_at hl 5 rfl) ?_
  refine lv_aload_n hx hb dX3_changeParity_19 rfl (lv_at hl 2 rfl) ?_
  refine va_get (D := (dC, dI)) (ci := 1) (v := .ref aW) (C := RX1) (T := TX1) (N := 4) hx hb hts inX1 hown hK hP 2 rfl rfl 1 (by decide) (hts _ t_fX3_152) (fun _ h9 => h9) rfl dX3_changeParity_20 ?_
  refine lv_aload_n hx hb dX3_changeParity_23 rfl (lv_at hl 1 rfl) ?_
  refine va_get (D := (dC, dI)) (ci := 3) (v := .ref aS) (C := RX3) (T := TX3) (N := 6) hx hb hts inX3 hown hK hP 0 rfl rfl 0 (by decide) (hts _ t_fX3_32) (fun _ h9 => h9) rfl dX3_changeParity_24 ?_
  refine lv_iload hx hb dX3_changeParity_27 (lv_at hl 0 rfl) ?_
  refine lv_iload hx hb dX3_changeParity_29 (lv_at hl 5 rfl) ?_
  refine gV (wr := [(aR, .inr (3, [.ref aS, .ref aA, .ref aL, .ref aE, .int (bI pw), .int tn])), (aT, .inr (1, [.ref aS, .ref aW, .ref aM, .int (bI mk)])), (aW, .inl (cI, P * P, .inl w)), (aM, .inl (cB, P, .inl (fun z9 => bI (ms z9))))]) (pre := [(aR, .inr (3, [.ref aS, .ref aA, .ref aL, .ref aE, .int (bI pw), .int tn])), (aS, .inr (0, [.int (nI P), .int (nI (P - 2)), .int (nI (P - 1)), .int (nI (P * (P - 2)))])), (aT, .inr (1, [.ref aS, .ref aW, .ref aM, .int (bI mk)])), (aW, .inl (cI, P * P, .inl w)), (aM, .inl (cB, P, .inl (fun z9 => bI (ms z9))))]) (tl := []) (G := fun (u : Unit) => [(aR, .inr (3, [.ref aS, .ref aA, .ref aL, .ref aE, .int (bI pw), .int tn])), (aS, .inr (0, [.int (nI P), .int (nI (P - 2)), .int (nI (P - 1)), .int (nI (P * (P - 2)))])), (aT, .inr (1, [.ref aS, .ref aW, .ref aM, .int (bI mk)])), (aW, .inl (cI, P * P, .inl w)), (aM, .inl (cB, P, .inl (fun z9 => bI (ms z9))))]) (b := aS) (As := [.int (nI (dr_pd P d k row)), .int (nI row)]) (rst := [.ref aW, .int (nI row), .int (nI (dr_pd P d k row)), .ref aT, .ref aR]) ⟨hx, hb, hml, hown, hts⟩ (c_place l dC dI cI cB cQ cJ aS P (dr_pd P d k row) row ) (cwV 2 hts (gdV t_mX3_156 t_inst_X0_place t_sel_X0_place t_ini_X0 t_code_X0_place) rfl rfl rfl (by decide +kernel) ⟨Nat.le_of_ble_eq_true rfl, Nat.le_of_ble_eq_true rfl⟩) hK hP hD hS hA [1] [0, 2, 3, 4] [1, 0, 2, 3, 4] rfl (by decide) (fun _ => rfl) (by decide) (ci := 0) rfl rfl rfl rfl hl.1 rfl (Nat.le_of_ble_eq_true rfl) dX3_changeParity_31 ⟨Nat.zero_le _, Nat.zero_le _⟩ (fun r u H locs hu2 hP hD hS => ?_)
  have hr31 := hu2
  have hr31 : r = nI ((dr_pd P d k row) * P + row) := hr31
  subst hr31
  have hP : va_P (dC, dI) vwCl [(aR, .inr (3, [.ref aS, .ref aA, .ref aL, .ref aE, .int (bI pw), .int tn])), (aS, .inr (0, [.int (nI P), .int (nI (P - 2)), .int (nI (P - 1)), .int (nI (P * (P - 2)))])), (aT, .inr (1, [.ref aS, .ref aW, .ref aM, .int (bI mk)])), (aW, .inl (cI, P * P, .inl w)), (aM, .inl (cB, P, .inl (fun z9 => bI (ms z9))))] H := hP
  have hD : va_D A [(aR, .inr (3, [.ref aS, .ref aA, .ref aL, .ref aE, .int (bI pw), .int tn])), (aS, .inr (0, [.int (nI P), .int (nI (P - 2)), .int (nI (P - 1)), .int (nI (P * (P - 2)))])), (aT, .inr (1, [.ref aS, .ref aW, .ref aM, .int (bI mk)])), (aW, .inl (cI, P * P, .inl w)), (aM, .inl (cB, P, .inl (fun z9 => bI (ms z9))))] := hD
  refine x_iald (f := w) hx hb hK hP 3 0 rfl rfl dX3_changeParity_34 (dr_pl (dr_pd_lt hp5) hrl) (by omega) ?_
  refine lv_iload hx hb dX3_changeParity_35 (lv_at hl 6 rfl) ?_
  refine lv_ixor hx hb dX3_changeParity_37 ?_
  refine gV (wr := []) (pre := [(aR, .inr (3, [.ref aS, .ref aA, .ref aL, .ref aE, .int (bI pw), .int tn])), (aS, .inr (0, [.int (nI P), .int (nI (P - 2)), .int (nI (P - 1)), .int (nI (P * (P - 2)))])), (aT, .inr (1, [.ref aS, .ref aW, .ref aM, .int (bI mk)])), (aW, .inl (cI, P * P, .inl w)), (aM, .inl (cB, P, .inl (fun z9 => bI (ms z9))))]) (tl := []) (G := fun (u : Unit) => [(aR, .inr (3, [.ref aS, .ref aA, .ref aL, .ref aE, .int (bI ((dr_pif P ms (w, pw, tn) (dr_pd P d k row) row ((w ((dr_pd P d k row) * P + row)) ^^^ ch)).2.2.1)), .int ((dr_pif P ms (w, pw, tn) (dr_pd P d k row) row ((w ((dr_pd P d k row) * P + row)) ^^^ ch)).2.2.2)])), (aS, .inr (0, [.int (nI P), .int (nI (P - 2)), .int (nI (P - 1)), .int (nI (P * (P - 2)))])), (aT, .inr (1, [.ref aS, .ref aW, .ref aM, .int (bI mk)])), (aW, .inl (cI, P * P, .inl ((dr_pif P ms (w, pw, tn) (dr_pd P d k row) row ((w ((dr_pd P d k row) * P + row)) ^^^ ch)).2.1))), (aM, .inl (cB, P, .inl (fun z9 => bI (ms z9))))]) (b := aR) (As := [.ref aT, .int (nI (dr_pd P d k row)), .int (nI row), .int ((w ((dr_pd P d k row) * P + row)) ^^^ ch)]) (rst := []) ⟨hx, hb, hml, hown, hts⟩ (c_pif l dC dI cI cB cQ cJ aR aS aA aL aE pw tn P aT aW aM w ms mk (dr_pd P d k row) row ((w ((dr_pd P d k row) * P + row)) ^^^ ch) hp5 (dr_pd_lt hp5) hrl) (cwV 4 hts (gdV t_mX3_96 t_inst_X3_putIfPresent t_sel_X3_putIfPresent t_ini_X3 t_code_X3_putIfPresent) rfl rfl rfl (by decide +kernel) ⟨Nat.le_of_ble_eq_true rfl, Nat.le_of_ble_eq_true rfl⟩) hK hP hD hS hA [0, 1, 2, 3, 4] [] [0, 1, 2, 3, 4] rfl (by decide) (fun _ => rfl) (by decide) (ci := 3) rfl rfl rfl rfl hl.1 rfl (Nat.le_of_ble_eq_true rfl) dX3_changeParity_38 ⟨Nat.zero_le _, Nat.zero_le _⟩ (fun r u H locs hu3 hP hD hS => ?_)
  have hr38 := hu3
  have hr38 : r = bI ((dr_pif P ms (w, pw, tn) (dr_pd P d k row) row ((w ((dr_pd P d k row) * P + row)) ^^^ ch)).1) := hr38
  subst hr38
  have hP : va_P (dC, dI) vwCl [(aR, .inr (3, [.ref aS, .ref aA, .ref aL, .ref aE, .int (bI ((dr_pif P ms (w, pw, tn) (dr_pd P d k row) row ((w ((dr_pd P d k row) * P + row)) ^^^ ch)).2.2.1)), .int ((dr_pif P ms (w, pw, tn) (dr_pd P d k row) row ((w ((dr_pd P d k row) * P + row)) ^^^ ch)).2.2.2)])), (aS, .inr (0, [.int (nI P), .int (nI (P - 2)), .int (nI (P - 1)), .int (nI (P * (P - 2)))])), (aT, .inr (1, [.ref aS, .ref aW, .ref aM, .int (bI mk)])), (aW, .inl (cI, P * P, .inl ((dr_pif P ms (w, pw, tn) (dr_pd P d k row) row ((w ((dr_pd P d k row) * P + row)) ^^^ ch)).2.1))), (aM, .inl (cB, P, .inl (fun z9 => bI (ms z9))))] H := hP
  have hD : va_D A [(aR, .inr (3, [.ref aS, .ref aA, .ref aL, .ref aE, .int (bI ((dr_pif P ms (w, pw, tn) (dr_pd P d k row) row ((w ((dr_pd P d k row) * P + row)) ^^^ ch)).2.2.1)), .int ((dr_pif P ms (w, pw, tn) (dr_pd P d k row) row ((w ((dr_pd P d k row) * P + row)) ^^^ ch)).2.2.2)])), (aS, .inr (0, [.int (nI P), .int (nI (P - 2)), .int (nI (P - 1)), .int (nI (P * (P - 2)))])), (aT, .inr (1, [.ref aS, .ref aW, .ref aM, .int (bI mk)])), (aW, .inl (cI, P * P, .inl ((dr_pif P ms (w, pw, tn) (dr_pd P d k row) row ((w ((dr_pd P d k row) * P + row)) ^^^ ch)).2.1))), (aM, .inl (cB, P, .inl (fun z9 => bI (ms z9))))] := hD
  have e4 : ((dr_chg P ms (w, pw, tn) d k row ch).2.2.1) = ((dr_pif P ms (w, pw, tn) (dr_pd P d k row) row ((w ((dr_pd P d k row) * P + row)) ^^^ ch)).2.2.1) := by first | rfl | (simp [dr_chg]; done)
  have e5 : ((dr_chg P ms (w, pw, tn) d k row ch).2.2.2) = ((dr_pif P ms (w, pw, tn) (dr_pd P d k row) row ((w ((dr_pd P d k row) * P + row)) ^^^ ch)).2.2.2) := by first | rfl | (simp [dr_chg]; done)
  have e6 : ((dr_chg P ms (w, pw, tn) d k row ch).2.1) = ((dr_pif P ms (w, pw, tn) (dr_pd P d k row) row ((w ((dr_pd P d k row) * P + row)) ^^^ ch)).2.1) := by first | rfl | (simp [dr_chg]; done)
  exact x_zret (D := (dC, dI)) (cl := vwCl) (A := A) () hQ hx hb hr hlk (by rw [e4, e5, e6]; exact hP) (by rw [e4, e5, e6]; exact hD) hS dX3_changeParity_41 (by first | rfl | (simp [dr_chg]; done) | (simp [dr_chg]; omega))

abbrev rm_c_putDrive : Room := { frames := 2, cells := 0, slots := 0, locals := 46 }
set_option maxHeartbeats 4000000 in
set_option maxRecDepth 100000 in
theorem c_putDrive (l : Launch) (dC : Nat → ClassId) (dI : Nat → Nat → Nat) (cI cB cQ cJ : ClassId) (aR : Nat) (aS : Nat) (aA : Nat) (aL : Nat) (aE : Nat) (pw : Bool) (tn : Int32) (P : Nat) (aEW : Nat) (aEK : Nat) (tw : Nat → Int32) (un : Int32) (aT : Nat) (aW : Nat) (aM : Nat) (w : Nat → Int32) (mk : Bool) (d : Nat) (hp5 : dr_P P) (hd : d < P) : MG l yX3_putDrive (Cond.code yX3_putDrive cX3_putDrive 4 (some .boolean) :: TB) rm_c_putDrive (dC, dI) vwCl (TY cI cB cQ cJ) [.ref aR, .ref aT, .int (nI d)] [(aR, .inr (3, [.ref aS, .ref aA, .ref aL, .ref aE, .int (bI pw), .int tn])), (aS, .inr (0, [.int (nI P), .int (nI (P - 2)), .int (nI (P - 1)), .int (nI (P * (P - 2)))])), (aE, .inr (2, [.ref aS, .ref aEW, .ref aEK, .int un])), (aEW, .inl (cI, P * P, .inl tw)), (aT, .inr (1, [.ref aS, .ref aW, .ref aM, .int (bI mk)])), (aW, .inl (cI, P * P, .inl w))] (fun (r : Int32) (u : Unit) => r = bI ((dr_pdr P tw d (w, pw, tn) P).1)) (fun (u : Unit) => [(aR, .inr (3, [.ref aS, .ref aA, .ref aL, .ref aE, .int (bI ((dr_pdr P tw d (w, pw, tn) P).2.2.1)), .int ((dr_pdr P tw d (w, pw, tn) P).2.2.2)])), (aS, .inr (0, [.int (nI P), .int (nI (P - 2)), .int (nI (P - 1)), .int (nI (P * (P - 2)))])), (aE, .inr (2, [.ref aS, .ref aEW, .ref aEK, .int un])), (aEW, .inl (cI, P * P, .inl tw)), (aT, .inr (1, [.ref aS, .ref aW, .ref aM, .int (bI mk)])), (aW, .inl (cI, P * P, .inl ((dr_pdr P tw d (w, pw, tn) P).2.1)))]) := by
  refine MG.ofW (cc := cX3_putDrive) (maxL := 4) (rt := .boolean) (by decide +kernel) rfl (Nat.le_of_ble_eq_true rfl) ?_
  intro p e s m args below meth c A ls Q H locs hQ hx hb hml hr hlk hts hown hK hP hD hS hA hl
  have hts : ∀ w ∈ TB, w.before args s = true := fun w h => hts w (List.mem_cons_of_mem _ h)
  have hown : s.vm.findClass RX3 = some m.cls := hown
  have hl : lv_has ls 4 [(0, .ref aR), (1, .ref aT), (2, .int (nI d))] := hl
  have hP : va_P (dC, dI) vwCl [(aR, .inr (3, [.ref aS, .ref aA, .ref aL, .ref aE, .int (bI pw), .int tn])), (aS, .inr (0, [.int (nI P), .int (nI (P - 2)), .int (nI (P - 1)), .int (nI (P * (P - 2)))])), (aE, .inr (2, [.ref aS, .ref aEW, .ref aEK, .int un])), (aEW, .inl (cI, P * P, .inl tw)), (aT, .inr (1, [.ref aS, .ref aW, .ref aM, .int (bI mk)])), (aW, .inl (cI, P * P, .inl w))] H := hP
  have hD : va_D A [(aR, .inr (3, [.ref aS, .ref aA, .ref aL, .ref aE, .int (bI pw), .int tn])), (aS, .inr (0, [.int (nI P), .int (nI (P - 2)), .int (nI (P - 1)), .int (nI (P * (P - 2)))])), (aE, .inr (2, [.ref aS, .ref aEW, .ref aEK, .int un])), (aEW, .inl (cI, P * P, .inl tw)), (aT, .inr (1, [.ref aS, .ref aW, .ref aM, .int (bI mk)])), (aW, .inl (cI, P * P, .inl w))] := hD
  have hp := hp5.le
  have hpp := dr_PP hp5
  have hpq := dr_PP2 hp5
  refine lv_iconst (v := nI 0) hx hb dX3_putDrive_0 (by decide) ?_
  refine lv_istore_n hx hb dX3_putDrive_1 rfl hl (by decide) rfl (fun ls hl => ?_)
  have hl : lv_has ls 4 [(3, .int (nI 0)), (0, .ref aR), (1, .ref aT), (2, .int (nI d))] := hl
  have lp2 : ∀ (n9 : Nat) (i : Nat) (x : dr_X) (ls : Array Slot) (H : Heap) (locs : List Loc), P - i < n9 → (i ≤ P) → (dr_pdr P tw d (w, pw, tn) i = (true, x)) → lv_has ls 4 [(3, .int (nI i)), (2, .int (nI d)), (1, .ref aT), (0, .ref aR)] → va_P (dC, dI) vwCl [(aR, .inr (3, [.ref aS, .ref aA, .ref aL, .ref aE, .int (bI x.2.1), .int x.2.2])), (aS, .inr (0, [.int (nI P), .int (nI (P - 2)), .int (nI (P - 1)), .int (nI (P * (P - 2)))])), (aE, .inr (2, [.ref aS, .ref aEW, .ref aEK, .int un])), (aEW, .inl (cI, P * P, .inl tw)), (aT, .inr (1, [.ref aS, .ref aW, .ref aM, .int (bI mk)])), (aW, .inl (cI, P * P, .inl x.1))] H → va_D A [(aR, .inr (3, [.ref aS, .ref aA, .ref aL, .ref aE, .int (bI x.2.1), .int x.2.2])), (aS, .inr (0, [.int (nI P), .int (nI (P - 2)), .int (nI (P - 1)), .int (nI (P * (P - 2)))])), (aE, .inr (2, [.ref aS, .ref aEW, .ref aEK, .int un])), (aEW, .inl (cI, P * P, .inl tw)), (aT, .inr (1, [.ref aS, .ref aW, .ref aM, .int (bI mk)])), (aW, .inl (cI, P * P, .inl x.1))] → va_S A s.heap H locs → W p l e rm_c_putDrive s m args below meth c H locs 0 0 Q (F0 m 2 ls []) := by
    intro n9
    induction n9 with
    | zero => intro i x ls H locs hn9; omega
    | succ n9 ih2 =>
      intro i x ls H locs hn9 hi hx9 hl hP hD hS
      refine lv_iload_n hx hb dX3_putDrive_2 rfl (lv_at hl 0 rfl) ?_
      refine lv_aload_n hx hb dX3_putDrive_3 rfl (lv_at hl 3 rfl) ?_
      refine va_get (D := (dC, dI)) (ci := 3) (v := .ref aS) (C := RX3) (T := TX3) (N := 6) hx hb hts inX3 hown hK hP 0 rfl rfl 0 (by decide) (hts _ t_fX3_32) (fun _ h9 => h9) rfl dX3_putDrive_4 ?_
      refine va_get (D := (dC, dI)) (ci := 0) (v := .int (nI P)) (C := RX0) (T := TX0) (N := 4) hx hb hts inX0 hown hK hP 1 rfl rfl 0 (by decide) (hts _ t_fX3_40) (fun _ h9 => h9) rfl dX3_putDrive_7 ?_
      refine x_cge (tgt := 48) hx hb dX3_putDrive_10 (by decide) (by omega) (by omega) (fun h10 => ?_) (fun h10 => ?_)
      · -- 10t
        have hie9 : i = P := by omega
        rw [hie9] at hx9
        refine lv_iconst (v := bI true) hx hb dX3_putDrive_48 (by decide) ?_
        have e1 : ((dr_pdr P tw d (w, pw, tn) P).2.2.1) = x.2.1 := by rw [hx9]
        have e2 : ((dr_pdr P tw d (w, pw, tn) P).2.2.2) = x.2.2 := by rw [hx9]
        have e3 : ((dr_pdr P tw d (w, pw, tn) P).2.1) = x.1 := by rw [hx9]
        exact x_zret (D := (dC, dI)) (cl := vwCl) (A := A) () hQ hx hb hr hlk (by rw [e1, e2, e3]; exact hP) (by rw [e1, e2, e3]; exact hD) hS dX3_putDrive_49 (by rw [hx9])
      · -- 10f
        refine lv_aload_n hx hb dX3_putDrive_13 rfl (lv_at hl 3 rfl) ?_
        refine lv_aload_n hx hb dX3_putDrive_14 rfl (lv_at hl 2 rfl) ?_
        refine lv_iload_n hx hb dX3_putDrive_15 rfl (lv_at hl 1 rfl) ?_
        refine lv_iload_n hx hb dX3_putDrive_16 rfl (lv_at hl 0 rfl) ?_
        refine lv_aload_n hx hb dX3_putDrive_17 rfl (lv_at hl 3 rfl) ?_
        refine va_get (D := (dC, dI)) (ci := 3) (v := .ref aE) (C := RX3) (T := TX3) (N := 6) hx hb hts inX3 hown hK hP 0 rfl rfl 3 (by decide) (hts _ t_fX3_51) (fun _ h9 => h9) rfl dX3_putDrive_18 ?_
        refine va_get (D := (dC, dI)) (ci := 2) (v := .ref aEW) (C := RX2) (T := TX2) (N := 4) hx hb hts inX2 hown hK hP 2 rfl rfl 1 (by decide) (hts _ t_fX3_173) (fun _ h9 => h9) rfl dX3_putDrive_21 ?_
        refine lv_aload_n hx hb dX3_putDrive_24 rfl (lv_at hl 3 rfl) ?_
        refine va_get (D := (dC, dI)) (ci := 3) (v := .ref aS) (C := RX3) (T := TX3) (N := 6) hx hb hts inX3 hown hK hP 0 rfl rfl 0 (by decide) (hts _ t_fX3_32) (fun _ h9 => h9) rfl dX3_putDrive_25 ?_
        refine lv_iload_n hx hb dX3_putDrive_28 rfl (lv_at hl 1 rfl) ?_
        refine lv_iload_n hx hb dX3_putDrive_29 rfl (lv_at hl 0 rfl) ?_
        refine gV (wr := [(aR, .inr (3, [.ref aS, .ref aA, .ref aL, .ref aE, .int (bI x.2.1), .int x.2.2])), (aE, .inr (2, [.ref aS, .ref aEW, .ref aEK, .int un])), (aEW, .inl (cI, P * P, .inl tw)), (aT, .inr (1, [.ref aS, .ref aW, .ref aM, .int (bI mk)])), (aW, .inl (cI, P * P, .inl x.1))]) (pre := [(aR, .inr (3, [.ref aS, .ref aA, .ref aL, .ref aE, .int (bI x.2.1), .int x.2.2])), (aS, .inr (0, [.int (nI P), .int (nI (P - 2)), .int (nI (P - 1)), .int (nI (P * (P - 2)))])), (aE, .inr (2, [.ref aS, .ref aEW, .ref aEK, .int un])), (aEW, .inl (cI, P * P, .inl tw)), (aT, .inr (1, [.ref aS, .ref aW, .ref aM, .int (bI mk)])), (aW, .inl (cI, P * P, .inl x.1))]) (tl := []) (G := fun (u : Unit) => [(aR, .inr (3, [.ref aS, .ref aA, .ref aL, .ref aE, .int (bI x.2.1), .int x.2.2])), (aS, .inr (0, [.int (nI P), .int (nI (P - 2)), .int (nI (P - 1)), .int (nI (P * (P - 2)))])), (aE, .inr (2, [.ref aS, .ref aEW, .ref aEK, .int un])), (aEW, .inl (cI, P * P, .inl tw)), (aT, .inr (1, [.ref aS, .ref aW, .ref aM, .int (bI mk)])), (aW, .inl (cI, P * P, .inl x.1))]) (b := aS) (As := [.int (nI d), .int (nI i)]) (rst := [.ref aEW, .int (nI i), .int (nI d), .ref aT, .ref aR]) ⟨hx, hb, hml, hown, hts⟩ (c_place l dC dI cI cB cQ cJ aS P d i ) (cwV 2 hts (gdV t_mX3_156 t_inst_X0_place t_sel_X0_place t_ini_X0 t_code_X0_place) rfl rfl rfl (by decide +kernel) ⟨Nat.le_of_ble_eq_true rfl, Nat.le_of_ble_eq_true rfl⟩) hK hP hD hS hA [1] [0, 2, 3, 4, 5] [1, 0, 2, 3, 4, 5] rfl (by decide) (fun _ => rfl) (by decide) (ci := 0) rfl rfl rfl rfl hl.1 rfl (Nat.le_of_ble_eq_true rfl) dX3_putDrive_30 ⟨Nat.zero_le _, Nat.zero_le _⟩ (fun r u H locs hu4 hP hD hS => ?_)
        have hr30 := hu4
        have hr30 : r = nI (d * P + i) := hr30
        subst hr30
        have hP : va_P (dC, dI) vwCl [(aR, .inr (3, [.ref aS, .ref aA, .ref aL, .ref aE, .int (bI x.2.1), .int x.2.2])), (aS, .inr (0, [.int (nI P), .int (nI (P - 2)), .int (nI (P - 1)), .int (nI (P * (P - 2)))])), (aE, .inr (2, [.ref aS, .ref aEW, .ref aEK, .int un])), (aEW, .inl (cI, P * P, .inl tw)), (aT, .inr (1, [.ref aS, .ref aW, .ref aM, .int (bI mk)])), (aW, .inl (cI, P * P, .inl x.1))] H := hP
        have hD : va_D A [(aR, .inr (3, [.ref aS, .ref aA, .ref aL, .ref aE, .int (bI x.2.1), .int x.2.2])), (aS, .inr (0, [.int (nI P), .int (nI (P - 2)), .int (nI (P - 1)), .int (nI (P * (P - 2)))])), (aE, .inr (2, [.ref aS, .ref aEW, .ref aEK, .int un])), (aEW, .inl (cI, P * P, .inl tw)), (aT, .inr (1, [.ref aS, .ref aW, .ref aM, .int (bI mk)])), (aW, .inl (cI, P * P, .inl x.1))] := hD
        refine x_iald (f := tw) hx hb hK hP 3 0 rfl rfl dX3_putDrive_33 (dr_pl hd (by omega)) (by omega) ?_
        refine gV (wr := [(aE, .inr (2, [.ref aS, .ref aEW, .ref aEK, .int un])), (aEW, .inl (cI, P * P, .inl tw))]) (pre := [(aR, .inr (3, [.ref aS, .ref aA, .ref aL, .ref aE, .int (bI x.2.1), .int x.2.2])), (aS, .inr (0, [.int (nI P), .int (nI (P - 2)), .int (nI (P - 1)), .int (nI (P * (P - 2)))])), (aE, .inr (2, [.ref aS, .ref aEW, .ref aEK, .int un])), (aEW, .inl (cI, P * P, .inl tw)), (aT, .inr (1, [.ref aS, .ref aW, .ref aM, .int (bI mk)])), (aW, .inl (cI, P * P, .inl x.1))]) (tl := []) (G := fun (u : Unit) => [(aR, .inr (3, [.ref aS, .ref aA, .ref aL, .ref aE, .int (bI ((dr_put P (x.1, x.2.1, x.2.2) d i (tw (d * P + i))).2.2.1)), .int ((dr_put P (x.1, x.2.1, x.2.2) d i (tw (d * P + i))).2.2.2)])), (aS, .inr (0, [.int (nI P), .int (nI (P - 2)), .int (nI (P - 1)), .int (nI (P * (P - 2)))])), (aE, .inr (2, [.ref aS, .ref aEW, .ref aEK, .int un])), (aEW, .inl (cI, P * P, .inl tw)), (aT, .inr (1, [.ref aS, .ref aW, .ref aM, .int (bI mk)])), (aW, .inl (cI, P * P, .inl ((dr_put P (x.1, x.2.1, x.2.2) d i (tw (d * P + i))).2.1)))]) (b := aR) (As := [.ref aT, .int (nI d), .int (nI i), .int (tw (d * P + i))]) (rst := []) ⟨hx, hb, hml, hown, hts⟩ (c_put l dC dI cI cB cQ cJ aR aS aA aL aE x.2.1 x.2.2 P aT aW aM x.1 mk d i (tw (d * P + i)) hp5 (by omega) (by omega)) (cwV 4 hts (gdV t_mX3_177 t_inst_X3_put t_sel_X3_put t_ini_X3 t_code_X3_put) rfl rfl rfl (by decide +kernel) ⟨Nat.le_of_ble_eq_true rfl, Nat.le_of_ble_eq_true rfl⟩) hK hP hD hS hA [0, 1, 4, 5] [2, 3] [0, 1, 4, 5, 2, 3] rfl (by decide) (fun _ => rfl) (by decide) (ci := 3) rfl rfl rfl rfl hl.1 rfl (Nat.le_of_ble_eq_true rfl) dX3_putDrive_34 ⟨Nat.zero_le _, Nat.zero_le _⟩ (fun r u H locs hu5 hP hD hS => ?_)
        have hr34 := hu5
        have hr34 : r = bI ((dr_put P (x.1, x.2.1, x.2.2) d i (tw (d * P + i))).1) := hr34
        subst hr34
        have hP : va_P (dC, dI) vwCl [(aR, .inr (3, [.ref aS, .ref aA, .ref aL, .ref aE, .int (bI ((dr_put P (x.1, x.2.1, x.2.2) d i (tw (d * P + i))).2.2.1)), .int ((dr_put P (x.1, x.2.1, x.2.2) d i (tw (d * P + i))).2.2.2)])), (aS, .inr (0, [.int (nI P), .int (nI (P - 2)), .int (nI (P - 1)), .int (nI (P * (P - 2)))])), (aE, .inr (2, [.ref aS, .ref aEW, .ref aEK, .int un])), (aEW, .inl (cI, P * P, .inl tw)), (aT, .inr (1, [.ref aS, .ref aW, .ref aM, .int (bI mk)])), (aW, .inl (cI, P * P, .inl ((dr_put P (x.1, x.2.1, x.2.2) d i (tw (d * P + i))).2.1)))] H := hP
        have hD : va_D A [(aR, .inr (3, [.ref aS, .ref aA, .ref aL, .ref aE, .int (bI ((dr_put P (x.1, x.2.1, x.2.2) d i (tw (d * P + i))).2.2.1)), .int ((dr_put P (x.1, x.2.1, x.2.2) d i (tw (d * P + i))).2.2.2)])), (aS, .inr (0, [.int (nI P), .int (nI (P - 2)), .int (nI (P - 1)), .int (nI (P * (P - 2)))])), (aE, .inr (2, [.ref aS, .ref aEW, .ref aEK, .int un])), (aEW, .inl (cI, P * P, .inl tw)), (aT, .inr (1, [.ref aS, .ref aW, .ref aM, .int (bI mk)])), (aW, .inl (cI, P * P, .inl ((dr_put P (x.1, x.2.1, x.2.2) d i (tw (d * P + i))).2.1)))] := hD
        refine x_ifT (tgt := 42) hx hb dX3_putDrive_37 (by decide) (fun h37 => ?_) (fun h37 => ?_)
        · -- 37t
          refine lv_iinc (v := nI (i + 1)) hx hb dX3_putDrive_42 hl (k := 0) rfl (x_inc _) (by decide) rfl (fun ls hl => ?_)
          have hl : lv_has ls 4 [(3, .int (nI (i + 1))), (2, .int (nI d)), (1, .ref aT), (0, .ref aR)] := hl
          refine lv_goto (tgt := 2) hx hb dX3_putDrive_45 (by decide) ?_
          have e6 : (((dr_put P x d i (tw (d * P + i))).2).2.1) = ((dr_put P (x.1, x.2.1, x.2.2) d i (tw (d * P + i))).2.2.1) := by first | rfl | (simp [h10, h37]; done) | (simp [h10, h37]; omega)
          have e7 : (((dr_put P x d i (tw (d * P + i))).2).2.2) = ((dr_put P (x.1, x.2.1, x.2.2) d i (tw (d * P + i))).2.2.2) := by first | rfl | (simp [h10, h37]; done) | (simp [h10, h37]; omega)
          have e8 : (((dr_put P x d i (tw (d * P + i))).2).1) = ((dr_put P (x.1, x.2.1, x.2.2) d i (tw (d * P + i))).2.1) := by first | rfl | (simp [h10, h37]; done) | (simp [h10, h37]; omega)
          exact ih2 (i + 1) ((dr_put P x d i (tw (d * P + i))).2) ls H locs (by omega) (by omega) (by first | rfl | (rw [dr_pdr, hx9, if_pos rfl]; exact Prod.ext h37 rfl)) (lv_sub hl [0, 1, 2, 3] rfl) (by rw [e6, e7, e8]; exact hP) (by rw [e6, e7, e8]; exact hD) hS
        · -- 37f
          refine lv_iconst (v := bI false) hx hb dX3_putDrive_40 (by decide) ?_
          have e9 : ((dr_pdr P tw d (w, pw, tn) P).2.2.1) = ((dr_put P (x.1, x.2.1, x.2.2) d i (tw (d * P + i))).2.2.1) := by rw [dr_pdr_false (show i < P by omega) hx9 h37]
          have e10 : ((dr_pdr P tw d (w, pw, tn) P).2.2.2) = ((dr_put P (x.1, x.2.1, x.2.2) d i (tw (d * P + i))).2.2.2) := by rw [dr_pdr_false (show i < P by omega) hx9 h37]
          have e11 : ((dr_pdr P tw d (w, pw, tn) P).2.1) = ((dr_put P (x.1, x.2.1, x.2.2) d i (tw (d * P + i))).2.1) := by rw [dr_pdr_false (show i < P by omega) hx9 h37]
          exact x_zret (D := (dC, dI)) (cl := vwCl) (A := A) () hQ hx hb hr hlk (by rw [e9, e10, e11]; exact hP) (by rw [e9, e10, e11]; exact hD) hS dX3_putDrive_41 (by rw [dr_pdr_false (show i < P by omega) hx9 h37]; exact congrArg bI h37.symm)
  have e12 : ((w, pw, tn).2.1) = pw := by first | rfl | (simp []; done) | (simp []; omega)
  have e13 : ((w, pw, tn).2.2) = tn := by first | rfl | (simp []; done) | (simp []; omega)
  have e14 : ((w, pw, tn).1) = w := by first | rfl | (simp []; done) | (simp []; omega)
  exact lp2 (P - 0 + 1) 0 (w, pw, tn) ls H locs (by omega) (by omega) (by first | rfl | (rw [dr_pdr, hx9, if_pos rfl]; exact Prod.ext h37 rfl)) (lv_sub hl [0, 3, 2, 1] rfl) (by rw [e12, e13, e14]; exact hP) (by rw [e12, e13, e14]; exact hD) hS

abbrev rm_c_rbs : Room := { frames := 4, cells := 0, slots := 0, locals := 97 }
set_option maxHeartbeats 4000000 in
set_option maxRecDepth 100000 in
theorem c_rbs (l : Launch) (dC : Nat → ClassId) (dI : Nat → Nat → Nat) (cI cB cQ cJ : ClassId) (aR : Nat) (aS : Nat) (aA : Nat) (aL : Nat) (aE : Nat) (pw : Bool) (tn : Int32) (P : Nat) (lo : Nat → Bool) (aEW : Nat) (aEK : Nat) (tw : Nat → Int32) (kn : Nat → Bool) (un : Int32) (aT : Nat) (aW : Nat) (aM : Nat) (w : Nat → Int32) (ms : Nat → Bool) (mk : Bool) (hp5 : dr_P P) : MG l yX3_rebuildStripe (Cond.code yX3_rebuildStripe cX3_rebuildStripe 3 (some .boolean) :: TB) rm_c_rbs (dC, dI) vwCl (TY cI cB cQ cJ) [.ref aR, .ref aT] [(aR, .inr (3, [.ref aS, .ref aA, .ref aL, .ref aE, .int (bI pw), .int tn])), (aS, .inr (0, [.int (nI P), .int (nI (P - 2)), .int (nI (P - 1)), .int (nI (P * (P - 2)))])), (aL, .inl (cB, P, .inl (fun z9 => bI (lo z9)))), (aE, .inr (2, [.ref aS, .ref aEW, .ref aEK, .int un])), (aEW, .inl (cI, P * P, .inl tw)), (aEK, .inl (cB, P * P, .inl (fun z9 => bI (kn z9)))), (aT, .inr (1, [.ref aS, .ref aW, .ref aM, .int (bI mk)])), (aW, .inl (cI, P * P, .inl w)), (aM, .inl (cB, P, .inl (fun z9 => bI (ms z9))))] (fun (r : Int32) (u : Unit) => r = bI ((dr_rbl P lo ms (dr_tell P ms w kn tw).2.1 (w, pw, tn) P).1)) (fun (u : Unit) => [(aR, .inr (3, [.ref aS, .ref aA, .ref aL, .ref aE, .int (bI ((dr_rbl P lo ms (dr_tell P ms w kn tw).2.1 (w, pw, tn) P).2.2.1)), .int ((dr_rbl P lo ms (dr_tell P ms w kn tw).2.1 (w, pw, tn) P).2.2.2)])), (aS, .inr (0, [.int (nI P), .int (nI (P - 2)), .int (nI (P - 1)), .int (nI (P * (P - 2)))])), (aL, .inl (cB, P, .inl (fun z9 => bI (lo z9)))), (aE, .inr (2, [.ref aS, .ref aEW, .ref aEK, .int ((dr_tell P ms w kn tw).2.2)])), (aEW, .inl (cI, P * P, .inl ((dr_tell P ms w kn tw).2.1))), (aEK, .inl (cB, P * P, .inl (fun z9 => bI (((dr_tell P ms w kn tw).1) z9)))), (aT, .inr (1, [.ref aS, .ref aW, .ref aM, .int (bI mk)])), (aW, .inl (cI, P * P, .inl ((dr_rbl P lo ms (dr_tell P ms w kn tw).2.1 (w, pw, tn) P).2.1))), (aM, .inl (cB, P, .inl (fun z9 => bI ((if (dr_rbl P lo ms (dr_tell P ms w kn tw).2.1 (w, pw, tn) P).1 = true then dr_mf lo ms P else ms) z9))))]) := by
  refine MG.ofW (cc := cX3_rebuildStripe) (maxL := 3) (rt := .boolean) (by decide +kernel) rfl (Nat.le_of_ble_eq_true rfl) ?_
  intro p e s m args below meth c A ls Q H locs hQ hx hb hml hr hlk hts hown hK hP hD hS hA hl
  have hts : ∀ w ∈ TB, w.before args s = true := fun w h => hts w (List.mem_cons_of_mem _ h)
  have hown : s.vm.findClass RX3 = some m.cls := hown
  have hl : lv_has ls 3 [(0, .ref aR), (1, .ref aT)] := hl
  have hP : va_P (dC, dI) vwCl [(aR, .inr (3, [.ref aS, .ref aA, .ref aL, .ref aE, .int (bI pw), .int tn])), (aS, .inr (0, [.int (nI P), .int (nI (P - 2)), .int (nI (P - 1)), .int (nI (P * (P - 2)))])), (aL, .inl (cB, P, .inl (fun z9 => bI (lo z9)))), (aE, .inr (2, [.ref aS, .ref aEW, .ref aEK, .int un])), (aEW, .inl (cI, P * P, .inl tw)), (aEK, .inl (cB, P * P, .inl (fun z9 => bI (kn z9)))), (aT, .inr (1, [.ref aS, .ref aW, .ref aM, .int (bI mk)])), (aW, .inl (cI, P * P, .inl w)), (aM, .inl (cB, P, .inl (fun z9 => bI (ms z9))))] H := hP
  have hD : va_D A [(aR, .inr (3, [.ref aS, .ref aA, .ref aL, .ref aE, .int (bI pw), .int tn])), (aS, .inr (0, [.int (nI P), .int (nI (P - 2)), .int (nI (P - 1)), .int (nI (P * (P - 2)))])), (aL, .inl (cB, P, .inl (fun z9 => bI (lo z9)))), (aE, .inr (2, [.ref aS, .ref aEW, .ref aEK, .int un])), (aEW, .inl (cI, P * P, .inl tw)), (aEK, .inl (cB, P * P, .inl (fun z9 => bI (kn z9)))), (aT, .inr (1, [.ref aS, .ref aW, .ref aM, .int (bI mk)])), (aW, .inl (cI, P * P, .inl w)), (aM, .inl (cB, P, .inl (fun z9 => bI (ms z9))))] := hD
  have hp := hp5.le
  have hpp := dr_PP hp5
  have hpq := dr_PP2 hp5
  refine lv_aload_n hx hb dX3_rebuildStripe_0 rfl (lv_at hl 0 rfl) ?_
  refine va_get (D := (dC, dI)) (ci := 3) (v := .ref aE) (C := RX3) (T := TX3) (N := 6) hx hb hts inX3 hown hK hP 0 rfl rfl 3 (by decide) (hts _ t_fX3_51) (fun _ h9 => h9) rfl dX3_rebuildStripe_1 ?_
  refine lv_aload_n hx hb dX3_rebuildStripe_4 rfl (lv_at hl 1 rfl) ?_
  refine gVv (wr := [(aR, .inr (3, [.ref aS, .ref aA, .ref aL, .ref aE, .int (bI pw), .int tn])), (aL, .inl (cB, P, .inl (fun z9 => bI (lo z9))))]) (pre := [(aR, .inr (3, [.ref aS, .ref aA, .ref aL, .ref aE, .int (bI pw), .int tn])), (aS, .inr (0, [.int (nI P), .int (nI (P - 2)), .int (nI (P - 1)), .int (nI (P * (P - 2)))])), (aL, .inl (cB, P, .inl (fun z9 => bI (lo z9)))), (aE, .inr (2, [.ref aS, .ref aEW, .ref aEK, .int un])), (aEW, .inl (cI, P * P, .inl tw)), (aEK, .inl (cB, P * P, .inl (fun z9 => bI (kn z9)))), (aT, .inr (1, [.ref aS, .ref aW, .ref aM, .int (bI mk)])), (aW, .inl (cI, P * P, .inl w)), (aM, .inl (cB, P, .inl (fun z9 => bI (ms z9))))]) (tl := []) (G := fun (u : Unit) => [(aR, .inr (3, [.ref aS, .ref aA, .ref aL, .ref aE, .int (bI pw), .int tn])), (aS, .inr (0, [.int (nI P), .int (nI (P - 2)), .int (nI (P - 1)), .int (nI (P * (P - 2)))])), (aL, .inl (cB, P, .inl (fun z9 => bI (lo z9)))), (aE, .inr (2, [.ref aS, .ref aEW, .ref aEK, .int ((dr_tell P ms w kn tw).2.2)])), (aEW, .inl (cI, P * P, .inl ((dr_tell P ms w kn tw).2.1))), (aEK, .inl (cB, P * P, .inl (fun z9 => bI (((dr_tell P ms w kn tw).1) z9)))), (aT, .inr (1, [.ref aS, .ref aW, .ref aM, .int (bI mk)])), (aW, .inl (cI, P * P, .inl w)), (aM, .inl (cB, P, .inl (fun z9 => bI (ms z9))))]) (b := aE) (As := [.ref aT]) (rst := []) ⟨hx, hb, hml, hown, hts⟩ (c_tell l dC dI cI cB cQ cJ aE aS aEW aEK P tw kn un aT aW aM w ms mk hp5) (cwV 1 hts (gdV t_mX3_169 t_inst_X2_tell t_sel_X2_tell t_ini_X2 t_code_X2_tell) rfl rfl rfl (by decide +kernel) ⟨Nat.le_of_ble_eq_true rfl, Nat.le_of_ble_eq_true rfl⟩) hK hP hD hS hA [3, 4, 5, 1, 6, 7, 8] [0, 2] [7, 3, 8, 0, 1, 2, 4, 5, 6] rfl (by decide) (fun _ => rfl) (by decide) (ci := 2) rfl rfl rfl rfl hl.1 rfl (Nat.le_of_ble_eq_true rfl) dX3_rebuildStripe_5 ⟨Nat.zero_le _, Nat.zero_le _⟩ (fun u H locs hu1 hP hD hS => ?_)
  have hP : va_P (dC, dI) vwCl [(aR, .inr (3, [.ref aS, .ref aA, .ref aL, .ref aE, .int (bI pw), .int tn])), (aS, .inr (0, [.int (nI P), .int (nI (P - 2)), .int (nI (P - 1)), .int (nI (P * (P - 2)))])), (aL, .inl (cB, P, .inl (fun z9 => bI (lo z9)))), (aE, .inr (2, [.ref aS, .ref aEW, .ref aEK, .int ((dr_tell P ms w kn tw).2.2)])), (aEW, .inl (cI, P * P, .inl ((dr_tell P ms w kn tw).2.1))), (aEK, .inl (cB, P * P, .inl (fun z9 => bI (((dr_tell P ms w kn tw).1) z9)))), (aT, .inr (1, [.ref aS, .ref aW, .ref aM, .int (bI mk)])), (aW, .inl (cI, P * P, .inl w)), (aM, .inl (cB, P, .inl (fun z9 => bI (ms z9))))] H := hP
  have hD : va_D A [(aR, .inr (3, [.ref aS, .ref aA, .ref aL, .ref aE, .int (bI pw), .int tn])), (aS, .inr (0, [.int (nI P), .int (nI (P - 2)), .int (nI (P - 1)), .int (nI (P * (P - 2)))])), (aL, .inl (cB, P, .inl (fun z9 => bI (lo z9)))), (aE, .inr (2, [.ref aS, .ref aEW, .ref aEK, .int ((dr_tell P ms w kn tw).2.2)])), (aEW, .inl (cI, P * P, .inl ((dr_tell P ms w kn tw).2.1))), (aEK, .inl (cB, P * P, .inl (fun z9 => bI (((dr_tell P ms w kn tw).1) z9)))), (aT, .inr (1, [.ref aS, .ref aW, .ref aM, .int (bI mk)])), (aW, .inl (cI, P * P, .inl w)), (aM, .inl (cB, P, .inl (fun z9 => bI (ms z9))))] := hD
  refine lv_iconst (v := nI 0) hx hb dX3_rebuildStripe_8 (by decide) ?_
  refine lv_istore_n hx hb dX3_rebuildStripe_9 rfl hl (by decide) rfl (fun ls hl => ?_)
  have hl : lv_has ls 3 [(2, .int (nI 0)), (0, .ref aR), (1, .ref aT)] := hl
  have lp10 : ∀ (n9 : Nat) (i : Nat) (x : dr_X) (ls : Array Slot) (H : Heap) (locs : List Loc), P - i < n9 → (i ≤ P) → (dr_rbl P lo ms (dr_tell P ms w kn tw).2.1 (w, pw, tn) i = (true, x)) → lv_has ls 3 [(2, .int (nI i)), (1, .ref aT), (0, .ref aR)] → va_P (dC, dI) vwCl [(aR, .inr (3, [.ref aS, .ref aA, .ref aL, .ref aE, .int (bI x.2.1), .int x.2.2])), (aS, .inr (0, [.int (nI P), .int (nI (P - 2)), .int (nI (P - 1)), .int (nI (P * (P - 2)))])), (aL, .inl (cB, P, .inl (fun z9 => bI (lo z9)))), (aE, .inr (2, [.ref aS, .ref aEW, .ref aEK, .int ((dr_tell P ms w kn tw).2.2)])), (aEW, .inl (cI, P * P, .inl ((dr_tell P ms w kn tw).2.1))), (aEK, .inl (cB, P * P, .inl (fun z9 => bI (((dr_tell P ms w kn tw).1) z9)))), (aT, .inr (1, [.ref aS, .ref aW, .ref aM, .int (bI mk)])), (aW, .inl (cI, P * P, .inl x.1)), (aM, .inl (cB, P, .inl (fun z9 => bI (ms z9))))] H → va_D A [(aR, .inr (3, [.ref aS, .ref aA, .ref aL, .ref aE, .int (bI x.2.1), .int x.2.2])), (aS, .inr (0, [.int (nI P), .int (nI (P - 2)), .int (nI (P - 1)), .int (nI (P * (P - 2)))])), (aL, .inl (cB, P, .inl (fun z9 => bI (lo z9)))), (aE, .inr (2, [.ref aS, .ref aEW, .ref aEK, .int ((dr_tell P ms w kn tw).2.2)])), (aEW, .inl (cI, P * P, .inl ((dr_tell P ms w kn tw).2.1))), (aEK, .inl (cB, P * P, .inl (fun z9 => bI (((dr_tell P ms w kn tw).1) z9)))), (aT, .inr (1, [.ref aS, .ref aW, .ref aM, .int (bI mk)])), (aW, .inl (cI, P * P, .inl x.1)), (aM, .inl (cB, P, .inl (fun z9 => bI (ms z9))))] → va_S A s.heap H locs → W p l e rm_c_rbs s m args below meth c H locs 0 0 Q (F0 m 10 ls []) := by
    intro n9
    induction n9 with
    | zero => intro i x ls H locs hn9; omega
    | succ n9 ih10 =>
      intro i x ls H locs hn9 hi hx9 hl hP hD hS
      refine lv_iload_n hx hb dX3_rebuildStripe_10 rfl (lv_at hl 0 rfl) ?_
      refine lv_aload_n hx hb dX3_rebuildStripe_11 rfl (lv_at hl 2 rfl) ?_
      refine va_get (D := (dC, dI)) (ci := 3) (v := .ref aS) (C := RX3) (T := TX3) (N := 6) hx hb hts inX3 hown hK hP 0 rfl rfl 0 (by decide) (hts _ t_fX3_32) (fun _ h9 => h9) rfl dX3_rebuildStripe_12 ?_
      refine va_get (D := (dC, dI)) (ci := 0) (v := .int (nI P)) (C := RX0) (T := TX0) (N := 4) hx hb hts inX0 hown hK hP 1 rfl rfl 0 (by decide) (hts _ t_fX3_40) (fun _ h9 => h9) rfl dX3_rebuildStripe_15 ?_
      refine x_cge (tgt := 47) hx hb dX3_rebuildStripe_18 (by decide) (by omega) (by omega) (fun h18 => ?_) (fun h18 => ?_)
      · -- 18t
        have hie9 : i = P := by omega
        rw [hie9] at hx9
        refine lv_iconst (v := nI 0) hx hb dX3_rebuildStripe_47 (by decide) ?_
        refine lv_istore_n hx hb dX3_rebuildStripe_48 rfl hl (by decide) rfl (fun ls hl => ?_)
        have hl : lv_has ls 3 [(2, .int (nI 0)), (1, .ref aT), (0, .ref aR)] := hl
        have lp49 : ∀ (n9 : Nat) (j : Nat) (ls : Array Slot) (H : Heap) (locs : List Loc), P - j < n9 → (j ≤ P) → lv_has ls 3 [(2, .int (nI j)), (1, .ref aT), (0, .ref aR)] → va_P (dC, dI) vwCl [(aR, .inr (3, [.ref aS, .ref aA, .ref aL, .ref aE, .int (bI x.2.1), .int x.2.2])), (aS, .inr (0, [.int (nI P), .int (nI (P - 2)), .int (nI (P - 1)), .int (nI (P * (P - 2)))])), (aL, .inl (cB, P, .inl (fun z9 => bI (lo z9)))), (aE, .inr (2, [.ref aS, .ref aEW, .ref aEK, .int ((dr_tell P ms w kn tw).2.2)])), (aEW, .inl (cI, P * P, .inl ((dr_tell P ms w kn tw).2.1))), (aEK, .inl (cB, P * P, .inl (fun z9 => bI (((dr_tell P ms w kn tw).1) z9)))), (aT, .inr (1, [.ref aS, .ref aW, .ref aM, .int (bI mk)])), (aW, .inl (cI, P * P, .inl x.1)), (aM, .inl (cB, P, .inl (fun z9 => bI ((dr_mf lo ms j) z9))))] H → va_D A [(aR, .inr (3, [.ref aS, .ref aA, .ref aL, .ref aE, .int (bI x.2.1), .int x.2.2])), (aS, .inr (0, [.int (nI P), .int (nI (P - 2)), .int (nI (P - 1)), .int (nI (P * (P - 2)))])), (aL, .inl (cB, P, .inl (fun z9 => bI (lo z9)))), (aE, .inr (2, [.ref aS, .ref aEW, .ref aEK, .int ((dr_tell P ms w kn tw).2.2)])), (aEW, .inl (cI, P * P, .inl ((dr_tell P ms w kn tw).2.1))), (aEK, .inl (cB, P * P, .inl (fun z9 => bI (((dr_tell P ms w kn tw).1) z9)))), (aT, .inr (1, [.ref aS, .ref aW, .ref aM, .int (bI mk)])), (aW, .inl (cI, P * P, .inl x.1)), (aM, .inl (cB, P, .inl (fun z9 => bI ((dr_mf lo ms j) z9))))] → va_S A s.heap H locs → W p l e rm_c_rbs s m args below meth c H locs 0 0 Q (F0 m 49 ls []) := by
          intro n9
          induction n9 with
          | zero => intro j ls H locs hn9; omega
          | succ n9 ih49 =>
            intro j ls H locs hn9 hj hl hP hD hS
            refine lv_iload_n hx hb dX3_rebuildStripe_49 rfl (lv_at hl 0 rfl) ?_
            refine lv_aload_n hx hb dX3_rebuildStripe_50 rfl (lv_at hl 2 rfl) ?_
            refine va_get (D := (dC, dI)) (ci := 3) (v := .ref aS) (C := RX3) (T := TX3) (N := 6) hx hb hts inX3 hown hK hP 0 rfl rfl 0 (by decide) (hts _ t_fX3_32) (fun _ h9 => h9) rfl dX3_rebuildStripe_51 ?_
            refine va_get (D := (dC, dI)) (ci := 0) (v := .int (nI P)) (C := RX0) (T := TX0) (N := 4) hx hb hts inX0 hown hK hP 1 rfl rfl 0 (by decide) (hts _ t_fX3_40) (fun _ h9 => h9) rfl dX3_rebuildStripe_54 ?_
            refine x_cge (tgt := 82) hx hb dX3_rebuildStripe_57 (by decide) (by omega) (by omega) (fun h57 => ?_) (fun h57 => ?_)
            · -- 57t
              have hie57 : j = P := by omega
              try rw [hie57] at hl
              try rw [hie57] at hP
              try rw [hie57] at hD
              have hl : lv_has ls 3 [(2, .int (nI P)), (1, .ref aT), (0, .ref aR)] := hl
              have hP : va_P (dC, dI) vwCl [(aR, .inr (3, [.ref aS, .ref aA, .ref aL, .ref aE, .int (bI x.2.1), .int x.2.2])), (aS, .inr (0, [.int (nI P), .int (nI (P - 2)), .int (nI (P - 1)), .int (nI (P * (P - 2)))])), (aL, .inl (cB, P, .inl (fun z9 => bI (lo z9)))), (aE, .inr (2, [.ref aS, .ref aEW, .ref aEK, .int ((dr_tell P ms w kn tw).2.2)])), (aEW, .inl (cI, P * P, .inl ((dr_tell P ms w kn tw).2.1))), (aEK, .inl (cB, P * P, .inl (fun z9 => bI (((dr_tell P ms w kn tw).1) z9)))), (aT, .inr (1, [.ref aS, .ref aW, .ref aM, .int (bI mk)])), (aW, .inl (cI, P * P, .inl x.1)), (aM, .inl (cB, P, .inl (fun z9 => bI ((dr_mf lo ms P) z9))))] H := hP
              have hD : va_D A [(aR, .inr (3, [.ref aS, .ref aA, .ref aL, .ref aE, .int (bI x.2.1), .int x.2.2])), (aS, .inr (0, [.int (nI P), .int (nI (P - 2)), .int (nI (P - 1)), .int (nI (P * (P - 2)))])), (aL, .inl (cB, P, .inl (fun z9 => bI (lo z9)))), (aE, .inr (2, [.ref aS, .ref aEW, .ref aEK, .int ((dr_tell P ms w kn tw).2.2)])), (aEW, .inl (cI, P * P, .inl ((dr_tell P ms w kn tw).2.1))), (aEK, .inl (cB, P * P, .inl (fun z9 => bI (((dr_tell P ms w kn tw).1) z9)))), (aT, .inr (1, [.ref aS, .ref aW, .ref aM, .int (bI mk)])), (aW, .inl (cI, P * P, .inl x.1)), (aM, .inl (cB, P, .inl (fun z9 => bI ((dr_mf lo ms P) z9))))] := hD
              refine lv_iconst (v := bI true) hx hb dX3_rebuildStripe_82 (by decide) ?_
              have e2 : ((dr_rbl P lo ms (dr_tell P ms w kn tw).2.1 (w, pw, tn) P).2.2.1) = x.2.1 := by first | (rw [hx9]; done) | (rw [hx9]; rfl)
              have e3 : ((dr_rbl P lo ms (dr_tell P ms w kn tw).2.1 (w, pw, tn) P).2.2.2) = x.2.2 := by first | (rw [hx9]; done) | (rw [hx9]; rfl)
              have e4 : ((dr_rbl P lo ms (dr_tell P ms w kn tw).2.1 (w, pw, tn) P).2.1) = x.1 := by first | (rw [hx9]; done) | (rw [hx9]; rfl)
              have e5 : (if (dr_rbl P lo ms (dr_tell P ms w kn tw).2.1 (w, pw, tn) P).1 = true then dr_mf lo ms P else ms) = (dr_mf lo ms P) := by first | (rw [hx9]; done) | (rw [hx9]; rfl)
              exact x_zret (D := (dC, dI)) (cl := vwCl) (A := A) () hQ hx hb hr hlk (by rw [e2, e3, e4, e5]; exact hP) (by rw [e2, e3, e4, e5]; exact hD) hS dX3_rebuildStripe_83 (by rw [hx9])
            · -- 57f
              refine lv_aload_n hx hb dX3_rebuildStripe_60 rfl (lv_at hl 2 rfl) ?_
              refine lv_aload_n hx hb dX3_rebuildStripe_61 rfl (lv_at hl 1 rfl) ?_
              refine lv_iload_n hx hb dX3_rebuildStripe_62 rfl (lv_at hl 0 rfl) ?_
              refine gV (wr := [(aS, .inr (0, [.int (nI P), .int (nI (P - 2)), .int (nI (P - 1)), .int (nI (P * (P - 2)))])), (aE, .inr (2, [.ref aS, .ref aEW, .ref aEK, .int ((dr_tell P ms w kn tw).2.2)])), (aEW, .inl (cI, P * P, .inl ((dr_tell P ms w kn tw).2.1))), (aEK, .inl (cB, P * P, .inl (fun z9 => bI (((dr_tell P ms w kn tw).1) z9)))), (aW, .inl (cI, P * P, .inl x.1))]) (pre := [(aR, .inr (3, [.ref aS, .ref aA, .ref aL, .ref aE, .int (bI x.2.1), .int x.2.2])), (aS, .inr (0, [.int (nI P), .int (nI (P - 2)), .int (nI (P - 1)), .int (nI (P * (P - 2)))])), (aL, .inl (cB, P, .inl (fun z9 => bI (lo z9)))), (aE, .inr (2, [.ref aS, .ref aEW, .ref aEK, .int ((dr_tell P ms w kn tw).2.2)])), (aEW, .inl (cI, P * P, .inl ((dr_tell P ms w kn tw).2.1))), (aEK, .inl (cB, P * P, .inl (fun z9 => bI (((dr_tell P ms w kn tw).1) z9)))), (aT, .inr (1, [.ref aS, .ref aW, .ref aM, .int (bI mk)])), (aW, .inl (cI, P * P, .inl x.1)), (aM, .inl (cB, P, .inl (fun z9 => bI ((dr_mf lo ms j) z9))))]) (tl := []) (G := fun (u : Unit) => [(aR, .inr (3, [.ref aS, .ref aA, .ref aL, .ref aE, .int (bI x.2.1), .int x.2.2])), (aS, .inr (0, [.int (nI P), .int (nI (P - 2)), .int (nI (P - 1)), .int (nI (P * (P - 2)))])), (aL, .inl (cB, P, .inl (fun z9 => bI (lo z9)))), (aE, .inr (2, [.ref aS, .ref aEW, .ref aEK, .int ((dr_tell P ms w kn tw).2.2)])), (aEW, .inl (cI, P * P, .inl ((dr_tell P ms w kn tw).2.1))), (aEK, .inl (cB, P * P, .inl (fun z9 => bI (((dr_tell P ms w kn tw).1) z9)))), (aT, .inr (1, [.ref aS, .ref aW, .ref aM, .int (bI mk)])), (aW, .inl (cI, P * P, .inl x.1)), (aM, .inl (cB, P, .inl (fun z9 => bI ((dr_mf lo ms j) z9))))]) (b := aR) (As := [.ref aT, .int (nI j)]) (rst := []) ⟨hx, hb, hml, hown, hts⟩ (c_isNewIn l dC dI cI cB cQ cJ aR aS aA aL aE x.2.1 x.2.2 P lo aT aW aM (dr_mf lo ms j) mk j hp5 (by omega)) (cwV 2 hts (gdV t_mX3_165 t_inst_X3_isNewIn t_sel_X3_isNewIn t_ini_X3 t_code_X3_isNewIn) rfl rfl rfl (by decide +kernel) ⟨Nat.le_of_ble_eq_true rfl, Nat.le_of_ble_eq_true rfl⟩) hK hP hD hS hA [0, 2, 6, 8] [1, 3, 4, 5, 7] [0, 4, 1, 5, 6, 7, 2, 8, 3] rfl (by decide) (fun _ => rfl) (by decide) (ci := 3) rfl rfl rfl rfl hl.1 rfl (Nat.le_of_ble_eq_true rfl) dX3_rebuildStripe_63 ⟨Nat.zero_le _, Nat.zero_le _⟩ (fun r u H locs hu6 hP hD hS => ?_)
              have hr63 := hu6
              have hr63 : r = bI ((dr_mf lo ms j) j && !lo j) := hr63
              subst hr63
              have hP : va_P (dC, dI) vwCl [(aR, .inr (3, [.ref aS, .ref aA, .ref aL, .ref aE, .int (bI x.2.1), .int x.2.2])), (aS, .inr (0, [.int (nI P), .int (nI (P - 2)), .int (nI (P - 1)), .int (nI (P * (P - 2)))])), (aL, .inl (cB, P, .inl (fun z9 => bI (lo z9)))), (aE, .inr (2, [.ref aS, .ref aEW, .ref aEK, .int ((dr_tell P ms w kn tw).2.2)])), (aEW, .inl (cI, P * P, .inl ((dr_tell P ms w kn tw).2.1))), (aEK, .inl (cB, P * P, .inl (fun z9 => bI (((dr_tell P ms w kn tw).1) z9)))), (aT, .inr (1, [.ref aS, .ref aW, .ref aM, .int (bI mk)])), (aW, .inl (cI, P * P, .inl x.1)), (aM, .inl (cB, P, .inl (fun z9 => bI ((dr_mf lo ms j) z9))))] H := hP
              have hD : va_D A [(aR, .inr (3, [.ref aS, .ref aA, .ref aL, .ref aE, .int (bI x.2.1), .int x.2.2])), (aS, .inr (0, [.int (nI P), .int (nI (P - 2)), .int (nI (P - 1)), .int (nI (P * (P - 2)))])), (aL, .inl (cB, P, .inl (fun z9 => bI (lo z9)))), (aE, .inr (2, [.ref aS, .ref aEW, .ref aEK, .int ((dr_tell P ms w kn tw).2.2)])), (aEW, .inl (cI, P * P, .inl ((dr_tell P ms w kn tw).2.1))), (aEK, .inl (cB, P * P, .inl (fun z9 => bI (((dr_tell P ms w kn tw).1) z9)))), (aT, .inr (1, [.ref aS, .ref aW, .ref aM, .int (bI mk)])), (aW, .inl (cI, P * P, .inl x.1)), (aM, .inl (cB, P, .inl (fun z9 => bI ((dr_mf lo ms j) z9))))] := hD
              refine x_ifF (tgt := 76) hx hb dX3_rebuildStripe_66 (by decide) (fun h66 => ?_) (fun h66 => ?_)
              · -- 66t
                refine lv_iinc (v := nI (j + 1)) hx hb dX3_rebuildStripe_76 hl (k := 0) rfl (x_inc _) (by decide) rfl (fun ls hl => ?_)
                have hl : lv_has ls 3 [(2, .int (nI (j + 1))), (1, .ref aT), (0, .ref aR)] := hl
                refine lv_goto (tgt := 49) hx hb dX3_rebuildStripe_79 (by decide) ?_
                have e7 : (dr_mf lo ms (j + 1)) = (dr_mf lo ms j) := by first | rfl | (simp [dr_mf, h57, h66]; done) | (simp [dr_mf, h57, h66]; omega)
                exact ih49 (j + 1) ls H locs (by omega) (by omega) (lv_sub hl [0, 1, 2] rfl) (by rw [e7]; exact hP) (by rw [e7]; exact hD) hS
              · -- 66f
                refine lv_aload_n hx hb dX3_rebuildStripe_69 rfl (lv_at hl 1 rfl) ?_
                refine va_get (D := (dC, dI)) (ci := 1) (v := .ref aM) (C := RX1) (T := TX1) (N := 4) hx hb hts inX1 hown hK hP 6 rfl rfl 2 (by decide) (hts _ t_fX3_122) (fun _ h9 => h9) rfl dX3_rebuildStripe_70 ?_
                refine lv_iload_n hx hb dX3_rebuildStripe_73 rfl (lv_at hl 0 rfl) ?_
                refine lv_iconst (v := bI false) hx hb dX3_rebuildStripe_74 (by decide) ?_
                refine x_zast (g := (dr_mf lo ms j)) hx hb hK hP hD hS 8 1 rfl rfl dX3_rebuildStripe_75 (by omega) (by omega) (fun H locs hP hD hS => ?_)
                have hP : va_P (dC, dI) vwCl [(aR, .inr (3, [.ref aS, .ref aA, .ref aL, .ref aE, .int (bI x.2.1), .int x.2.2])), (aS, .inr (0, [.int (nI P), .int (nI (P - 2)), .int (nI (P - 1)), .int (nI (P * (P - 2)))])), (aL, .inl (cB, P, .inl (fun z9 => bI (lo z9)))), (aE, .inr (2, [.ref aS, .ref aEW, .ref aEK, .int ((dr_tell P ms w kn tw).2.2)])), (aEW, .inl (cI, P * P, .inl ((dr_tell P ms w kn tw).2.1))), (aEK, .inl (cB, P * P, .inl (fun z9 => bI (((dr_tell P ms w kn tw).1) z9)))), (aT, .inr (1, [.ref aS, .ref aW, .ref aM, .int (bI mk)])), (aW, .inl (cI, P * P, .inl x.1)), (aM, .inl (cB, P, .inl (fun z9 => bI ((va_up (dr_mf lo ms j) j false) z9))))] H := hP
                have hD : va_D A [(aR, .inr (3, [.ref aS, .ref aA, .ref aL, .ref aE, .int (bI x.2.1), .int x.2.2])), (aS, .inr (0, [.int (nI P), .int (nI (P - 2)), .int (nI (P - 1)), .int (nI (P * (P - 2)))])), (aL, .inl (cB, P, .inl (fun z9 => bI (lo z9)))), (aE, .inr (2, [.ref aS, .ref aEW, .ref aEK, .int ((dr_tell P ms w kn tw).2.2)])), (aEW, .inl (cI, P * P, .inl ((dr_tell P ms w kn tw).2.1))), (aEK, .inl (cB, P * P, .inl (fun z9 => bI (((dr_tell P ms w kn tw).1) z9)))), (aT, .inr (1, [.ref aS, .ref aW, .ref aM, .int (bI mk)])), (aW, .inl (cI, P * P, .inl x.1)), (aM, .inl (cB, P, .inl (fun z9 => bI ((va_up (dr_mf lo ms j) j false) z9))))] := hD
                refine lv_iinc (v := nI (j + 1)) hx hb dX3_rebuildStripe_76 hl (k := 0) rfl (x_inc _) (by decide) rfl (fun ls hl => ?_)
                have hl : lv_has ls 3 [(2, .int (nI (j + 1))), (1, .ref aT), (0, .ref aR)] := hl
                refine lv_goto (tgt := 49) hx hb dX3_rebuildStripe_79 (by decide) ?_
                have e8 : (dr_mf lo ms (j + 1)) = (va_up (dr_mf lo ms j) j false) := by first | rfl | (simp [dr_mf, h57, h66]; done) | (simp [dr_mf, h57, h66]; omega)
                exact ih49 (j + 1) ls H locs (by omega) (by omega) (lv_sub hl [0, 1, 2] rfl) (by rw [e8]; exact hP) (by rw [e8]; exact hD) hS
        have e9 : (dr_mf lo ms 0) = ms := by first | rfl | (simp [dr_mf, h18]; done) | (simp [dr_mf, h18]; omega)
        exact lp49 (P - 0 + 1) 0 ls H locs (by omega) (by omega) (lv_sub hl [0, 1, 2] rfl) (by rw [e9]; exact hP) (by rw [e9]; exact hD) hS
      · -- 18f
        refine lv_aload_n hx hb dX3_rebuildStripe_21 rfl (lv_at hl 2 rfl) ?_
        refine lv_aload_n hx hb dX3_rebuildStripe_22 rfl (lv_at hl 1 rfl) ?_
        refine lv_iload_n hx hb dX3_rebuildStripe_23 rfl (lv_at hl 0 rfl) ?_
        refine gV (wr := [(aS, .inr (0, [.int (nI P), .int (nI (P - 2)), .int (nI (P - 1)), .int (nI (P * (P - 2)))])), (aE, .inr (2, [.ref aS, .ref aEW, .ref aEK, .int ((dr_tell P ms w kn tw).2.2)])), (aEW, .inl (cI, P * P, .inl ((dr_tell P ms w kn tw).2.1))), (aEK, .inl (cB, P * P, .inl (fun z9 => bI (((dr_tell P ms w kn tw).1) z9)))), (aW, .inl (cI, P * P, .inl x.1))]) (pre := [(aR, .inr (3, [.ref aS, .ref aA, .ref aL, .ref aE, .int (bI x.2.1), .int x.2.2])), (aS, .inr (0, [.int (nI P), .int (nI (P - 2)), .int (nI (P - 1)), .int (nI (P * (P - 2)))])), (aL, .inl (cB, P, .inl (fun z9 => bI (lo z9)))), (aE, .inr (2, [.ref aS, .ref aEW, .ref aEK, .int ((dr_tell P ms w kn tw).2.2)])), (aEW, .inl (cI, P * P, .inl ((dr_tell P ms w kn tw).2.1))), (aEK, .inl (cB, P * P, .inl (fun z9 => bI (((dr_tell P ms w kn tw).1) z9)))), (aT, .inr (1, [.ref aS, .ref aW, .ref aM, .int (bI mk)])), (aW, .inl (cI, P * P, .inl x.1)), (aM, .inl (cB, P, .inl (fun z9 => bI (ms z9))))]) (tl := []) (G := fun (u : Unit) => [(aR, .inr (3, [.ref aS, .ref aA, .ref aL, .ref aE, .int (bI x.2.1), .int x.2.2])), (aS, .inr (0, [.int (nI P), .int (nI (P - 2)), .int (nI (P - 1)), .int (nI (P * (P - 2)))])), (aL, .inl (cB, P, .inl (fun z9 => bI (lo z9)))), (aE, .inr (2, [.ref aS, .ref aEW, .ref aEK, .int ((dr_tell P ms w kn tw).2.2)])), (aEW, .inl (cI, P * P, .inl ((dr_tell P ms w kn tw).2.1))), (aEK, .inl (cB, P * P, .inl (fun z9 => bI (((dr_tell P ms w kn tw).1) z9)))), (aT, .inr (1, [.ref aS, .ref aW, .ref aM, .int (bI mk)])), (aW, .inl (cI, P * P, .inl x.1)), (aM, .inl (cB, P, .inl (fun z9 => bI (ms z9))))]) (b := aR) (As := [.ref aT, .int (nI i)]) (rst := []) ⟨hx, hb, hml, hown, hts⟩ (c_isNewIn l dC dI cI cB cQ cJ aR aS aA aL aE x.2.1 x.2.2 P lo aT aW aM ms mk i hp5 (by omega)) (cwV 2 hts (gdV t_mX3_165 t_inst_X3_isNewIn t_sel_X3_isNewIn t_ini_X3 t_code_X3_isNewIn) rfl rfl rfl (by decide +kernel) ⟨Nat.le_of_ble_eq_true rfl, Nat.le_of_ble_eq_true rfl⟩) hK hP hD hS hA [0, 2, 6, 8] [1, 3, 4, 5, 7] [0, 4, 1, 5, 6, 7, 2, 8, 3] rfl (by decide) (fun _ => rfl) (by decide) (ci := 3) rfl rfl rfl rfl hl.1 rfl (Nat.le_of_ble_eq_true rfl) dX3_rebuildStripe_24 ⟨Nat.zero_le _, Nat.zero_le _⟩ (fun r u H locs hu10 hP hD hS => ?_)
        have hr24 := hu10
        have hr24 : r = bI (ms i && !lo i) := hr24
        subst hr24
        have hP : va_P (dC, dI) vwCl [(aR, .inr (3, [.ref aS, .ref aA, .ref aL, .ref aE, .int (bI x.2.1), .int x.2.2])), (aS, .inr (0, [.int (nI P), .int (nI (P - 2)), .int (nI (P - 1)), .int (nI (P * (P - 2)))])), (aL, .inl (cB, P, .inl (fun z9 => bI (lo z9)))), (aE, .inr (2, [.ref aS, .ref aEW, .ref aEK, .int ((dr_tell P ms w kn tw).2.2)])), (aEW, .inl (cI, P * P, .inl ((dr_tell P ms w kn tw).2.1))), (aEK, .inl (cB, P * P, .inl (fun z9 => bI (((dr_tell P ms w kn tw).1) z9)))), (aT, .inr (1, [.ref aS, .ref aW, .ref aM, .int (bI mk)])), (aW, .inl (cI, P * P, .inl x.1)), (aM, .inl (cB, P, .inl (fun z9 => bI (ms z9))))] H := hP
        have hD : va_D A [(aR, .inr (3, [.ref aS, .ref aA, .ref aL, .ref aE, .int (bI x.2.1), .int x.2.2])), (aS, .inr (0, [.int (nI P), .int (nI (P - 2)), .int (nI (P - 1)), .int (nI (P * (P - 2)))])), (aL, .inl (cB, P, .inl (fun z9 => bI (lo z9)))), (aE, .inr (2, [.ref aS, .ref aEW, .ref aEK, .int ((dr_tell P ms w kn tw).2.2)])), (aEW, .inl (cI, P * P, .inl ((dr_tell P ms w kn tw).2.1))), (aEK, .inl (cB, P * P, .inl (fun z9 => bI (((dr_tell P ms w kn tw).1) z9)))), (aT, .inr (1, [.ref aS, .ref aW, .ref aM, .int (bI mk)])), (aW, .inl (cI, P * P, .inl x.1)), (aM, .inl (cB, P, .inl (fun z9 => bI (ms z9))))] := hD
        refine x_ifF (tgt := 41) hx hb dX3_rebuildStripe_27 (by decide) (fun h27 => ?_) (fun h27 => ?_)
        · -- 27t
          refine lv_iinc (v := nI (i + 1)) hx hb dX3_rebuildStripe_41 hl (k := 0) rfl (x_inc _) (by decide) rfl (fun ls hl => ?_)
          have hl : lv_has ls 3 [(2, .int (nI (i + 1))), (1, .ref aT), (0, .ref aR)] := hl
          refine lv_goto (tgt := 10) hx hb dX3_rebuildStripe_44 (by decide) ?_
          exact ih10 (i + 1) x ls H locs (by omega) (by omega) (by first | rfl | (rw [dr_rbl, hx9, if_pos rfl, if_neg (by rw [h27]; decide)]) | (rw [dr_rbl, hx9, if_pos rfl, if_pos h27]; exact Prod.ext h36 rfl)) (lv_sub hl [0, 1, 2] rfl) hP hD hS
        · -- 27f
          refine lv_aload_n hx hb dX3_rebuildStripe_30 rfl (lv_at hl 2 rfl) ?_
          refine lv_aload_n hx hb dX3_rebuildStripe_31 rfl (lv_at hl 1 rfl) ?_
          refine lv_iload_n hx hb dX3_rebuildStripe_32 rfl (lv_at hl 0 rfl) ?_
          refine gV (wr := [(aL, .inl (cB, P, .inl (fun z9 => bI (lo z9)))), (aEK, .inl (cB, P * P, .inl (fun z9 => bI (((dr_tell P ms w kn tw).1) z9)))), (aM, .inl (cB, P, .inl (fun z9 => bI (ms z9))))]) (pre := [(aR, .inr (3, [.ref aS, .ref aA, .ref aL, .ref aE, .int (bI x.2.1), .int x.2.2])), (aS, .inr (0, [.int (nI P), .int (nI (P - 2)), .int (nI (P - 1)), .int (nI (P * (P - 2)))])), (aL, .inl (cB, P, .inl (fun z9 => bI (lo z9)))), (aE, .inr (2, [.ref aS, .ref aEW, .ref aEK, .int ((dr_tell P ms w kn tw).2.2)])), (aEW, .inl (cI, P * P, .inl ((dr_tell P ms w kn tw).2.1))), (aEK, .inl (cB, P * P, .inl (fun z9 => bI (((dr_tell P ms w kn tw).1) z9)))), (aT, .inr (1, [.ref aS, .ref aW, .ref aM, .int (bI mk)])), (aW, .inl (cI, P * P, .inl x.1)), (aM, .inl (cB, P, .inl (fun z9 => bI (ms z9))))]) (tl := []) (G := fun (u : Unit) => [(aR, .inr (3, [.ref aS, .ref aA, .ref aL, .ref aE, .int (bI ((dr_pdr P ((dr_tell P ms w kn tw).2.1) i (x.1, x.2.1, x.2.2) P).2.2.1)), .int ((dr_pdr P ((dr_tell P ms w kn tw).2.1) i (x.1, x.2.1, x.2.2) P).2.2.2)])), (aS, .inr (0, [.int (nI P), .int (nI (P - 2)), .int (nI (P - 1)), .int (nI (P * (P - 2)))])), (aL, .inl (cB, P, .inl (fun z9 => bI (lo z9)))), (aE, .inr (2, [.ref aS, .ref aEW, .ref aEK, .int ((dr_tell P ms w kn tw).2.2)])), (aEW, .inl (cI, P * P, .inl ((dr_tell P ms w kn tw).2.1))), (aEK, .inl (cB, P * P, .inl (fun z9 => bI (((dr_tell P ms w kn tw).1) z9)))), (aT, .inr (1, [.ref aS, .ref aW, .ref aM, .int (bI mk)])), (aW, .inl (cI, P * P, .inl ((dr_pdr P ((dr_tell P ms w kn tw).2.1) i (x.1, x.2.1, x.2.2) P).2.1))), (aM, .inl (cB, P, .inl (fun z9 => bI (ms z9))))]) (b := aR) (As := [.ref aT, .int (nI i)]) (rst := []) ⟨hx, hb, hml, hown, hts⟩ (c_putDrive l dC dI cI cB cQ cJ aR aS aA aL aE x.2.1 x.2.2 P aEW aEK ((dr_tell P ms w kn tw).2.1) ((dr_tell P ms w kn tw).2.2) aT aW aM x.1 mk i hp5 (by omega)) (cwV 2 hts (gdV t_mX3_184 t_inst_X3_putDrive t_sel_X3_putDrive t_ini_X3 t_code_X3_putDrive) rfl rfl rfl (by decide +kernel) ⟨Nat.le_of_ble_eq_true rfl, Nat.le_of_ble_eq_true rfl⟩) hK hP hD hS hA [0, 1, 3, 4, 6, 7] [2, 5, 8] [0, 1, 6, 2, 3, 7, 4, 5, 8] rfl (by decide) (fun _ => rfl) (by decide) (ci := 3) rfl rfl rfl rfl hl.1 rfl (Nat.le_of_ble_eq_true rfl) dX3_rebuildStripe_33 ⟨Nat.zero_le _, Nat.zero_le _⟩ (fun r u H locs hu11 hP hD hS => ?_)
          have hr33 := hu11
          have hr33 : r = bI ((dr_pdr P ((dr_tell P ms w kn tw).2.1) i (x.1, x.2.1, x.2.2) P).1) := hr33
          subst hr33
          have hP : va_P (dC, dI) vwCl [(aR, .inr (3, [.ref aS, .ref aA, .ref aL, .ref aE, .int (bI ((dr_pdr P ((dr_tell P ms w kn tw).2.1) i (x.1, x.2.1, x.2.2) P).2.2.1)), .int ((dr_pdr P ((dr_tell P ms w kn tw).2.1) i (x.1, x.2.1, x.2.2) P).2.2.2)])), (aS, .inr (0, [.int (nI P), .int (nI (P - 2)), .int (nI (P - 1)), .int (nI (P * (P - 2)))])), (aL, .inl (cB, P, .inl (fun z9 => bI (lo z9)))), (aE, .inr (2, [.ref aS, .ref aEW, .ref aEK, .int ((dr_tell P ms w kn tw).2.2)])), (aEW, .inl (cI, P * P, .inl ((dr_tell P ms w kn tw).2.1))), (aEK, .inl (cB, P * P, .inl (fun z9 => bI (((dr_tell P ms w kn tw).1) z9)))), (aT, .inr (1, [.ref aS, .ref aW, .ref aM, .int (bI mk)])), (aW, .inl (cI, P * P, .inl ((dr_pdr P ((dr_tell P ms w kn tw).2.1) i (x.1, x.2.1, x.2.2) P).2.1))), (aM, .inl (cB, P, .inl (fun z9 => bI (ms z9))))] H := hP
          have hD : va_D A [(aR, .inr (3, [.ref aS, .ref aA, .ref aL, .ref aE, .int (bI ((dr_pdr P ((dr_tell P ms w kn tw).2.1) i (x.1, x.2.1, x.2.2) P).2.2.1)), .int ((dr_pdr P ((dr_tell P ms w kn tw).2.1) i (x.1, x.2.1, x.2.2) P).2.2.2)])), (aS, .inr (0, [.int (nI P), .int (nI (P - 2)), .int (nI (P - 1)), .int (nI (P * (P - 2)))])), (aL, .inl (cB, P, .inl (fun z9 => bI (lo z9)))), (aE, .inr (2, [.ref aS, .ref aEW, .ref aEK, .int ((dr_tell P ms w kn tw).2.2)])), (aEW, .inl (cI, P * P, .inl ((dr_tell P ms w kn tw).2.1))), (aEK, .inl (cB, P * P, .inl (fun z9 => bI (((dr_tell P ms w kn tw).1) z9)))), (aT, .inr (1, [.ref aS, .ref aW, .ref aM, .int (bI mk)])), (aW, .inl (cI, P * P, .inl ((dr_pdr P ((dr_tell P ms w kn tw).2.1) i (x.1, x.2.1, x.2.2) P).2.1))), (aM, .inl (cB, P, .inl (fun z9 => bI (ms z9))))] := hD
          refine x_ifT (tgt := 41) hx hb dX3_rebuildStripe_36 (by decide) (fun h36 => ?_) (fun h36 => ?_)
          · -- 36t
            refine lv_iinc (v := nI (i + 1)) hx hb dX3_rebuildStripe_41 hl (k := 0) rfl (x_inc _) (by decide) rfl (fun ls hl => ?_)
            have hl : lv_has ls 3 [(2, .int (nI (i + 1))), (1, .ref aT), (0, .ref aR)] := hl
            refine lv_goto (tgt := 10) hx hb dX3_rebuildStripe_44 (by decide) ?_
            have e12 : (((dr_pdr P (dr_tell P ms w kn tw).2.1 i x P).2).2.1) = ((dr_pdr P ((dr_tell P ms w kn tw).2.1) i (x.1, x.2.1, x.2.2) P).2.2.1) := by first | rfl | (simp [h18, h27, h36]; done) | (simp [h18, h27, h36]; omega)
            have e13 : (((dr_pdr P (dr_tell P ms w kn tw).2.1 i x P).2).2.2) = ((dr_pdr P ((dr_tell P ms w kn tw).2.1) i (x.1, x.2.1, x.2.2) P).2.2.2) := by first | rfl | (simp [h18, h27, h36]; done) | (simp [h18, h27, h36]; omega)
            have e14 : (((dr_pdr P (dr_tell P ms w kn tw).2.1 i x P).2).1) = ((dr_pdr P ((dr_tell P ms w kn tw).2.1) i (x.1, x.2.1, x.2.2) P).2.1) := by first | rfl | (simp [h18, h27, h36]; done) | (simp [h18, h27, h36]; omega)
            exact ih10 (i + 1) ((dr_pdr P (dr_tell P ms w kn tw).2.1 i x P).2) ls H locs (by omega) (by omega) (by first | rfl | (rw [dr_rbl, hx9, if_pos rfl, if_neg (by rw [h27]; decide)]) | (rw [dr_rbl, hx9, if_pos rfl, if_pos h27]; exact Prod.ext h36 rfl)) (lv_sub hl [0, 1, 2] rfl) (by rw [e12, e13, e14]; exact hP) (by rw [e12, e13, e14]; exact hD) hS
          · -- 36f
            refine lv_iconst (v := bI false) hx hb dX3_rebuildStripe_39 (by decide) ?_
            have e15 : ((dr_rbl P lo ms (dr_tell P ms w kn tw).2.1 (w, pw, tn) P).2.2.1) = ((dr_pdr P ((dr_tell P ms w kn tw).2.1) i (x.1, x.2.1, x.2.2) P).2.2.1) := by first | (rw [dr_rbl_false (show i < P by omega) hx9 h27 h36]; done) | (rw [dr_rbl_false (show i < P by omega) hx9 h27 h36]; exact if_neg (fun z => by cases z.symm.trans h36))
            have e16 : ((dr_rbl P lo ms (dr_tell P ms w kn tw).2.1 (w, pw, tn) P).2.2.2) = ((dr_pdr P ((dr_tell P ms w kn tw).2.1) i (x.1, x.2.1, x.2.2) P).2.2.2) := by first | (rw [dr_rbl_false (show i < P by omega) hx9 h27 h36]; done) | (rw [dr_rbl_false (show i < P by omega) hx9 h27 h36]; exact if_neg (fun z => by cases z.symm.trans h36))
            have e17 : ((dr_rbl P lo ms (dr_tell P ms w kn tw).2.1 (w, pw, tn) P).2.1) = ((dr_pdr P ((dr_tell P ms w kn tw).2.1) i (x.1, x.2.1, x.2.2) P).2.1) := by first | (rw [dr_rbl_false (show i < P by omega) hx9 h27 h36]; done) | (rw [dr_rbl_false (show i < P by omega) hx9 h27 h36]; exact if_neg (fun z => by cases z.symm.trans h36))
            have e18 : (if (dr_rbl P lo ms (dr_tell P ms w kn tw).2.1 (w, pw, tn) P).1 = true then dr_mf lo ms P else ms) = ms := by first | (rw [dr_rbl_false (show i < P by omega) hx9 h27 h36]; done) | (rw [dr_rbl_false (show i < P by omega) hx9 h27 h36]; exact if_neg (fun z => by cases z.symm.trans h36))
            exact x_zret (D := (dC, dI)) (cl := vwCl) (A := A) () hQ hx hb hr hlk (by rw [e15, e16, e17, e18]; exact hP) (by rw [e15, e16, e17, e18]; exact hD) hS dX3_rebuildStripe_40 (by rw [dr_rbl_false (show i < P by omega) hx9 h27 h36]; exact congrArg bI h36.symm)
  have e19 : ((w, pw, tn).2.1) = pw := by first | rfl | (simp []; done) | (simp []; omega)
  have e20 : ((w, pw, tn).2.2) = tn := by first | rfl | (simp []; done) | (simp []; omega)
  have e21 : ((w, pw, tn).1) = w := by first | rfl | (simp []; done) | (simp []; omega)
  exact lp10 (P - 0 + 1) 0 (w, pw, tn) ls H locs (by omega) (by omega) (by first | rfl | (rw [dr_rbl, hx9, if_pos rfl, if_neg (by rw [h27]; decide)]) | (rw [dr_rbl, hx9, if_pos rfl, if_pos h27]; exact Prod.ext h36 rfl)) (lv_sub hl [0, 2, 1] rfl) (by rw [e19, e20, e21]; exact hP) (by rw [e19, e20, e21]; exact hD) hS
end
section
/-! the ring's public methods: what they do, as functions -/
theorem va_up_id {α : Type} (f : Nat → α) (k : Nat) : va_up f k (f k) = f := by
  funext j
  by_cases h : j = k <;> simp [va_up, h]
def dr_loW (P : Nat) (w : Nat → Nat → Int32) (d : Nat) : Nat → (Nat → Nat → Int32)
  | 0 => w
  | i + 1 => va_up (dr_loW P w d i) i (dr_zr P (dr_loW P w d i i) d P)
def dr_loM (ms : Nat → Nat → Bool) (d : Nat) : Nat → (Nat → Nat → Bool)
  | 0 => ms
  | i + 1 => va_up (dr_loM ms d i) i (va_up (dr_loM ms d i i) d true)
/-- start: the stripes below i -/
abbrev dr_Y : Type := Nat × (Nat → Nat → Int32) × (Nat → Bool)
def dr_sta (P : Nat) (ms : Nat → Nat → Bool) (w : Nat → Nat → Int32) (mk : Nat → Bool) : Nat → dr_Y
  | 0 => (0, w, mk)
  | i + 1 => if ((dr_sta P ms w mk i).2.2 i && !((dr_sta P ms w mk i).2.2 i && decide (0 < dr_cnt (ms i) P))) = true then ((dr_sta P ms w mk i).1 + 1, va_up (dr_sta P ms w mk i).2.1 i (dr_rn P ((dr_sta P ms w mk i).2.1 i) P), va_up (dr_sta P ms w mk i).2.2 i false) else dr_sta P ms w mk i
section STA
variable {P : Nat} {ms : Nat → Nat → Bool} {w : Nat → Nat → Int32} {mk : Nat → Bool} {i : Nat}
theorem dr_sta_a (h : (dr_sta P ms w mk i).2.2 i = false) : dr_sta P ms w mk (i + 1) = dr_sta P ms w mk i := by rw [dr_sta, if_neg (by rw [h]; simp)]
theorem dr_sta_b (h : ((dr_sta P ms w mk i).2.2 i && decide (0 < dr_cnt (ms i) P)) = true) : dr_sta P ms w mk (i + 1) = dr_sta P ms w mk i := by rw [dr_sta, if_neg (by rw [h]; simp)]
theorem dr_sta_c (h : (dr_sta P ms w mk i).2.2 i = true) (h2 : ((dr_sta P ms w mk i).2.2 i && decide (0 < dr_cnt (ms i) P)) = false) : dr_sta P ms w mk (i + 1) = ((dr_sta P ms w mk i).1 + 1, va_up (dr_sta P ms w mk i).2.1 i (dr_rn P ((dr_sta P ms w mk i).2.1 i) P), va_up (dr_sta P ms w mk i).2.2 i false) := by rw [dr_sta, if_pos (by rw [h2, h]; rfl)]
end STA
/-- rebuild: how many, the words, who misses, power and turns, the teller -/
abbrev dr_Z : Type := Nat × (Nat → Nat → Int32) × (Nat → Nat → Bool) × Bool × Int32 × dr_T
def dr_rbr (P : Nat) (lo : Nat → Bool) (i : Nat) (y : dr_Z) : Bool × dr_X := dr_rbl P lo (y.2.2.1 i) (dr_tell P (y.2.2.1 i) (y.2.1 i) y.2.2.2.2.2.1 y.2.2.2.2.2.2.1).2.1 (y.2.1 i, y.2.2.2.1, y.2.2.2.2.1) P
def dr_rb1 (P : Nat) (lo mk : Nat → Bool) (i : Nat) (y : dr_Z) : Bool × dr_Z :=
  if (dr_any (fun d => y.2.2.1 i d && !lo d) P && (!mk i && decide (dr_cnt (y.2.2.1 i) P ≤ 2))) = true then
    ((dr_rbr P lo i y).1, (if (dr_rbr P lo i y).1 = true then y.1 + 1 else y.1), va_up y.2.1 i (dr_rbr P lo i y).2.1, va_up y.2.2.1 i (if (dr_rbr P lo i y).1 = true then dr_mf lo (y.2.2.1 i) P else y.2.2.1 i), (dr_rbr P lo i y).2.2.1, (dr_rbr P lo i y).2.2.2, dr_tell P (y.2.2.1 i) (y.2.1 i) y.2.2.2.2.2.1 y.2.2.2.2.2.2.1)
  else (true, y)
def dr_rb (P : Nat) (lo mk : Nat → Bool) (x : Int32) (y0 : dr_Z) : Nat → Bool × dr_Z
  | 0 => (true, y0)
  | i + 1 => if (dr_rb P lo mk x y0 i).1 = true ∧ ¬ x ≤ nI (dr_rb P lo mk x y0 i).2.1 then dr_rb1 P lo mk i (dr_rb P lo mk x y0 i).2 else (false, (dr_rb P lo mk x y0 i).2)
theorem dr_rb_stop {P : Nat} {lo mk : Nat → Bool} {x : Int32} {y0 : dr_Z} : ∀ {n i : Nat}, i ≤ n → (dr_rb P lo mk x y0 i).1 = false → dr_rb P lo mk x y0 n = dr_rb P lo mk x y0 i
  | 0, i, h, _ => by rw [Nat.le_zero.mp h]
  | n + 1, i, h, hf => by
    by_cases e : i = n + 1
    · rw [e]
    · have ih := dr_rb_stop (P := P) (lo := lo) (mk := mk) (x := x) (y0 := y0) (n := n) (i := i) (by omega) hf
      rw [dr_rb, ih, if_neg (fun z => by rw [hf] at z; cases z.1)]
      exact Prod.ext hf.symm rfl
theorem dr_rb_full {P : Nat} {lo mk : Nat → Bool} {x : Int32} {y0 y : dr_Z} {n i : Nat} (hi : i < n) (hy : dr_rb P lo mk x y0 i = (true, y)) (hx : x ≤ nI y.1) : dr_rb P lo mk x y0 n = (false, y) := by
  have e : dr_rb P lo mk x y0 (i + 1) = (false, y) := by rw [dr_rb, hy, if_neg (fun z => z.2 hx)]
  rw [dr_rb_stop (show i + 1 ≤ n from hi) (by rw [e]), e]
theorem dr_rb_next {P : Nat} {lo mk : Nat → Bool} {x : Int32} {y0 y : dr_Z} {i : Nat} (hy : dr_rb P lo mk x y0 i = (true, y)) (hx : ¬ x ≤ nI y.1) : dr_rb P lo mk x y0 (i + 1) = dr_rb1 P lo mk i y := by
  rw [dr_rb, hy, if_pos ⟨rfl, hx⟩]
theorem dr_rb_false {P : Nat} {lo mk : Nat → Bool} {x : Int32} {y0 y : dr_Z} {n i : Nat} (hi : i < n) (hy : dr_rb P lo mk x y0 i = (true, y)) (hx : ¬ x ≤ nI y.1) (hf : (dr_rb1 P lo mk i y).1 = false) : dr_rb P lo mk x y0 n = dr_rb1 P lo mk i y := by
  have e := dr_rb_next hy hx
  rw [dr_rb_stop (show i + 1 ≤ n from hi) (by rw [e]; exact hf), e]
def dr_cv (x a b c d e : Int32) : Int32 := if x = nI 0 then a else if x = nI 1 then b else if x = nI 2 then c else if x = nI 3 then d else if x = nI 4 then e else -1
theorem dr_sw {x : Int32} (m : Nat) (hm : m < 2 ^ 31) (h : ¬ (x.toInt < 0 ∨ (m : Int) < x.toInt)) : ∃ j : Nat, j ≤ m ∧ x = nI j := by
  have h0 : ¬ x < 0 := fun z => h (Or.inl (Int32.lt_iff_toInt_lt.mp z))
  obtain ⟨j, hj, rfl⟩ := nI_of h0
  refine ⟨j, ?_, rfl⟩
  rw [nI_toInt hj] at h
  omega
section CT
variable {p : Program} {l : Launch} {e : Env} {R : Room} {s : State} {m : MethodId} {args : Array Value} {below : List Frame} {meth : Method} {c : Code} {H : Heap} {locs : List Loc} {cells slots : Nat} {Q : State → Prop}
variable {pc : Nat} {ls : Array Slot} {D : va_G} {cl : List vw_C} {A : Nat → Prop} {tys : List (ClassId × FieldType)} {H0 : Heap} {st0 rst : List Value} {av : Array Value} {σ : Type} {F G : σ → va_W} {wc wr pre tl : va_W}
variable {y : MethodName} {bytes cc : ByteArray} {maxL nL n index ci : Nat} {ret : Option FieldType} {wsc Ts : List Cond} {rm : Room} {own C : String} {b : Nat} {As : List Value} {fs : List Value} {qc : vw_C}
/-- an instance call whose callee sees the tail too, and leaves it -/
theorem gVt {post : Int32 → σ → Prop} (S : CallFix p m c cc nL s args Ts own) (hM : MG l y wsc rm D cl tys (.ref b :: As) (wc ++ tl) post (fun u => F u ++ tl)) (cw : CallW R s args own C index y bytes maxL ret wsc rm 0 0 n) (hK : va_K D cl tys s) (hP : va_P D cl (pre ++ tl) H) (hD : va_D A (pre ++ tl)) (hS : va_S A H0 H locs) (hA : ∀ q : Nat, H0.size ≤ q → A q)
    (isC isR isB : List Nat) (hC : (isC ++ isR).map (fun i => pre[i]?) = (wc ++ wr).map some) (hn : va_nd (isC ++ isR) = true) (hB : ∀ u, isB.map (fun i => (F u ++ wr)[i]?) = (G u).map some) (hnB : va_nd isB = true) (hre : wc[0]? = some (b, .inr (ci, fs))) (hcl : cl[ci]? = some qc) (hq : qc.1 = C) (hlen : As.length = n) (hsize : ls.size = nL) (hst : st0 = As.reverse ++ .ref b :: rst) (hW : (rst.map fun v => v.category).sum ≤ 8) (hdg : decode cc pc = .ok (.invokevirtual index, 3)) (hf : cells + 0 ≤ R.cells ∧ slots + 0 ≤ R.slots)
    (kk : ∀ (r : Int32) (u : σ) (H1 : Heap) (locs1 : List Loc), post r u → va_P D cl (G u ++ tl) H1 → va_D A (G u ++ tl) → va_S A H0 H1 locs1 → W p l e R s m args below meth c H1 locs1 cells slots Q (F0 m (pc + 3) ls (.int r :: rst))) : W p l e R s m args below meth c H locs cells slots Q (F0 m pc ls st0) := by
  have pm : ∀ X : va_W, ((X ++ tl) ++ wr).Perm ((X ++ wr) ++ tl) := fun X => by
    rw [List.append_assoc, List.append_assoc]
    exact List.Perm.append_left X List.perm_append_comm
  have hP1 : va_P D cl ((wc ++ tl) ++ wr) H := (hP.pre (isC ++ isR) hC).perm (pm wc)
  have hD1 : va_D A ((wc ++ tl) ++ wr) := (hD.pre (isC ++ isR) hn hC).perm (pm wc)
  have hPc : va_P D cl (wc ++ tl) H := hP1.mem (fun q h => List.mem_append_left _ h)
  have hDc : va_D (fun _ => True) (wc ++ tl) := (hD1.preL).weaken (fun _ _ _ _ => trivial)
  have hre' : (wc ++ tl)[0]? = some (b, .inr (ci, fs)) := by
    rw [List.getElem?_append_left (List.getElem?_eq_some_iff.mp hre).1]; exact hre
  subst hst
  subst hq
  refine x_goI (wc := wc ++ tl) (wr := wr) (va_runV (As := As) (rest := rst) S (hM H.size) cw ⟨x_blind, va_recv hK hPc hcl hre', fun U hU hW => ⟨rfl, by rw [hU], by rw [hU]; exact hPc, va_K.moved hW.alike hK, hDc⟩⟩ rfl hlen hsize rfl (lv_room hW) hdg hf) hP1 hD1 hS hA (fun r u H1 locs1 hp h1 h2 h3 => ?_)
  have h1 := h1.perm (pm (F u)).symm
  have h2 := h2.perm (pm (F u)).symm
  exact kk r u H1 locs1 hp (h1.pre isB (hB u)) (h2.pre isB hnB (hB u)) h3
end CT
end
section
abbrev rm_c_misses : Room := { frames := 0, cells := 0, slots := 0, locals := 0 }
set_option maxHeartbeats 4000000 in
set_option maxRecDepth 100000 in
theorem c_misses (l : Launch) (dC : Nat → ClassId) (dI : Nat → Nat → Nat) (cI cB cQ cJ : ClassId) (aR : Nat) (aS : Nat) (aA : Nat) (aL : Nat) (aE : Nat) (pw : Bool) (tn : Int32) (P : Nat) (n : Nat) (aTs : Nat → Nat) (aWs : Nat → Nat) (aMs : Nat → Nat) (w : Nat → Nat → Int32) (ms : Nat → Nat → Bool) (mk : Nat → Bool) (d : Nat) (hp5 : dr_P P) (hn : n < 5) (hd : d < P) : MG l yX3_missesSomeStripe (Cond.code yX3_missesSomeStripe cX3_missesSomeStripe 3 (some .boolean) :: TB) rm_c_misses (dC, dI) vwCl (TY cI cB cQ cJ) [.ref aR, .int (nI d)] ((aR, .inr (3, [.ref aS, .ref aA, .ref aL, .ref aE, .int (bI pw), .int tn])) :: (aA, .inl (cQ, n, .inr (.inr (.inr (.inr (fun z8 => some (aTs z8))))))) :: (stW cI cB aS P aTs aWs aMs w ms mk n)) (fun (r : Int32) (u : Unit) => r = bI (dr_any (fun s9 => ms s9 d) n)) (fun (u : Unit) => ((aR, .inr (3, [.ref aS, .ref aA, .ref aL, .ref aE, .int (bI pw), .int tn])) :: (aA, .inl (cQ, n, .inr (.inr (.inr (.inr (fun z8 => some (aTs z8))))))) :: (stW cI cB aS P aTs aWs aMs w ms mk n))) := by
  refine MG.ofW (cc := cX3_missesSomeStripe) (maxL := 3) (rt := .boolean) (by decide +kernel) rfl (Nat.le_of_ble_eq_true rfl) ?_
  intro p e s m args below meth c A ls Q H locs hQ hx hb hml hr hlk hts hown hK hP hD hS hA hl
  have hts : ∀ w ∈ TB, w.before args s = true := fun w h => hts w (List.mem_cons_of_mem _ h)
  have hown : s.vm.findClass RX3 = some m.cls := hown
  have hl : lv_has ls 3 [(0, .ref aR), (1, .int (nI d))] := hl
  have hP : va_P (dC, dI) vwCl ((aR, .inr (3, [.ref aS, .ref aA, .ref aL, .ref aE, .int (bI pw), .int tn])) :: (aA, .inl (cQ, n, .inr (.inr (.inr (.inr (fun z8 => some (aTs z8))))))) :: (stW cI cB aS P aTs aWs aMs w ms mk n)) H := hP
  have hD : va_D A ((aR, .inr (3, [.ref aS, .ref aA, .ref aL, .ref aE, .int (bI pw), .int tn])) :: (aA, .inl (cQ, n, .inr (.inr (.inr (.inr (fun z8 => some (aTs z8))))))) :: (stW cI cB aS P aTs aWs aMs w ms mk n)) := hD
  have hp := hp5.le
  have hpp := dr_PP hp5
  have hpq := dr_PP2 hp5
  refine lv_iconst (v := nI 0) hx hb dX3_missesSomeStripe_0 (by decide) ?_
  refine lv_istore_n hx hb dX3_missesSomeStripe_1 rfl hl (by decide) rfl (fun ls hl => ?_)
  have hl : lv_has ls 3 [(2, .int (nI 0)), (0, .ref aR), (1, .int (nI d))] := hl
  have lp2 : ∀ (n9 : Nat) (i : Nat) (ls : Array Slot) (H : Heap) (locs : List Loc), n - i < n9 → (i ≤ n) → (dr_any (fun s9 => ms s9 d) i = false) → lv_has ls 3 [(2, .int (nI i)), (1, .int (nI d)), (0, .ref aR)] → va_P (dC, dI) vwCl ((aR, .inr (3, [.ref aS, .ref aA, .ref aL, .ref aE, .int (bI pw), .int tn])) :: (aA, .inl (cQ, n, .inr (.inr (.inr (.inr (fun z8 => some (aTs z8))))))) :: (stW cI cB aS P aTs aWs aMs w ms mk n)) H → va_D A ((aR, .inr (3, [.ref aS, .ref aA, .ref aL, .ref aE, .int (bI pw), .int tn])) :: (aA, .inl (cQ, n, .inr (.inr (.inr (.inr (fun z8 => some (aTs z8))))))) :: (stW cI cB aS P aTs aWs aMs w ms mk n)) → va_S A s.heap H locs → W p l e rm_c_misses s m args below meth c H locs 0 0 Q (F0 m 2 ls []) := by
    intro n9
    induction n9 with
    | zero => intro i ls H locs hn9; omega
    | succ n9 ih2 =>
      intro i ls H locs hn9 hi ha hl hP hD hS
      refine lv_iload_n hx hb dX3_missesSomeStripe_2 rfl (lv_at hl 0 rfl) ?_
      refine lv_aload_n hx hb dX3_missesSomeStripe_3 rfl (lv_at hl 2 rfl) ?_
      refine va_get (D := (dC, dI)) (ci := 3) (v := .ref aA) (C := RX3) (T := TX3) (N := 6) hx hb hts inX3 hown hK hP 0 rfl rfl 1 (by decide) (hts _ t_fX3_36) (fun _ h9 => h9) rfl dX3_missesSomeStripe_4 ?_
      refine va_alen (v := nI n) hx hb hK hP 1 2 rfl rfl rfl dX3_missesSomeStripe_7 ?_
      refine x_cge (tgt := 33) hx hb dX3_missesSomeStripe_8 (by decide) (by omega) (by omega) (fun h8 => ?_) (fun h8 => ?_)
      · -- 8t
        refine lv_iconst (v := bI false) hx hb dX3_missesSomeStripe_33 (by decide) ?_
        exact x_zret (D := (dC, dI)) (cl := vwCl) (A := A) () hQ hx hb hr hlk hP hD hS dX3_missesSomeStripe_34 (by rw [show i = n by omega] at ha; rw [ha])
      · -- 8f
        refine lv_aload_n hx hb dX3_missesSomeStripe_11 rfl (lv_at hl 2 rfl) ?_
        refine va_get (D := (dC, dI)) (ci := 3) (v := .ref aA) (C := RX3) (T := TX3) (N := 6) hx hb hts inX3 hown hK hP 0 rfl rfl 1 (by decide) (hts _ t_fX3_36) (fun _ h9 => h9) rfl dX3_missesSomeStripe_12 ?_
        refine lv_iload_n hx hb dX3_missesSomeStripe_15 rfl (lv_at hl 0 rfl) ?_
        refine x_aald (q := aTs i) hx hb hK hP 1 2 rfl rfl dX3_missesSomeStripe_16 (by omega) (by omega) rfl ?_
        have hP := foc_P (pre := [(aR, .inr (3, [.ref aS, .ref aA, .ref aL, .ref aE, .int (bI pw), .int tn])), (aA, .inl (cQ, n, .inr (.inr (.inr (.inr (fun z8 => some (aTs z8)))))))]) (s := i) hP (by omega)
        have hD := foc_D (pre := [(aR, .inr (3, [.ref aS, .ref aA, .ref aL, .ref aE, .int (bI pw), .int tn])), (aA, .inl (cQ, n, .inr (.inr (.inr (.inr (fun z8 => some (aTs z8)))))))]) (s := i) hD (by omega)
        have hP : va_P (dC, dI) vwCl ((aR, .inr (3, [.ref aS, .ref aA, .ref aL, .ref aE, .int (bI pw), .int tn])) :: (aA, .inl (cQ, n, .inr (.inr (.inr (.inr (fun z8 => some (aTs z8))))))) :: (aTs i, .inr (1, [.ref aS, .ref (aWs i), .ref (aMs i), .int (bI (mk i))])) :: (aWs i, .inl (cI, P * P, .inl (w i))) :: (aMs i, .inl (cB, P, .inl (fun z9 => bI ((ms i) z9)))) :: (stO cI cB aS P aTs aWs aMs w ms mk n i)) H := hP
        have hD : va_D A ((aR, .inr (3, [.ref aS, .ref aA, .ref aL, .ref aE, .int (bI pw), .int tn])) :: (aA, .inl (cQ, n, .inr (.inr (.inr (.inr (fun z8 => some (aTs z8))))))) :: (aTs i, .inr (1, [.ref aS, .ref (aWs i), .ref (aMs i), .int (bI (mk i))])) :: (aWs i, .inl (cI, P * P, .inl (w i))) :: (aMs i, .inl (cB, P, .inl (fun z9 => bI ((ms i) z9)))) :: (stO cI cB aS P aTs aWs aMs w ms mk n i)) := hD
        refine va_get (D := (dC, dI)) (ci := 1) (v := .ref (aMs i)) (C := RX1) (T := TX1) (N := 4) hx hb hts inX1 hown hK hP 2 rfl rfl 2 (by decide) (hts _ t_fX3_122) (fun _ h9 => h9) rfl dX3_missesSomeStripe_17 ?_
        refine lv_iload_n hx hb dX3_missesSomeStripe_20 rfl (lv_at hl 1 rfl) ?_
        refine x_zald (g := ms i) hx hb hK hP 4 1 rfl rfl dX3_missesSomeStripe_21 (by omega) (by omega) ?_
        refine x_ifF (tgt := 27) hx hb dX3_missesSomeStripe_22 (by decide) (fun h22 => ?_) (fun h22 => ?_)
        · -- 22t
          have hP := unf0_P (pre := [(aR, .inr (3, [.ref aS, .ref aA, .ref aL, .ref aE, .int (bI pw), .int tn])), (aA, .inl (cQ, n, .inr (.inr (.inr (.inr (fun z8 => some (aTs z8)))))))]) (s := i) hP (by omega)
          have hD := unf0_D (pre := [(aR, .inr (3, [.ref aS, .ref aA, .ref aL, .ref aE, .int (bI pw), .int tn])), (aA, .inl (cQ, n, .inr (.inr (.inr (.inr (fun z8 => some (aTs z8)))))))]) (s := i) hD (by omega)
          have hP : va_P (dC, dI) vwCl ((aR, .inr (3, [.ref aS, .ref aA, .ref aL, .ref aE, .int (bI pw), .int tn])) :: (aA, .inl (cQ, n, .inr (.inr (.inr (.inr (fun z8 => some (aTs z8))))))) :: (stW cI cB aS P aTs aWs aMs w ms mk n)) H := hP
          have hD : va_D A ((aR, .inr (3, [.ref aS, .ref aA, .ref aL, .ref aE, .int (bI pw), .int tn])) :: (aA, .inl (cQ, n, .inr (.inr (.inr (.inr (fun z8 => some (aTs z8))))))) :: (stW cI cB aS P aTs aWs aMs w ms mk n)) := hD
          refine lv_iinc (v := nI (i + 1)) hx hb dX3_missesSomeStripe_27 hl (k := 0) rfl (x_inc _) (by decide) rfl (fun ls hl => ?_)
          have hl : lv_has ls 3 [(2, .int (nI (i + 1))), (1, .int (nI d)), (0, .ref aR)] := hl
          refine lv_goto (tgt := 2) hx hb dX3_missesSomeStripe_30 (by decide) ?_
          exact ih2 (i + 1) ls H locs (by omega) (by omega) (by first | rfl | (rw [dr_any, ha, Bool.false_or]; exact h22)) (lv_sub hl [0, 1, 2] rfl) hP hD hS
        · -- 22f
          have hP := unf0_P (pre := [(aR, .inr (3, [.ref aS, .ref aA, .ref aL, .ref aE, .int (bI pw), .int tn])), (aA, .inl (cQ, n, .inr (.inr (.inr (.inr (fun z8 => some (aTs z8)))))))]) (s := i) hP (by omega)
          have hD := unf0_D (pre := [(aR, .inr (3, [.ref aS, .ref aA, .ref aL, .ref aE, .int (bI pw), .int tn])), (aA, .inl (cQ, n, .inr (.inr (.inr (.inr (fun z8 => some (aTs z8)))))))]) (s := i) hD (by omega)
          have hP : va_P (dC, dI) vwCl ((aR, .inr (3, [.ref aS, .ref aA, .ref aL, .ref aE, .int (bI pw), .int tn])) :: (aA, .inl (cQ, n, .inr (.inr (.inr (.inr (fun z8 => some (aTs z8))))))) :: (stW cI cB aS P aTs aWs aMs w ms mk n)) H := hP
          have hD : va_D A ((aR, .inr (3, [.ref aS, .ref aA, .ref aL, .ref aE, .int (bI pw), .int tn])) :: (aA, .inl (cQ, n, .inr (.inr (.inr (.inr (fun z8 => some (aTs z8))))))) :: (stW cI cB aS P aTs aWs aMs w ms mk n)) := hD
          refine lv_iconst (v := bI true) hx hb dX3_missesSomeStripe_25 (by decide) ?_
          exact x_zret (D := (dC, dI)) (cl := vwCl) (A := A) () hQ hx hb hr hlk hP hD hS dX3_missesSomeStripe_26 (by rw [dr_any_true (g := fun s9 => ms s9 d) (i := i) (by omega) h22])
  exact lp2 (n - 0 + 1) 0 ls H locs (by omega) (by omega) (by first | rfl | (rw [dr_any, ha, Bool.false_or]; exact h22)) (lv_sub hl [0, 2, 1] rfl) hP hD hS

abbrev rm_c_incompl : Room := { frames := 1, cells := 0, slots := 0, locals := 22 }
set_option maxHeartbeats 4000000 in
set_option maxRecDepth 100000 in
theorem c_incompl (l : Launch) (dC : Nat → ClassId) (dI : Nat → Nat → Nat) (cI cB cQ cJ : ClassId) (aR : Nat) (aS : Nat) (aA : Nat) (aL : Nat) (aE : Nat) (pw : Bool) (tn : Int32) (P : Nat) (n : Nat) (aTs : Nat → Nat) (aWs : Nat → Nat) (aMs : Nat → Nat) (w : Nat → Nat → Int32) (ms : Nat → Nat → Bool) (mk : Nat → Bool) (hp5 : dr_P P) (hn : n < 5) : MG l yX3_incompleteDrives (Cond.code yX3_incompleteDrives cX3_incompleteDrives 3 (some .int) :: TB) rm_c_incompl (dC, dI) vwCl (TY cI cB cQ cJ) [.ref aR] ((aR, .inr (3, [.ref aS, .ref aA, .ref aL, .ref aE, .int (bI pw), .int tn])) :: (aS, .inr (0, [.int (nI P), .int (nI (P - 2)), .int (nI (P - 1)), .int (nI (P * (P - 2)))])) :: (aA, .inl (cQ, n, .inr (.inr (.inr (.inr (fun z8 => some (aTs z8))))))) :: (stW cI cB aS P aTs aWs aMs w ms mk n)) (fun (r : Int32) (u : Unit) => r = nI (dr_cnt (fun d => dr_any (fun s9 => ms s9 d) n) P)) (fun (u : Unit) => ((aR, .inr (3, [.ref aS, .ref aA, .ref aL, .ref aE, .int (bI pw), .int tn])) :: (aS, .inr (0, [.int (nI P), .int (nI (P - 2)), .int (nI (P - 1)), .int (nI (P * (P - 2)))])) :: (aA, .inl (cQ, n, .inr (.inr (.inr (.inr (fun z8 => some (aTs z8))))))) :: (stW cI cB aS P aTs aWs aMs w ms mk n))) := by
  refine MG.ofW (cc := cX3_incompleteDrives) (maxL := 3) (rt := .int) (by decide +kernel) rfl (Nat.le_of_ble_eq_true rfl) ?_
  intro p e s m args below meth c A ls Q H locs hQ hx hb hml hr hlk hts hown hK hP hD hS hA hl
  have hts : ∀ w ∈ TB, w.before args s = true := fun w h => hts w (List.mem_cons_of_mem _ h)
  have hown : s.vm.findClass RX3 = some m.cls := hown
  have hl : lv_has ls 3 [(0, .ref aR)] := hl
  have hP : va_P (dC, dI) vwCl ((aR, .inr (3, [.ref aS, .ref aA, .ref aL, .ref aE, .int (bI pw), .int tn])) :: (aS, .inr (0, [.int (nI P), .int (nI (P - 2)), .int (nI (P - 1)), .int (nI (P * (P - 2)))])) :: (aA, .inl (cQ, n, .inr (.inr (.inr (.inr (fun z8 => some (aTs z8))))))) :: (stW cI cB aS P aTs aWs aMs w ms mk n)) H := hP
  have hD : va_D A ((aR, .inr (3, [.ref aS, .ref aA, .ref aL, .ref aE, .int (bI pw), .int tn])) :: (aS, .inr (0, [.int (nI P), .int (nI (P - 2)), .int (nI (P - 1)), .int (nI (P * (P - 2)))])) :: (aA, .inl (cQ, n, .inr (.inr (.inr (.inr (fun z8 => some (aTs z8))))))) :: (stW cI cB aS P aTs aWs aMs w ms mk n)) := hD
  have hp := hp5.le
  have hpp := dr_PP hp5
  have hpq := dr_PP2 hp5
  refine lv_iconst (v := nI 0) hx hb dX3_incompleteDrives_0 (by decide) ?_
  refine lv_istore_n hx hb dX3_incompleteDrives_1 rfl hl (by decide) rfl (fun ls hl => ?_)
  have hl : lv_has ls 3 [(1, .int (nI 0)), (0, .ref aR)] := hl
  refine lv_iconst (v := nI 0) hx hb dX3_incompleteDrives_2 (by decide) ?_
  refine lv_istore_n hx hb dX3_incompleteDrives_3 rfl hl (by decide) rfl (fun ls hl => ?_)
  have hl : lv_has ls 3 [(2, .int (nI 0)), (1, .int (nI 0)), (0, .ref aR)] := hl
  have lp4 : ∀ (n9 : Nat) (i : Nat) (ls : Array Slot) (H : Heap) (locs : List Loc), P - i < n9 → (i ≤ P) → lv_has ls 3 [(2, .int (nI i)), (1, .int (nI (dr_cnt (fun d => dr_any (fun s9 => ms s9 d) n) i))), (0, .ref aR)] → va_P (dC, dI) vwCl ((aR, .inr (3, [.ref aS, .ref aA, .ref aL, .ref aE, .int (bI pw), .int tn])) :: (aS, .inr (0, [.int (nI P), .int (nI (P - 2)), .int (nI (P - 1)), .int (nI (P * (P - 2)))])) :: (aA, .inl (cQ, n, .inr (.inr (.inr (.inr (fun z8 => some (aTs z8))))))) :: (stW cI cB aS P aTs aWs aMs w ms mk n)) H → va_D A ((aR, .inr (3, [.ref aS, .ref aA, .ref aL, .ref aE, .int (bI pw), .int tn])) :: (aS, .inr (0, [.int (nI P), .int (nI (P - 2)), .int (nI (P - 1)), .int (nI (P * (P - 2)))])) :: (aA, .inl (cQ, n, .inr (.inr (.inr (.inr (fun z8 => some (aTs z8))))))) :: (stW cI cB aS P aTs aWs aMs w ms mk n)) → va_S A s.heap H locs → W p l e rm_c_incompl s m args below meth c H locs 0 0 Q (F0 m 4 ls []) := by
    intro n9
    induction n9 with
    | zero => intro i ls H locs hn9; omega
    | succ n9 ih4 =>
      intro i ls H locs hn9 hi hl hP hD hS
      refine lv_iload_n hx hb dX3_incompleteDrives_4 rfl (lv_at hl 0 rfl) ?_
      refine lv_aload_n hx hb dX3_incompleteDrives_5 rfl (lv_at hl 2 rfl) ?_
      refine va_get (D := (dC, dI)) (ci := 3) (v := .ref aS) (C := RX3) (T := TX3) (N := 6) hx hb hts inX3 hown hK hP 0 rfl rfl 0 (by decide) (hts _ t_fX3_32) (fun _ h9 => h9) rfl dX3_incompleteDrives_6 ?_
      refine va_get (D := (dC, dI)) (ci := 0) (v := .int (nI P)) (C := RX0) (T := TX0) (N := 4) hx hb hts inX0 hown hK hP 1 rfl rfl 0 (by decide) (hts _ t_fX3_40) (fun _ h9 => h9) rfl dX3_incompleteDrives_9 ?_
      refine x_cge (tgt := 32) hx hb dX3_incompleteDrives_12 (by decide) (by omega) (by omega) (fun h12 => ?_) (fun h12 => ?_)
      · -- 12t
        have hie12 : i = P := by omega
        try rw [hie12] at hl
        try rw [hie12] at hP
        try rw [hie12] at hD
        have hl : lv_has ls 3 [(2, .int (nI P)), (1, .int (nI (dr_cnt (fun d => dr_any (fun s9 => ms s9 d) n) P))), (0, .ref aR)] := hl
        have hP : va_P (dC, dI) vwCl ((aR, .inr (3, [.ref aS, .ref aA, .ref aL, .ref aE, .int (bI pw), .int tn])) :: (aS, .inr (0, [.int (nI P), .int (nI (P - 2)), .int (nI (P - 1)), .int (nI (P * (P - 2)))])) :: (aA, .inl (cQ, n, .inr (.inr (.inr (.inr (fun z8 => some (aTs z8))))))) :: (stW cI cB aS P aTs aWs aMs w ms mk n)) H := hP
        have hD : va_D A ((aR, .inr (3, [.ref aS, .ref aA, .ref aL, .ref aE, .int (bI pw), .int tn])) :: (aS, .inr (0, [.int (nI P), .int (nI (P - 2)), .int (nI (P - 1)), .int (nI (P * (P - 2)))])) :: (aA, .inl (cQ, n, .inr (.inr (.inr (.inr (fun z8 => some (aTs z8))))))) :: (stW cI cB aS P aTs aWs aMs w ms mk n)) := hD
        refine lv_iload_n hx hb dX3_incompleteDrives_32 rfl (lv_at hl 1 rfl) ?_
        exact x_iret (D := (dC, dI)) (cl := vwCl) (A := A) () hQ hx hb hr hlk hP hD hS dX3_incompleteDrives_33 (by first | rfl | (simp [h12]; done) | (simp [h12]; omega))
      · -- 12f
        refine lv_aload_n hx hb dX3_incompleteDrives_15 rfl (lv_at hl 2 rfl) ?_
        refine lv_iload_n hx hb dX3_incompleteDrives_16 rfl (lv_at hl 0 rfl) ?_
        refine gVt (F := fun (u : Unit) => [(aR, .inr (3, [.ref aS, .ref aA, .ref aL, .ref aE, .int (bI pw), .int tn])), (aA, .inl (cQ, n, .inr (.inr (.inr (.inr (fun z8 => some (aTs z8)))))))]) (wc := [(aR, .inr (3, [.ref aS, .ref aA, .ref aL, .ref aE, .int (bI pw), .int tn])), (aA, .inl (cQ, n, .inr (.inr (.inr (.inr (fun z8 => some (aTs z8)))))))]) (wr := [(aS, .inr (0, [.int (nI P), .int (nI (P - 2)), .int (nI (P - 1)), .int (nI (P * (P - 2)))]))]) (pre := [(aR, .inr (3, [.ref aS, .ref aA, .ref aL, .ref aE, .int (bI pw), .int tn])), (aS, .inr (0, [.int (nI P), .int (nI (P - 2)), .int (nI (P - 1)), .int (nI (P * (P - 2)))])), (aA, .inl (cQ, n, .inr (.inr (.inr (.inr (fun z8 => some (aTs z8)))))))]) (tl := (stW cI cB aS P aTs aWs aMs w ms mk n)) (G := fun (u : Unit) => [(aR, .inr (3, [.ref aS, .ref aA, .ref aL, .ref aE, .int (bI pw), .int tn])), (aS, .inr (0, [.int (nI P), .int (nI (P - 2)), .int (nI (P - 1)), .int (nI (P * (P - 2)))])), (aA, .inl (cQ, n, .inr (.inr (.inr (.inr (fun z8 => some (aTs z8)))))))]) (b := aR) (As := [.int (nI i)]) (rst := []) ⟨hx, hb, hml, hown, hts⟩ (c_misses l dC dI cI cB cQ cJ aR aS aA aL aE pw tn P n aTs aWs aMs w ms mk i hp5 (by omega) (by omega)) (cwV 1 hts (gdV t_mX3_146 t_inst_X3_missesSomeStripe t_sel_X3_missesSomeStripe t_ini_X3 t_code_X3_missesSomeStripe) rfl rfl rfl (by decide +kernel) ⟨Nat.le_of_ble_eq_true rfl, Nat.le_of_ble_eq_true rfl⟩) hK hP hD hS hA [0, 2] [1] [0, 2, 1] rfl (by decide) (fun _ => rfl) (by decide) (ci := 3) rfl rfl rfl rfl hl.1 rfl (Nat.le_of_ble_eq_true rfl) dX3_incompleteDrives_17 ⟨Nat.zero_le _, Nat.zero_le _⟩ (fun r u H locs hu1 hP hD hS => ?_)
        have hr17 := hu1
        have hr17 : r = bI (dr_any (fun s9 => ms s9 i) n) := hr17
        subst hr17
        have hP : va_P (dC, dI) vwCl ((aR, .inr (3, [.ref aS, .ref aA, .ref aL, .ref aE, .int (bI pw), .int tn])) :: (aS, .inr (0, [.int (nI P), .int (nI (P - 2)), .int (nI (P - 1)), .int (nI (P * (P - 2)))])) :: (aA, .inl (cQ, n, .inr (.inr (.inr (.inr (fun z8 => some (aTs z8))))))) :: (stW cI cB aS P aTs aWs aMs w ms mk n)) H := hP
        have hD : va_D A ((aR, .inr (3, [.ref aS, .ref aA, .ref aL, .ref aE, .int (bI pw), .int tn])) :: (aS, .inr (0, [.int (nI P), .int (nI (P - 2)), .int (nI (P - 1)), .int (nI (P * (P - 2)))])) :: (aA, .inl (cQ, n, .inr (.inr (.inr (.inr (fun z8 => some (aTs z8))))))) :: (stW cI cB aS P aTs aWs aMs w ms mk n)) := hD
        refine x_ifF (tgt := 26) hx hb dX3_incompleteDrives_20 (by decide) (fun h20 => ?_) (fun h20 => ?_)
        · -- 20t
          refine lv_iinc (v := nI (i + 1)) hx hb dX3_incompleteDrives_26 hl (k := 0) rfl (x_inc _) (by decide) rfl (fun ls hl => ?_)
          have hl : lv_has ls 3 [(2, .int (nI (i + 1))), (1, .int (nI (dr_cnt (fun d => dr_any (fun s9 => ms s9 d) n) i))), (0, .ref aR)] := hl
          refine lv_goto (tgt := 4) hx hb dX3_incompleteDrives_29 (by decide) ?_
          have e2 : (dr_cnt (fun d => dr_any (fun s9 => ms s9 d) n) (i + 1)) = (dr_cnt (fun d => dr_any (fun s9 => ms s9 d) n) i) := by first | rfl | (simp [dr_cnt, h12, h20]; done) | (simp [dr_cnt, h12, h20]; omega)
          exact ih4 (i + 1) ls H locs (by omega) (by omega) (by rw [e2]; exact lv_sub hl [0, 1, 2] rfl) hP hD hS
        · -- 20f
          refine lv_iinc (v := nI (dr_cnt (fun d => dr_any (fun s9 => ms s9 d) n) i + 1)) hx hb dX3_incompleteDrives_23 hl (k := 1) rfl (x_inc _) (by decide) rfl (fun ls hl => ?_)
          have hl : lv_has ls 3 [(1, .int (nI (dr_cnt (fun d => dr_any (fun s9 => ms s9 d) n) i + 1))), (2, .int (nI i)), (0, .ref aR)] := hl
          refine lv_iinc (v := nI (i + 1)) hx hb dX3_incompleteDrives_26 hl (k := 1) rfl (x_inc _) (by decide) rfl (fun ls hl => ?_)
          have hl : lv_has ls 3 [(2, .int (nI (i + 1))), (1, .int (nI (dr_cnt (fun d => dr_any (fun s9 => ms s9 d) n) i + 1))), (0, .ref aR)] := hl
          refine lv_goto (tgt := 4) hx hb dX3_incompleteDrives_29 (by decide) ?_
          have e3 : (dr_cnt (fun d => dr_any (fun s9 => ms s9 d) n) (i + 1)) = (dr_cnt (fun d => dr_any (fun s9 => ms s9 d) n) i + 1) := by first | rfl | (simp [dr_cnt, h12, h20]; done) | (simp [dr_cnt, h12, h20]; omega)
          exact ih4 (i + 1) ls H locs (by omega) (by omega) (by rw [e3]; exact lv_sub hl [0, 1, 2] rfl) hP hD hS
  have e4 : (dr_cnt (fun d => dr_any (fun s9 => ms s9 d) n) 0) = 0 := by first | rfl | (simp [dr_cnt]; done) | (simp [dr_cnt]; omega)
  exact lp4 (P - 0 + 1) 0 ls H locs (by omega) (by omega) (by rw [e4]; exact lv_sub hl [0, 1, 2] rfl) hP hD hS

abbrev rm_c_count : Room := { frames := 2, cells := 0, slots := 0, locals := 44 }
set_option maxHeartbeats 4000000 in
set_option maxRecDepth 100000 in
theorem c_count (l : Launch) (dC : Nat → ClassId) (dI : Nat → Nat → Nat) (cI cB cQ cJ : ClassId) (aR : Nat) (aS : Nat) (aA : Nat) (aL : Nat) (aE : Nat) (pw : Bool) (tn : Int32) (P : Nat) (n : Nat) (aTs : Nat → Nat) (aWs : Nat → Nat) (aMs : Nat → Nat) (lo : Nat → Bool) (aEW : Nat) (aEK : Nat) (tw : Nat → Int32) (kn : Nat → Bool) (un : Int32) (w : Nat → Nat → Int32) (ms : Nat → Nat → Bool) (mk : Nat → Bool) (x : Int32) (hp5 : dr_P P) (hn : n < 5) : MG l yX3_count (Cond.code yX3_count cX3_count 2 (some .int) :: TB) rm_c_count (dC, dI) vwCl (TY cI cB cQ cJ) [.ref aR, .int x] ((aR, .inr (3, [.ref aS, .ref aA, .ref aL, .ref aE, .int (bI pw), .int tn])) :: (aS, .inr (0, [.int (nI P), .int (nI (P - 2)), .int (nI (P - 1)), .int (nI (P * (P - 2)))])) :: (aA, .inl (cQ, n, .inr (.inr (.inr (.inr (fun z8 => some (aTs z8))))))) :: (aL, .inl (cB, P, .inl (fun z9 => bI (lo z9)))) :: (aE, .inr (2, [.ref aS, .ref aEW, .ref aEK, .int un])) :: (aEW, .inl (cI, P * P, .inl tw)) :: (aEK, .inl (cB, P * P, .inl (fun z9 => bI (kn z9)))) :: (stW cI cB aS P aTs aWs aMs w ms mk n)) (fun (r : Int32) (u : Unit) => r = dr_cv x (nI P) (nI n) (nI (n * (P * (P - 2)))) (nI (dr_cnt lo P)) (nI (dr_cnt (fun d => dr_any (fun s9 => ms s9 d) n) P))) (fun (u : Unit) => ((aR, .inr (3, [.ref aS, .ref aA, .ref aL, .ref aE, .int (bI pw), .int tn])) :: (aS, .inr (0, [.int (nI P), .int (nI (P - 2)), .int (nI (P - 1)), .int (nI (P * (P - 2)))])) :: (aA, .inl (cQ, n, .inr (.inr (.inr (.inr (fun z8 => some (aTs z8))))))) :: (aL, .inl (cB, P, .inl (fun z9 => bI (lo z9)))) :: (aE, .inr (2, [.ref aS, .ref aEW, .ref aEK, .int un])) :: (aEW, .inl (cI, P * P, .inl tw)) :: (aEK, .inl (cB, P * P, .inl (fun z9 => bI (kn z9)))) :: (stW cI cB aS P aTs aWs aMs w ms mk n))) := by
  refine MG.ofW (cc := cX3_count) (maxL := 2) (rt := .int) (by decide +kernel) rfl (Nat.le_of_ble_eq_true rfl) ?_
  intro p e s m args below meth c A ls Q H locs hQ hx hb hml hr hlk hts hown hK hP hD hS hA hl
  have hts : ∀ w ∈ TB, w.before args s = true := fun w h => hts w (List.mem_cons_of_mem _ h)
  have hown : s.vm.findClass RX3 = some m.cls := hown
  have hl : lv_has ls 2 [(0, .ref aR), (1, .int x)] := hl
  have hP : va_P (dC, dI) vwCl ((aR, .inr (3, [.ref aS, .ref aA, .ref aL, .ref aE, .int (bI pw), .int tn])) :: (aS, .inr (0, [.int (nI P), .int (nI (P - 2)), .int (nI (P - 1)), .int (nI (P * (P - 2)))])) :: (aA, .inl (cQ, n, .inr (.inr (.inr (.inr (fun z8 => some (aTs z8))))))) :: (aL, .inl (cB, P, .inl (fun z9 => bI (lo z9)))) :: (aE, .inr (2, [.ref aS, .ref aEW, .ref aEK, .int un])) :: (aEW, .inl (cI, P * P, .inl tw)) :: (aEK, .inl (cB, P * P, .inl (fun z9 => bI (kn z9)))) :: (stW cI cB aS P aTs aWs aMs w ms mk n)) H := hP
  have hD : va_D A ((aR, .inr (3, [.ref aS, .ref aA, .ref aL, .ref aE, .int (bI pw), .int tn])) :: (aS, .inr (0, [.int (nI P), .int (nI (P - 2)), .int (nI (P - 1)), .int (nI (P * (P - 2)))])) :: (aA, .inl (cQ, n, .inr (.inr (.inr (.inr (fun z8 => some (aTs z8))))))) :: (aL, .inl (cB, P, .inl (fun z9 => bI (lo z9)))) :: (aE, .inr (2, [.ref aS, .ref aEW, .ref aEK, .int un])) :: (aEW, .inl (cI, P * P, .inl tw)) :: (aEK, .inl (cB, P * P, .inl (fun z9 => bI (kn z9)))) :: (stW cI cB aS P aTs aWs aMs w ms mk n)) := hD
  have hp := hp5.le
  have hpp := dr_PP hp5
  have hpq := dr_PP2 hp5
  refine lv_iload_n hx hb dX3_count_0 rfl (lv_at hl 1 rfl) ?_
  by_cases hsw : x.toInt < 0 ∨ (4 : Int) < x.toInt
  · -- default
    refine lv_tableOut (tgt := 74) hx hb dX3_count_1 hsw (by decide) ?_
    refine lv_iconst (v := (-1)) hx hb dX3_count_74 (by decide) ?_
    exact x_iret (D := (dC, dI)) (cl := vwCl) (A := A) () hQ hx hb hr hlk hP hD hS dX3_count_75 (by unfold dr_cv; rw [if_neg, if_neg, if_neg, if_neg, if_neg] <;> (intro z; subst z; revert hsw; decide))
  · obtain ⟨j9, hj9, rfl⟩ := dr_sw 4 (by decide) hsw
    have hj8 : j9 = 0 ∨ j9 = 1 ∨ j9 = 2 ∨ j9 = 3 ∨ j9 = 4 := by omega
    rcases hj8 with rfl | rfl | rfl | rfl | rfl
    · -- case 0
      refine lv_tableIn (off := 35) (tgt := 36) hx hb dX3_count_1 (by decide) (by decide) (by decide) (by decide) ?_
      refine lv_aload_n hx hb dX3_count_36 rfl (lv_at hl 0 rfl) ?_
      refine va_get (D := (dC, dI)) (ci := 3) (v := .ref aS) (C := RX3) (T := TX3) (N := 6) hx hb hts inX3 hown hK hP 0 rfl rfl 0 (by decide) (hts _ t_fX3_32) (fun _ h9 => h9) rfl dX3_count_37 ?_
      refine va_get (D := (dC, dI)) (ci := 0) (v := .int (nI P)) (C := RX0) (T := TX0) (N := 4) hx hb hts inX0 hown hK hP 1 rfl rfl 0 (by decide) (hts _ t_fX3_40) (fun _ h9 => h9) rfl dX3_count_40 ?_
      exact x_iret (D := (dC, dI)) (cl := vwCl) (A := A) () hQ hx hb hr hlk hP hD hS dX3_count_43 (by first | rfl | (simp []; done) | (simp []; omega))
    · -- case 1
      refine lv_tableIn (off := 43) (tgt := 44) hx hb dX3_count_1 (by decide) (by decide) (by decide) (by decide) ?_
      refine lv_aload_n hx hb dX3_count_44 rfl (lv_at hl 0 rfl) ?_
      refine va_get (D := (dC, dI)) (ci := 3) (v := .ref aA) (C := RX3) (T := TX3) (N := 6) hx hb hts inX3 hown hK hP 0 rfl rfl 1 (by decide) (hts _ t_fX3_36) (fun _ h9 => h9) rfl dX3_count_45 ?_
      refine va_alen (v := nI n) hx hb hK hP 2 2 rfl rfl rfl dX3_count_48 ?_
      exact x_iret (D := (dC, dI)) (cl := vwCl) (A := A) () hQ hx hb hr hlk hP hD hS dX3_count_49 (by first | rfl | (simp []; done) | (simp []; omega))
    · -- case 2
      refine lv_tableIn (off := 49) (tgt := 50) hx hb dX3_count_1 (by decide) (by decide) (by decide) (by decide) ?_
      refine lv_aload_n hx hb dX3_count_50 rfl (lv_at hl 0 rfl) ?_
      refine va_get (D := (dC, dI)) (ci := 3) (v := .ref aA) (C := RX3) (T := TX3) (N := 6) hx hb hts inX3 hown hK hP 0 rfl rfl 1 (by decide) (hts _ t_fX3_36) (fun _ h9 => h9) rfl dX3_count_51 ?_
      refine va_alen (v := nI n) hx hb hK hP 2 2 rfl rfl rfl dX3_count_54 ?_
      refine lv_aload_n hx hb dX3_count_55 rfl (lv_at hl 0 rfl) ?_
      refine va_get (D := (dC, dI)) (ci := 3) (v := .ref aS) (C := RX3) (T := TX3) (N := 6) hx hb hts inX3 hown hK hP 0 rfl rfl 0 (by decide) (hts _ t_fX3_32) (fun _ h9 => h9) rfl dX3_count_56 ?_
      refine va_get (D := (dC, dI)) (ci := 0) (v := .int (nI (P * (P - 2)))) (C := RX0) (T := TX0) (N := 4) hx hb hts inX0 hown hK hP 1 rfl rfl 3 (by decide) (hts _ t_fX3_62) (fun _ h9 => h9) rfl dX3_count_59 ?_
      refine x_mul hx hb dX3_count_62 ?_
      exact x_iret (D := (dC, dI)) (cl := vwCl) (A := A) () hQ hx hb hr hlk hP hD hS dX3_count_63 (by first | rfl | (simp []; done) | (simp []; omega))
    · -- case 3
      refine lv_tableIn (off := 63) (tgt := 64) hx hb dX3_count_1 (by decide) (by decide) (by decide) (by decide) ?_
      refine lv_aload_n hx hb dX3_count_64 rfl (lv_at hl 0 rfl) ?_
      refine gV (wr := [(aA, .inl (cQ, n, .inr (.inr (.inr (.inr (fun z8 => some (aTs z8))))))), (aE, .inr (2, [.ref aS, .ref aEW, .ref aEK, .int un])), (aEW, .inl (cI, P * P, .inl tw)), (aEK, .inl (cB, P * P, .inl (fun z9 => bI (kn z9))))]) (pre := [(aR, .inr (3, [.ref aS, .ref aA, .ref aL, .ref aE, .int (bI pw), .int tn])), (aS, .inr (0, [.int (nI P), .int (nI (P - 2)), .int (nI (P - 1)), .int (nI (P * (P - 2)))])), (aA, .inl (cQ, n, .inr (.inr (.inr (.inr (fun z8 => some (aTs z8))))))), (aL, .inl (cB, P, .inl (fun z9 => bI (lo z9)))), (aE, .inr (2, [.ref aS, .ref aEW, .ref aEK, .int un])), (aEW, .inl (cI, P * P, .inl tw)), (aEK, .inl (cB, P * P, .inl (fun z9 => bI (kn z9))))]) (tl := (stW cI cB aS P aTs aWs aMs w ms mk n)) (G := fun (u : Unit) => [(aR, .inr (3, [.ref aS, .ref aA, .ref aL, .ref aE, .int (bI pw), .int tn])), (aS, .inr (0, [.int (nI P), .int (nI (P - 2)), .int (nI (P - 1)), .int (nI (P * (P - 2)))])), (aA, .inl (cQ, n, .inr (.inr (.inr (.inr (fun z8 => some (aTs z8))))))), (aL, .inl (cB, P, .inl (fun z9 => bI (lo z9)))), (aE, .inr (2, [.ref aS, .ref aEW, .ref aEK, .int un])), (aEW, .inl (cI, P * P, .inl tw)), (aEK, .inl (cB, P * P, .inl (fun z9 => bI (kn z9))))]) (b := aR) (As := []) (rst := []) ⟨hx, hb, hml, hown, hts⟩ (c_lostDrives l dC dI cI cB cQ cJ aR aS aA aL aE pw tn P lo hp5) (cwV 0 hts (gdV t_mX3_65 t_inst_X3_lostDrives t_sel_X3_lostDrives t_ini_X3 t_code_X3_lostDrives) rfl rfl rfl (by decide +kernel) ⟨Nat.le_of_ble_eq_true rfl, Nat.le_of_ble_eq_true rfl⟩) hK hP hD hS hA [0, 1, 3] [2, 4, 5, 6] [0, 1, 3, 2, 4, 5, 6] rfl (by decide) (fun _ => rfl) (by decide) (ci := 3) rfl rfl rfl rfl hl.1 rfl (Nat.le_of_ble_eq_true rfl) dX3_count_65 ⟨Nat.zero_le _, Nat.zero_le _⟩ (fun r u H locs hu1 hP hD hS => ?_)
      have hr65 := hu1
      have hr65 : r = nI (dr_cnt lo P) := hr65
      subst hr65
      have hP : va_P (dC, dI) vwCl ((aR, .inr (3, [.ref aS, .ref aA, .ref aL, .ref aE, .int (bI pw), .int tn])) :: (aS, .inr (0, [.int (nI P), .int (nI (P - 2)), .int (nI (P - 1)), .int (nI (P * (P - 2)))])) :: (aA, .inl (cQ, n, .inr (.inr (.inr (.inr (fun z8 => some (aTs z8))))))) :: (aL, .inl (cB, P, .inl (fun z9 => bI (lo z9)))) :: (aE, .inr (2, [.ref aS, .ref aEW, .ref aEK, .int un])) :: (aEW, .inl (cI, P * P, .inl tw)) :: (aEK, .inl (cB, P * P, .inl (fun z9 => bI (kn z9)))) :: (stW cI cB aS P aTs aWs aMs w ms mk n)) H := hP
      have hD : va_D A ((aR, .inr (3, [.ref aS, .ref aA, .ref aL, .ref aE, .int (bI pw), .int tn])) :: (aS, .inr (0, [.int (nI P), .int (nI (P - 2)), .int (nI (P - 1)), .int (nI (P * (P - 2)))])) :: (aA, .inl (cQ, n, .inr (.inr (.inr (.inr (fun z8 => some (aTs z8))))))) :: (aL, .inl (cB, P, .inl (fun z9 => bI (lo z9)))) :: (aE, .inr (2, [.ref aS, .ref aEW, .ref aEK, .int un])) :: (aEW, .inl (cI, P * P, .inl tw)) :: (aEK, .inl (cB, P * P, .inl (fun z9 => bI (kn z9)))) :: (stW cI cB aS P aTs aWs aMs w ms mk n)) := hD
      exact x_iret (D := (dC, dI)) (cl := vwCl) (A := A) () hQ hx hb hr hlk hP hD hS dX3_count_68 (by first | rfl | (simp []; done) | (simp []; omega))
    · -- case 4
      refine lv_tableIn (off := 68) (tgt := 69) hx hb dX3_count_1 (by decide) (by decide) (by decide) (by decide) ?_
      refine lv_aload_n hx hb dX3_count_69 rfl (lv_at hl 0 rfl) ?_
      refine gVt (F := fun (u : Unit) => [(aR, .inr (3, [.ref aS, .ref aA, .ref aL, .ref aE, .int (bI pw), .int tn])), (aS, .inr (0, [.int (nI P), .int (nI (P - 2)), .int (nI (P - 1)), .int (nI (P * (P - 2)))])), (aA, .inl (cQ, n, .inr (.inr (.inr (.inr (fun z8 => some (aTs z8)))))))]) (wc := [(aR, .inr (3, [.ref aS, .ref aA, .ref aL, .ref aE, .int (bI pw), .int tn])), (aS, .inr (0, [.int (nI P), .int (nI (P - 2)), .int (nI (P - 1)), .int (nI (P * (P - 2)))])), (aA, .inl (cQ, n, .inr (.inr (.inr (.inr (fun z8 => some (aTs z8)))))))]) (wr := [(aL, .inl (cB, P, .inl (fun z9 => bI (lo z9)))), (aE, .inr (2, [.ref aS, .ref aEW, .ref aEK, .int un])), (aEW, .inl (cI, P * P, .inl tw)), (aEK, .inl (cB, P * P, .inl (fun z9 => bI (kn z9))))]) (pre := [(aR, .inr (3, [.ref aS, .ref aA, .ref aL, .ref aE, .int (bI pw), .int tn])), (aS, .inr (0, [.int (nI P), .int (nI (P - 2)), .int (nI (P - 1)), .int (nI (P * (P - 2)))])), (aA, .inl (cQ, n, .inr (.inr (.inr (.inr (fun z8 => some (aTs z8))))))), (aL, .inl (cB, P, .inl (fun z9 => bI (lo z9)))), (aE, .inr (2, [.ref aS, .ref aEW, .ref aEK, .int un])), (aEW, .inl (cI, P * P, .inl tw)), (aEK, .inl (cB, P * P, .inl (fun z9 => bI (kn z9))))]) (tl := (stW cI cB aS P aTs aWs aMs w ms mk n)) (G := fun (u : Unit) => [(aR, .inr (3, [.ref aS, .ref aA, .ref aL, .ref aE, .int (bI pw), .int tn])), (aS, .inr (0, [.int (nI P), .int (nI (P - 2)), .int (nI (P - 1)), .int (nI (P * (P - 2)))])), (aA, .inl (cQ, n, .inr (.inr (.inr (.inr (fun z8 => some (aTs z8))))))), (aL, .inl (cB, P, .inl (fun z9 => bI (lo z9)))), (aE, .inr (2, [.ref aS, .ref aEW, .ref aEK, .int un])), (aEW, .inl (cI, P * P, .inl tw)), (aEK, .inl (cB, P * P, .inl (fun z9 => bI (kn z9))))]) (b := aR) (As := []) (rst := []) ⟨hx, hb, hml, hown, hts⟩ (c_incompl l dC dI cI cB cQ cJ aR aS aA aL aE pw tn P n aTs aWs aMs w ms mk hp5 (by omega)) (cwV 0 hts (gdV t_mX3_69 t_inst_X3_incompleteDrives t_sel_X3_incompleteDrives t_ini_X3 t_code_X3_incompleteDrives) rfl rfl rfl (by decide +kernel) ⟨Nat.le_of_ble_eq_true rfl, Nat.le_of_ble_eq_true rfl⟩) hK hP hD hS hA [0, 1, 2] [3, 4, 5, 6] [0, 1, 2, 3, 4, 5, 6] rfl (by decide) (fun _ => rfl) (by decide) (ci := 3) rfl rfl rfl rfl hl.1 rfl (Nat.le_of_ble_eq_true rfl) dX3_count_70 ⟨Nat.zero_le _, Nat.zero_le _⟩ (fun r u H locs hu2 hP hD hS => ?_)
      have hr70 := hu2
      have hr70 : r = nI (dr_cnt (fun d => dr_any (fun s9 => ms s9 d) n) P) := hr70
      subst hr70
      have hP : va_P (dC, dI) vwCl ((aR, .inr (3, [.ref aS, .ref aA, .ref aL, .ref aE, .int (bI pw), .int tn])) :: (aS, .inr (0, [.int (nI P), .int (nI (P - 2)), .int (nI (P - 1)), .int (nI (P * (P - 2)))])) :: (aA, .inl (cQ, n, .inr (.inr (.inr (.inr (fun z8 => some (aTs z8))))))) :: (aL, .inl (cB, P, .inl (fun z9 => bI (lo z9)))) :: (aE, .inr (2, [.ref aS, .ref aEW, .ref aEK, .int un])) :: (aEW, .inl (cI, P * P, .inl tw)) :: (aEK, .inl (cB, P * P, .inl (fun z9 => bI (kn z9)))) :: (stW cI cB aS P aTs aWs aMs w ms mk n)) H := hP
      have hD : va_D A ((aR, .inr (3, [.ref aS, .ref aA, .ref aL, .ref aE, .int (bI pw), .int tn])) :: (aS, .inr (0, [.int (nI P), .int (nI (P - 2)), .int (nI (P - 1)), .int (nI (P * (P - 2)))])) :: (aA, .inl (cQ, n, .inr (.inr (.inr (.inr (fun z8 => some (aTs z8))))))) :: (aL, .inl (cB, P, .inl (fun z9 => bI (lo z9)))) :: (aE, .inr (2, [.ref aS, .ref aEW, .ref aEK, .int un])) :: (aEW, .inl (cI, P * P, .inl tw)) :: (aEK, .inl (cB, P * P, .inl (fun z9 => bI (kn z9)))) :: (stW cI cB aS P aTs aWs aMs w ms mk n)) := hD
      exact x_iret (D := (dC, dI)) (cl := vwCl) (A := A) () hQ hx hb hr hlk hP hD hS dX3_count_73 (by first | rfl | (simp []; done) | (simp []; omega))

abbrev rm_c_on : Room := { frames := 0, cells := 0, slots := 0, locals := 0 }
set_option maxHeartbeats 4000000 in
set_option maxRecDepth 100000 in
theorem c_on (l : Launch) (dC : Nat → ClassId) (dI : Nat → Nat → Nat) (cI cB cQ cJ : ClassId) (aR : Nat) (aS : Nat) (aA : Nat) (aL : Nat) (aE : Nat) (pw : Bool) (tn : Int32) (P : Nat) (n : Nat) (aTs : Nat → Nat) (aWs : Nat → Nat) (aMs : Nat → Nat) (lo : Nat → Bool) (aEW : Nat) (aEK : Nat) (tw : Nat → Int32) (kn : Nat → Bool) (un : Int32) (w : Nat → Nat → Int32) (ms : Nat → Nat → Bool) (mk : Nat → Bool) (hp5 : dr_P P) (hn : n < 5) : MG l yX3_on (Cond.code yX3_on cX3_on 1 (some .boolean) :: TB) rm_c_on (dC, dI) vwCl (TY cI cB cQ cJ) [.ref aR] ((aR, .inr (3, [.ref aS, .ref aA, .ref aL, .ref aE, .int (bI pw), .int tn])) :: (aS, .inr (0, [.int (nI P), .int (nI (P - 2)), .int (nI (P - 1)), .int (nI (P * (P - 2)))])) :: (aA, .inl (cQ, n, .inr (.inr (.inr (.inr (fun z8 => some (aTs z8))))))) :: (aL, .inl (cB, P, .inl (fun z9 => bI (lo z9)))) :: (aE, .inr (2, [.ref aS, .ref aEW, .ref aEK, .int un])) :: (aEW, .inl (cI, P * P, .inl tw)) :: (aEK, .inl (cB, P * P, .inl (fun z9 => bI (kn z9)))) :: (stW cI cB aS P aTs aWs aMs w ms mk n)) (fun (r : Int32) (u : Unit) => r = bI pw) (fun (u : Unit) => ((aR, .inr (3, [.ref aS, .ref aA, .ref aL, .ref aE, .int (bI pw), .int tn])) :: (aS, .inr (0, [.int (nI P), .int (nI (P - 2)), .int (nI (P - 1)), .int (nI (P * (P - 2)))])) :: (aA, .inl (cQ, n, .inr (.inr (.inr (.inr (fun z8 => some (aTs z8))))))) :: (aL, .inl (cB, P, .inl (fun z9 => bI (lo z9)))) :: (aE, .inr (2, [.ref aS, .ref aEW, .ref aEK, .int un])) :: (aEW, .inl (cI, P * P, .inl tw)) :: (aEK, .inl (cB, P * P, .inl (fun z9 => bI (kn z9)))) :: (stW cI cB aS P aTs aWs aMs w ms mk n))) := by
  refine MG.ofW (cc := cX3_on) (maxL := 1) (rt := .boolean) (by decide +kernel) rfl (Nat.le_of_ble_eq_true rfl) ?_
  intro p e s m args below meth c A ls Q H locs hQ hx hb hml hr hlk hts hown hK hP hD hS hA hl
  have hts : ∀ w ∈ TB, w.before args s = true := fun w h => hts w (List.mem_cons_of_mem _ h)
  have hown : s.vm.findClass RX3 = some m.cls := hown
  have hl : lv_has ls 1 [(0, .ref aR)] := hl
  have hP : va_P (dC, dI) vwCl ((aR, .inr (3, [.ref aS, .ref aA, .ref aL, .ref aE, .int (bI pw), .int tn])) :: (aS, .inr (0, [.int (nI P), .int (nI (P - 2)), .int (nI (P - 1)), .int (nI (P * (P - 2)))])) :: (aA, .inl (cQ, n, .inr (.inr (.inr (.inr (fun z8 => some (aTs z8))))))) :: (aL, .inl (cB, P, .inl (fun z9 => bI (lo z9)))) :: (aE, .inr (2, [.ref aS, .ref aEW, .ref aEK, .int un])) :: (aEW, .inl (cI, P * P, .inl tw)) :: (aEK, .inl (cB, P * P, .inl (fun z9 => bI (kn z9)))) :: (stW cI cB aS P aTs aWs aMs w ms mk n)) H := hP
  have hD : va_D A ((aR, .inr (3, [.ref aS, .ref aA, .ref aL, .ref aE, .int (bI pw), .int tn])) :: (aS, .inr (0, [.int (nI P), .int (nI (P - 2)), .int (nI (P - 1)), .int (nI (P * (P - 2)))])) :: (aA, .inl (cQ, n, .inr (.inr (.inr (.inr (fun z8 => some (aTs z8))))))) :: (aL, .inl (cB, P, .inl (fun z9 => bI (lo z9)))) :: (aE, .inr (2, [.ref aS, .ref aEW, .ref aEK, .int un])) :: (aEW, .inl (cI, P * P, .inl tw)) :: (aEK, .inl (cB, P * P, .inl (fun z9 => bI (kn z9)))) :: (stW cI cB aS P aTs aWs aMs w ms mk n)) := hD
  have hp := hp5.le
  have hpp := dr_PP hp5
  have hpq := dr_PP2 hp5
  refine lv_aload_n hx hb dX3_on_0 rfl (lv_at hl 0 rfl) ?_
  refine va_get (D := (dC, dI)) (ci := 3) (v := .int (bI pw)) (C := RX3) (T := TX3) (N := 6) hx hb hts inX3 hown hK hP 0 rfl rfl 4 (by decide) (hts _ t_fX3_55) (fun _ h9 => h9) rfl dX3_on_1 ?_
  exact x_zret (D := (dC, dI)) (cl := vwCl) (A := A) () hQ hx hb hr hlk hP hD hS dX3_on_4 (by first | rfl | (simp []; done) | (simp []; omega))

abbrev rm_c_cut0 : Room := { frames := 0, cells := 0, slots := 0, locals := 0 }
set_option maxHeartbeats 4000000 in
set_option maxRecDepth 100000 in
theorem c_cut0 (l : Launch) (dC : Nat → ClassId) (dI : Nat → Nat → Nat) (cI cB cQ cJ : ClassId) (aR : Nat) (aS : Nat) (aA : Nat) (aL : Nat) (aE : Nat) (pw : Bool) (tn : Int32) (P : Nat) (n : Nat) (aTs : Nat → Nat) (aWs : Nat → Nat) (aMs : Nat → Nat) (lo : Nat → Bool) (aEW : Nat) (aEK : Nat) (tw : Nat → Int32) (kn : Nat → Bool) (un : Int32) (w : Nat → Nat → Int32) (ms : Nat → Nat → Bool) (mk : Nat → Bool) (x : Int32) (hp5 : dr_P P) (hn : n < 5) (hc : pw = false ∨ x < 0) : MG l yX3_cut (Cond.code yX3_cut cX3_cut 2 (some .boolean) :: TB) rm_c_cut0 (dC, dI) vwCl (TY cI cB cQ cJ) [.ref aR, .int x] ((aR, .inr (3, [.ref aS, .ref aA, .ref aL, .ref aE, .int (bI pw), .int tn])) :: (aS, .inr (0, [.int (nI P), .int (nI (P - 2)), .int (nI (P - 1)), .int (nI (P * (P - 2)))])) :: (aA, .inl (cQ, n, .inr (.inr (.inr (.inr (fun z8 => some (aTs z8))))))) :: (aL, .inl (cB, P, .inl (fun z9 => bI (lo z9)))) :: (aE, .inr (2, [.ref aS, .ref aEW, .ref aEK, .int un])) :: (aEW, .inl (cI, P * P, .inl tw)) :: (aEK, .inl (cB, P * P, .inl (fun z9 => bI (kn z9)))) :: (stW cI cB aS P aTs aWs aMs w ms mk n)) (fun (r : Int32) (u : Unit) => r = bI false) (fun (u : Unit) => ((aR, .inr (3, [.ref aS, .ref aA, .ref aL, .ref aE, .int (bI pw), .int tn])) :: (aS, .inr (0, [.int (nI P), .int (nI (P - 2)), .int (nI (P - 1)), .int (nI (P * (P - 2)))])) :: (aA, .inl (cQ, n, .inr (.inr (.inr (.inr (fun z8 => some (aTs z8))))))) :: (aL, .inl (cB, P, .inl (fun z9 => bI (lo z9)))) :: (aE, .inr (2, [.ref aS, .ref aEW, .ref aEK, .int un])) :: (aEW, .inl (cI, P * P, .inl tw)) :: (aEK, .inl (cB, P * P, .inl (fun z9 => bI (kn z9)))) :: (stW cI cB aS P aTs aWs aMs w ms mk n))) := by
  refine MG.ofW (cc := cX3_cut) (maxL := 2) (rt := .boolean) (by decide +kernel) rfl (Nat.le_of_ble_eq_true rfl) ?_
  intro p e s m args below meth c A ls Q H locs hQ hx hb hml hr hlk hts hown hK hP hD hS hA hl
  have hts : ∀ w ∈ TB, w.before args s = true := fun w h => hts w (List.mem_cons_of_mem _ h)
  have hown : s.vm.findClass RX3 = some m.cls := hown
  have hl : lv_has ls 2 [(0, .ref aR), (1, .int x)] := hl
  have hP : va_P (dC, dI) vwCl ((aR, .inr (3, [.ref aS, .ref aA, .ref aL, .ref aE, .int (bI pw), .int tn])) :: (aS, .inr (0, [.int (nI P), .int (nI (P - 2)), .int (nI (P - 1)), .int (nI (P * (P - 2)))])) :: (aA, .inl (cQ, n, .inr (.inr (.inr (.inr (fun z8 => some (aTs z8))))))) :: (aL, .inl (cB, P, .inl (fun z9 => bI (lo z9)))) :: (aE, .inr (2, [.ref aS, .ref aEW, .ref aEK, .int un])) :: (aEW, .inl (cI, P * P, .inl tw)) :: (aEK, .inl (cB, P * P, .inl (fun z9 => bI (kn z9)))) :: (stW cI cB aS P aTs aWs aMs w ms mk n)) H := hP
  have hD : va_D A ((aR, .inr (3, [.ref aS, .ref aA, .ref aL, .ref aE, .int (bI pw), .int tn])) :: (aS, .inr (0, [.int (nI P), .int (nI (P - 2)), .int (nI (P - 1)), .int (nI (P * (P - 2)))])) :: (aA, .inl (cQ, n, .inr (.inr (.inr (.inr (fun z8 => some (aTs z8))))))) :: (aL, .inl (cB, P, .inl (fun z9 => bI (lo z9)))) :: (aE, .inr (2, [.ref aS, .ref aEW, .ref aEK, .int un])) :: (aEW, .inl (cI, P * P, .inl tw)) :: (aEK, .inl (cB, P * P, .inl (fun z9 => bI (kn z9)))) :: (stW cI cB aS P aTs aWs aMs w ms mk n)) := hD
  have hp := hp5.le
  have hpp := dr_PP hp5
  have hpq := dr_PP2 hp5
  refine lv_aload_n hx hb dX3_cut_0 rfl (lv_at hl 0 rfl) ?_
  refine va_get (D := (dC, dI)) (ci := 3) (v := .int (bI pw)) (C := RX3) (T := TX3) (N := 6) hx hb hts inX3 hown hK hP 0 rfl rfl 4 (by decide) (hts _ t_fX3_55) (fun _ h9 => h9) rfl dX3_cut_1 ?_
  refine x_ifF (tgt := 11) hx hb dX3_cut_4 (by decide) (fun h4 => ?_) (fun h4 => ?_)
  · -- 4t
    refine lv_iconst (v := bI false) hx hb dX3_cut_11 (by decide) ?_
    exact x_zret (D := (dC, dI)) (cl := vwCl) (A := A) () hQ hx hb hr hlk hP hD hS dX3_cut_12 (by first | rfl | (simp [h4]; done) | (simp [h4]; omega))
  · -- 4f
    refine lv_iload_n hx hb dX3_cut_7 rfl (lv_at hl 1 rfl) ?_
    refine lv_if_ge (tgt := 13) hx hb dX3_cut_8 (by decide) (fun h8 => ?_) (fun h8 => ?_)
    · -- 8t
      rcases hc with z | z <;> first | (rw [z] at h4; cases h4) | exact absurd z (Int32.not_lt.mpr h8)
    · -- 8f
      refine lv_iconst (v := bI false) hx hb dX3_cut_11 (by decide) ?_
      exact x_zret (D := (dC, dI)) (cl := vwCl) (A := A) () hQ hx hb hr hlk hP hD hS dX3_cut_12 (by first | rfl | (simp [h4, h8]; done) | (simp [h4, h8]; omega))

abbrev rm_c_cut1 : Room := { frames := 0, cells := 0, slots := 0, locals := 0 }
set_option maxHeartbeats 4000000 in
set_option maxRecDepth 100000 in
theorem c_cut1 (l : Launch) (dC : Nat → ClassId) (dI : Nat → Nat → Nat) (cI cB cQ cJ : ClassId) (aR : Nat) (aS : Nat) (aA : Nat) (aL : Nat) (aE : Nat) (pw : Bool) (tn : Int32) (P : Nat) (n : Nat) (aTs : Nat → Nat) (aWs : Nat → Nat) (aMs : Nat → Nat) (lo : Nat → Bool) (aEW : Nat) (aEK : Nat) (tw : Nat → Int32) (kn : Nat → Bool) (un : Int32) (w : Nat → Nat → Int32) (ms : Nat → Nat → Bool) (mk : Nat → Bool) (x : Int32) (hp5 : dr_P P) (hn : n < 5) (hc : 0 ≤ x) : MG l yX3_cut (Cond.code yX3_cut cX3_cut 2 (some .boolean) :: TB) rm_c_cut1 (dC, dI) vwCl (TY cI cB cQ cJ) [.ref aR, .int x] ((aR, .inr (3, [.ref aS, .ref aA, .ref aL, .ref aE, .int (bI true), .int tn])) :: (aS, .inr (0, [.int (nI P), .int (nI (P - 2)), .int (nI (P - 1)), .int (nI (P * (P - 2)))])) :: (aA, .inl (cQ, n, .inr (.inr (.inr (.inr (fun z8 => some (aTs z8))))))) :: (aL, .inl (cB, P, .inl (fun z9 => bI (lo z9)))) :: (aE, .inr (2, [.ref aS, .ref aEW, .ref aEK, .int un])) :: (aEW, .inl (cI, P * P, .inl tw)) :: (aEK, .inl (cB, P * P, .inl (fun z9 => bI (kn z9)))) :: (stW cI cB aS P aTs aWs aMs w ms mk n)) (fun (r : Int32) (u : Unit) => r = bI true) (fun (u : Unit) => ((aR, .inr (3, [.ref aS, .ref aA, .ref aL, .ref aE, .int (bI true), .int x])) :: (aS, .inr (0, [.int (nI P), .int (nI (P - 2)), .int (nI (P - 1)), .int (nI (P * (P - 2)))])) :: (aA, .inl (cQ, n, .inr (.inr (.inr (.inr (fun z8 => some (aTs z8))))))) :: (aL, .inl (cB, P, .inl (fun z9 => bI (lo z9)))) :: (aE, .inr (2, [.ref aS, .ref aEW, .ref aEK, .int un])) :: (aEW, .inl (cI, P * P, .inl tw)) :: (aEK, .inl (cB, P * P, .inl (fun z9 => bI (kn z9)))) :: (stW cI cB aS P aTs aWs aMs w ms mk n))) := by
  refine MG.ofW (cc := cX3_cut) (maxL := 2) (rt := .boolean) (by decide +kernel) rfl (Nat.le_of_ble_eq_true rfl) ?_
  intro p e s m args below meth c A ls Q H locs hQ hx hb hml hr hlk hts hown hK hP hD hS hA hl
  have hts : ∀ w ∈ TB, w.before args s = true := fun w h => hts w (List.mem_cons_of_mem _ h)
  have hown : s.vm.findClass RX3 = some m.cls := hown
  have hl : lv_has ls 2 [(0, .ref aR), (1, .int x)] := hl
  have hP : va_P (dC, dI) vwCl ((aR, .inr (3, [.ref aS, .ref aA, .ref aL, .ref aE, .int (bI true), .int tn])) :: (aS, .inr (0, [.int (nI P), .int (nI (P - 2)), .int (nI (P - 1)), .int (nI (P * (P - 2)))])) :: (aA, .inl (cQ, n, .inr (.inr (.inr (.inr (fun z8 => some (aTs z8))))))) :: (aL, .inl (cB, P, .inl (fun z9 => bI (lo z9)))) :: (aE, .inr (2, [.ref aS, .ref aEW, .ref aEK, .int un])) :: (aEW, .inl (cI, P * P, .inl tw)) :: (aEK, .inl (cB, P * P, .inl (fun z9 => bI (kn z9)))) :: (stW cI cB aS P aTs aWs aMs w ms mk n)) H := hP
  have hD : va_D A ((aR, .inr (3, [.ref aS, .ref aA, .ref aL, .ref aE, .int (bI true), .int tn])) :: (aS, .inr (0, [.int (nI P), .int (nI (P - 2)), .int (nI (P - 1)), .int (nI (P * (P - 2)))])) :: (aA, .inl (cQ, n, .inr (.inr (.inr (.inr (fun z8 => some (aTs z8))))))) :: (aL, .inl (cB, P, .inl (fun z9 => bI (lo z9)))) :: (aE, .inr (2, [.ref aS, .ref aEW, .ref aEK, .int un])) :: (aEW, .inl (cI, P * P, .inl tw)) :: (aEK, .inl (cB, P * P, .inl (fun z9 => bI (kn z9)))) :: (stW cI cB aS P aTs aWs aMs w ms mk n)) := hD
  have hp := hp5.le
  have hpp := dr_PP hp5
  have hpq := dr_PP2 hp5
  refine lv_aload_n hx hb dX3_cut_0 rfl (lv_at hl 0 rfl) ?_
  refine va_get (D := (dC, dI)) (ci := 3) (v := .int (bI true)) (C := RX3) (T := TX3) (N := 6) hx hb hts inX3 hown hK hP 0 rfl rfl 4 (by decide) (hts _ t_fX3_55) (fun _ h9 => h9) rfl dX3_cut_1 ?_
  refine x_ifF (tgt := 11) hx hb dX3_cut_4 (by decide) (fun z9 => by cases z9) (fun _ => ?_)
  refine lv_iload_n hx hb dX3_cut_7 rfl (lv_at hl 1 rfl) ?_
  refine lv_if_ge (tgt := 13) hx hb dX3_cut_8 (by decide) (fun h8 => ?_) (fun h8 => ?_)
  · -- 8t
    refine lv_aload_n hx hb dX3_cut_13 rfl (lv_at hl 0 rfl) ?_
    refine lv_iload_n hx hb dX3_cut_14 rfl (lv_at hl 1 rfl) ?_
    refine va_put (D := (dC, dI)) (ci := 3) (v := .int x) (ty := .int) (C := RX3) (T := TX3) (N := 6) hx hb hts inX3 tyX3 tyX3_ok nmX3 hown hK hP hD hS 0 rfl rfl 5 (by decide) (hts _ t_fX3_59) (fun _ h9 => h9) rfl (by decide +kernel) rfl rfl (Nat.le_of_ble_eq_true rfl) dX3_cut_15 (fun H locs hP hD hS => ?_)
    have hP : va_P (dC, dI) vwCl ((aR, .inr (3, [.ref aS, .ref aA, .ref aL, .ref aE, .int (bI true), .int x])) :: (aS, .inr (0, [.int (nI P), .int (nI (P - 2)), .int (nI (P - 1)), .int (nI (P * (P - 2)))])) :: (aA, .inl (cQ, n, .inr (.inr (.inr (.inr (fun z8 => some (aTs z8))))))) :: (aL, .inl (cB, P, .inl (fun z9 => bI (lo z9)))) :: (aE, .inr (2, [.ref aS, .ref aEW, .ref aEK, .int un])) :: (aEW, .inl (cI, P * P, .inl tw)) :: (aEK, .inl (cB, P * P, .inl (fun z9 => bI (kn z9)))) :: (stW cI cB aS P aTs aWs aMs w ms mk n)) H := hP
    have hD : va_D A ((aR, .inr (3, [.ref aS, .ref aA, .ref aL, .ref aE, .int (bI true), .int x])) :: (aS, .inr (0, [.int (nI P), .int (nI (P - 2)), .int (nI (P - 1)), .int (nI (P * (P - 2)))])) :: (aA, .inl (cQ, n, .inr (.inr (.inr (.inr (fun z8 => some (aTs z8))))))) :: (aL, .inl (cB, P, .inl (fun z9 => bI (lo z9)))) :: (aE, .inr (2, [.ref aS, .ref aEW, .ref aEK, .int un])) :: (aEW, .inl (cI, P * P, .inl tw)) :: (aEK, .inl (cB, P * P, .inl (fun z9 => bI (kn z9)))) :: (stW cI cB aS P aTs aWs aMs w ms mk n)) := hD
    refine lv_iconst (v := bI true) hx hb dX3_cut_18 (by decide) ?_
    exact x_zret (D := (dC, dI)) (cl := vwCl) (A := A) () hQ hx hb hr hlk hP hD hS dX3_cut_19 (by first | rfl | (simp [h8]; done) | (simp [h8]; omega))
  · -- 8f
    exact absurd hc h8

abbrev rm_c_drive0 : Room := { frames := 1, cells := 0, slots := 0, locals := 21 }
set_option maxHeartbeats 4000000 in
set_option maxRecDepth 100000 in
theorem c_drive0 (l : Launch) (dC : Nat → ClassId) (dI : Nat → Nat → Nat) (cI cB cQ cJ : ClassId) (aR : Nat) (aS : Nat) (aA : Nat) (aL : Nat) (aE : Nat) (pw : Bool) (tn : Int32) (P : Nat) (n : Nat) (aTs : Nat → Nat) (aWs : Nat → Nat) (aMs : Nat → Nat) (lo : Nat → Bool) (aEW : Nat) (aEK : Nat) (tw : Nat → Int32) (kn : Nat → Bool) (un : Int32) (w : Nat → Nat → Int32) (ms : Nat → Nat → Bool) (mk : Nat → Bool) (x : Int32) (hp5 : dr_P P) (hn : n < 5) (hc : dr_in x P = false) : MG l yX3_drive (Cond.code yX3_drive cX3_drive 2 (some .int) :: TB) rm_c_drive0 (dC, dI) vwCl (TY cI cB cQ cJ) [.ref aR, .int x] ((aR, .inr (3, [.ref aS, .ref aA, .ref aL, .ref aE, .int (bI pw), .int tn])) :: (aS, .inr (0, [.int (nI P), .int (nI (P - 2)), .int (nI (P - 1)), .int (nI (P * (P - 2)))])) :: (aA, .inl (cQ, n, .inr (.inr (.inr (.inr (fun z8 => some (aTs z8))))))) :: (aL, .inl (cB, P, .inl (fun z9 => bI (lo z9)))) :: (aE, .inr (2, [.ref aS, .ref aEW, .ref aEK, .int un])) :: (aEW, .inl (cI, P * P, .inl tw)) :: (aEK, .inl (cB, P * P, .inl (fun z9 => bI (kn z9)))) :: (stW cI cB aS P aTs aWs aMs w ms mk n)) (fun (r : Int32) (u : Unit) => r = (-1)) (fun (u : Unit) => ((aR, .inr (3, [.ref aS, .ref aA, .ref aL, .ref aE, .int (bI pw), .int tn])) :: (aS, .inr (0, [.int (nI P), .int (nI (P - 2)), .int (nI (P - 1)), .int (nI (P * (P - 2)))])) :: (aA, .inl (cQ, n, .inr (.inr (.inr (.inr (fun z8 => some (aTs z8))))))) :: (aL, .inl (cB, P, .inl (fun z9 => bI (lo z9)))) :: (aE, .inr (2, [.ref aS, .ref aEW, .ref aEK, .int un])) :: (aEW, .inl (cI, P * P, .inl tw)) :: (aEK, .inl (cB, P * P, .inl (fun z9 => bI (kn z9)))) :: (stW cI cB aS P aTs aWs aMs w ms mk n))) := by
  refine MG.ofW (cc := cX3_drive) (maxL := 2) (rt := .int) (by decide +kernel) rfl (Nat.le_of_ble_eq_true rfl) ?_
  intro p e s m args below meth c A ls Q H locs hQ hx hb hml hr hlk hts hown hK hP hD hS hA hl
  have hts : ∀ w ∈ TB, w.before args s = true := fun w h => hts w (List.mem_cons_of_mem _ h)
  have hown : s.vm.findClass RX3 = some m.cls := hown
  have hl : lv_has ls 2 [(0, .ref aR), (1, .int x)] := hl
  have hP : va_P (dC, dI) vwCl ((aR, .inr (3, [.ref aS, .ref aA, .ref aL, .ref aE, .int (bI pw), .int tn])) :: (aS, .inr (0, [.int (nI P), .int (nI (P - 2)), .int (nI (P - 1)), .int (nI (P * (P - 2)))])) :: (aA, .inl (cQ, n, .inr (.inr (.inr (.inr (fun z8 => some (aTs z8))))))) :: (aL, .inl (cB, P, .inl (fun z9 => bI (lo z9)))) :: (aE, .inr (2, [.ref aS, .ref aEW, .ref aEK, .int un])) :: (aEW, .inl (cI, P * P, .inl tw)) :: (aEK, .inl (cB, P * P, .inl (fun z9 => bI (kn z9)))) :: (stW cI cB aS P aTs aWs aMs w ms mk n)) H := hP
  have hD : va_D A ((aR, .inr (3, [.ref aS, .ref aA, .ref aL, .ref aE, .int (bI pw), .int tn])) :: (aS, .inr (0, [.int (nI P), .int (nI (P - 2)), .int (nI (P - 1)), .int (nI (P * (P - 2)))])) :: (aA, .inl (cQ, n, .inr (.inr (.inr (.inr (fun z8 => some (aTs z8))))))) :: (aL, .inl (cB, P, .inl (fun z9 => bI (lo z9)))) :: (aE, .inr (2, [.ref aS, .ref aEW, .ref aEK, .int un])) :: (aEW, .inl (cI, P * P, .inl tw)) :: (aEK, .inl (cB, P * P, .inl (fun z9 => bI (kn z9)))) :: (stW cI cB aS P aTs aWs aMs w ms mk n)) := hD
  have hp := hp5.le
  have hpp := dr_PP hp5
  have hpq := dr_PP2 hp5
  refine lv_aload_n hx hb dX3_drive_0 rfl (lv_at hl 0 rfl) ?_
  refine lv_iload_n hx hb dX3_drive_1 rfl (lv_at hl 1 rfl) ?_
  refine gV (wr := [(aA, .inl (cQ, n, .inr (.inr (.inr (.inr (fun z8 => some (aTs z8))))))), (aL, .inl (cB, P, .inl (fun z9 => bI (lo z9)))), (aE, .inr (2, [.ref aS, .ref aEW, .ref aEK, .int un])), (aEW, .inl (cI, P * P, .inl tw)), (aEK, .inl (cB, P * P, .inl (fun z9 => bI (kn z9))))]) (pre := [(aR, .inr (3, [.ref aS, .ref aA, .ref aL, .ref aE, .int (bI pw), .int tn])), (aS, .inr (0, [.int (nI P), .int (nI (P - 2)), .int (nI (P - 1)), .int (nI (P * (P - 2)))])), (aA, .inl (cQ, n, .inr (.inr (.inr (.inr (fun z8 => some (aTs z8))))))), (aL, .inl (cB, P, .inl (fun z9 => bI (lo z9)))), (aE, .inr (2, [.ref aS, .ref aEW, .ref aEK, .int un])), (aEW, .inl (cI, P * P, .inl tw)), (aEK, .inl (cB, P * P, .inl (fun z9 => bI (kn z9))))]) (tl := (stW cI cB aS P aTs aWs aMs w ms mk n)) (G := fun (u : Unit) => [(aR, .inr (3, [.ref aS, .ref aA, .ref aL, .ref aE, .int (bI pw), .int tn])), (aS, .inr (0, [.int (nI P), .int (nI (P - 2)), .int (nI (P - 1)), .int (nI (P * (P - 2)))])), (aA, .inl (cQ, n, .inr (.inr (.inr (.inr (fun z8 => some (aTs z8))))))), (aL, .inl (cB, P, .inl (fun z9 => bI (lo z9)))), (aE, .inr (2, [.ref aS, .ref aEW, .ref aEK, .int un])), (aEW, .inl (cI, P * P, .inl tw)), (aEK, .inl (cB, P * P, .inl (fun z9 => bI (kn z9))))]) (b := aR) (As := [.int x]) (rst := []) ⟨hx, hb, hml, hown, hts⟩ (c_isDrive l dC dI cI cB cQ cJ aR aS aA aL aE pw tn P x ) (cwV 1 hts (gdV t_mX3_130 t_inst_X3_isDrive t_sel_X3_isDrive t_ini_X3 t_code_X3_isDrive) rfl rfl rfl (by decide +kernel) ⟨Nat.le_of_ble_eq_true rfl, Nat.le_of_ble_eq_true rfl⟩) hK hP hD hS hA [0, 1] [2, 3, 4, 5, 6] [0, 1, 2, 3, 4, 5, 6] rfl (by decide) (fun _ => rfl) (by decide) (ci := 3) rfl rfl rfl rfl hl.1 rfl (Nat.le_of_ble_eq_true rfl) dX3_drive_2 ⟨Nat.zero_le _, Nat.zero_le _⟩ (fun r u H locs hu1 hP hD hS => ?_)
  have hr2 := hu1
  have hr2 : r = bI (dr_in x P) := hr2
  subst hr2
  have hP : va_P (dC, dI) vwCl ((aR, .inr (3, [.ref aS, .ref aA, .ref aL, .ref aE, .int (bI pw), .int tn])) :: (aS, .inr (0, [.int (nI P), .int (nI (P - 2)), .int (nI (P - 1)), .int (nI (P * (P - 2)))])) :: (aA, .inl (cQ, n, .inr (.inr (.inr (.inr (fun z8 => some (aTs z8))))))) :: (aL, .inl (cB, P, .inl (fun z9 => bI (lo z9)))) :: (aE, .inr (2, [.ref aS, .ref aEW, .ref aEK, .int un])) :: (aEW, .inl (cI, P * P, .inl tw)) :: (aEK, .inl (cB, P * P, .inl (fun z9 => bI (kn z9)))) :: (stW cI cB aS P aTs aWs aMs w ms mk n)) H := hP
  have hD : va_D A ((aR, .inr (3, [.ref aS, .ref aA, .ref aL, .ref aE, .int (bI pw), .int tn])) :: (aS, .inr (0, [.int (nI P), .int (nI (P - 2)), .int (nI (P - 1)), .int (nI (P * (P - 2)))])) :: (aA, .inl (cQ, n, .inr (.inr (.inr (.inr (fun z8 => some (aTs z8))))))) :: (aL, .inl (cB, P, .inl (fun z9 => bI (lo z9)))) :: (aE, .inr (2, [.ref aS, .ref aEW, .ref aEK, .int un])) :: (aEW, .inl (cI, P * P, .inl tw)) :: (aEK, .inl (cB, P * P, .inl (fun z9 => bI (kn z9)))) :: (stW cI cB aS P aTs aWs aMs w ms mk n)) := hD
  refine x_top (show bI (dr_in x P) = bI false from (congrArg bI hc)) ?_
  refine x_ifT (tgt := 10) hx hb dX3_drive_5 (by decide) (fun z9 => by cases z9) (fun _ => ?_)
  refine lv_iconst (v := (-1)) hx hb dX3_drive_8 (by decide) ?_
  exact x_iret (D := (dC, dI)) (cl := vwCl) (A := A) () hQ hx hb hr hlk hP hD hS dX3_drive_9 (by first | rfl | (simp []; done) | (simp []; omega))

abbrev rm_c_drive1 : Room := { frames := 1, cells := 0, slots := 0, locals := 22 }
set_option maxHeartbeats 4000000 in
set_option maxRecDepth 100000 in
theorem c_drive1 (l : Launch) (dC : Nat → ClassId) (dI : Nat → Nat → Nat) (cI cB cQ cJ : ClassId) (aR : Nat) (aS : Nat) (aA : Nat) (aL : Nat) (aE : Nat) (pw : Bool) (tn : Int32) (P : Nat) (n : Nat) (aTs : Nat → Nat) (aWs : Nat → Nat) (aMs : Nat → Nat) (lo : Nat → Bool) (aEW : Nat) (aEK : Nat) (tw : Nat → Int32) (kn : Nat → Bool) (un : Int32) (w : Nat → Nat → Int32) (ms : Nat → Nat → Bool) (mk : Nat → Bool) (d : Nat) (hp5 : dr_P P) (hn : n < 5) (hd : d < P) : MG l yX3_drive (Cond.code yX3_drive cX3_drive 2 (some .int) :: TB) rm_c_drive1 (dC, dI) vwCl (TY cI cB cQ cJ) [.ref aR, .int (nI d)] ((aR, .inr (3, [.ref aS, .ref aA, .ref aL, .ref aE, .int (bI pw), .int tn])) :: (aS, .inr (0, [.int (nI P), .int (nI (P - 2)), .int (nI (P - 1)), .int (nI (P * (P - 2)))])) :: (aA, .inl (cQ, n, .inr (.inr (.inr (.inr (fun z8 => some (aTs z8))))))) :: (aL, .inl (cB, P, .inl (fun z9 => bI (lo z9)))) :: (aE, .inr (2, [.ref aS, .ref aEW, .ref aEK, .int un])) :: (aEW, .inl (cI, P * P, .inl tw)) :: (aEK, .inl (cB, P * P, .inl (fun z9 => bI (kn z9)))) :: (stW cI cB aS P aTs aWs aMs w ms mk n)) (fun (r : Int32) (u : Unit) => r = nI (if lo d = true then 1 else if dr_any (fun s9 => ms s9 d) n = true then 2 else 0)) (fun (u : Unit) => ((aR, .inr (3, [.ref aS, .ref aA, .ref aL, .ref aE, .int (bI pw), .int tn])) :: (aS, .inr (0, [.int (nI P), .int (nI (P - 2)), .int (nI (P - 1)), .int (nI (P * (P - 2)))])) :: (aA, .inl (cQ, n, .inr (.inr (.inr (.inr (fun z8 => some (aTs z8))))))) :: (aL, .inl (cB, P, .inl (fun z9 => bI (lo z9)))) :: (aE, .inr (2, [.ref aS, .ref aEW, .ref aEK, .int un])) :: (aEW, .inl (cI, P * P, .inl tw)) :: (aEK, .inl (cB, P * P, .inl (fun z9 => bI (kn z9)))) :: (stW cI cB aS P aTs aWs aMs w ms mk n))) := by
  refine MG.ofW (cc := cX3_drive) (maxL := 2) (rt := .int) (by decide +kernel) rfl (Nat.le_of_ble_eq_true rfl) ?_
  intro p e s m args below meth c A ls Q H locs hQ hx hb hml hr hlk hts hown hK hP hD hS hA hl
  have hts : ∀ w ∈ TB, w.before args s = true := fun w h => hts w (List.mem_cons_of_mem _ h)
  have hown : s.vm.findClass RX3 = some m.cls := hown
  have hl : lv_has ls 2 [(0, .ref aR), (1, .int (nI d))] := hl
  have hP : va_P (dC, dI) vwCl ((aR, .inr (3, [.ref aS, .ref aA, .ref aL, .ref aE, .int (bI pw), .int tn])) :: (aS, .inr (0, [.int (nI P), .int (nI (P - 2)), .int (nI (P - 1)), .int (nI (P * (P - 2)))])) :: (aA, .inl (cQ, n, .inr (.inr (.inr (.inr (fun z8 => some (aTs z8))))))) :: (aL, .inl (cB, P, .inl (fun z9 => bI (lo z9)))) :: (aE, .inr (2, [.ref aS, .ref aEW, .ref aEK, .int un])) :: (aEW, .inl (cI, P * P, .inl tw)) :: (aEK, .inl (cB, P * P, .inl (fun z9 => bI (kn z9)))) :: (stW cI cB aS P aTs aWs aMs w ms mk n)) H := hP
  have hD : va_D A ((aR, .inr (3, [.ref aS, .ref aA, .ref aL, .ref aE, .int (bI pw), .int tn])) :: (aS, .inr (0, [.int (nI P), .int (nI (P - 2)), .int (nI (P - 1)), .int (nI (P * (P - 2)))])) :: (aA, .inl (cQ, n, .inr (.inr (.inr (.inr (fun z8 => some (aTs z8))))))) :: (aL, .inl (cB, P, .inl (fun z9 => bI (lo z9)))) :: (aE, .inr (2, [.ref aS, .ref aEW, .ref aEK, .int un])) :: (aEW, .inl (cI, P * P, .inl tw)) :: (aEK, .inl (cB, P * P, .inl (fun z9 => bI (kn z9)))) :: (stW cI cB aS P aTs aWs aMs w ms mk n)) := hD
  have hp := hp5.le
  have hpp := dr_PP hp5
  have hpq := dr_PP2 hp5
  refine lv_aload_n hx hb dX3_drive_0 rfl (lv_at hl 0 rfl) ?_
  refine lv_iload_n hx hb dX3_drive_1 rfl (lv_at hl 1 rfl) ?_
  refine gV (wr := [(aA, .inl (cQ, n, .inr (.inr (.inr (.inr (fun z8 => some (aTs z8))))))), (aL, .inl (cB, P, .inl (fun z9 => bI (lo z9)))), (aE, .inr (2, [.ref aS, .ref aEW, .ref aEK, .int un])), (aEW, .inl (cI, P * P, .inl tw)), (aEK, .inl (cB, P * P, .inl (fun z9 => bI (kn z9))))]) (pre := [(aR, .inr (3, [.ref aS, .ref aA, .ref aL, .ref aE, .int (bI pw), .int tn])), (aS, .inr (0, [.int (nI P), .int (nI (P - 2)), .int (nI (P - 1)), .int (nI (P * (P - 2)))])), (aA, .inl (cQ, n, .inr (.inr (.inr (.inr (fun z8 => some (aTs z8))))))), (aL, .inl (cB, P, .inl (fun z9 => bI (lo z9)))), (aE, .inr (2, [.ref aS, .ref aEW, .ref aEK, .int un])), (aEW, .inl (cI, P * P, .inl tw)), (aEK, .inl (cB, P * P, .inl (fun z9 => bI (kn z9))))]) (tl := (stW cI cB aS P aTs aWs aMs w ms mk n)) (G := fun (u : Unit) => [(aR, .inr (3, [.ref aS, .ref aA, .ref aL, .ref aE, .int (bI pw), .int tn])), (aS, .inr (0, [.int (nI P), .int (nI (P - 2)), .int (nI (P - 1)), .int (nI (P * (P - 2)))])), (aA, .inl (cQ, n, .inr (.inr (.inr (.inr (fun z8 => some (aTs z8))))))), (aL, .inl (cB, P, .inl (fun z9 => bI (lo z9)))), (aE, .inr (2, [.ref aS, .ref aEW, .ref aEK, .int un])), (aEW, .inl (cI, P * P, .inl tw)), (aEK, .inl (cB, P * P, .inl (fun z9 => bI (kn z9))))]) (b := aR) (As := [.int (nI d)]) (rst := []) ⟨hx, hb, hml, hown, hts⟩ (c_isDrive l dC dI cI cB cQ cJ aR aS aA aL aE pw tn P (nI d) ) (cwV 1 hts (gdV t_mX3_130 t_inst_X3_isDrive t_sel_X3_isDrive t_ini_X3 t_code_X3_isDrive) rfl rfl rfl (by decide +kernel) ⟨Nat.le_of_ble_eq_true rfl, Nat.le_of_ble_eq_true rfl⟩) hK hP hD hS hA [0, 1] [2, 3, 4, 5, 6] [0, 1, 2, 3, 4, 5, 6] rfl (by decide) (fun _ => rfl) (by decide) (ci := 3) rfl rfl rfl rfl hl.1 rfl (Nat.le_of_ble_eq_true rfl) dX3_drive_2 ⟨Nat.zero_le _, Nat.zero_le _⟩ (fun r u H locs hu1 hP hD hS => ?_)
  have hr2 := hu1
  have hr2 : r = bI (dr_in (nI d) P) := hr2
  subst hr2
  have hP : va_P (dC, dI) vwCl ((aR, .inr (3, [.ref aS, .ref aA, .ref aL, .ref aE, .int (bI pw), .int tn])) :: (aS, .inr (0, [.int (nI P), .int (nI (P - 2)), .int (nI (P - 1)), .int (nI (P * (P - 2)))])) :: (aA, .inl (cQ, n, .inr (.inr (.inr (.inr (fun z8 => some (aTs z8))))))) :: (aL, .inl (cB, P, .inl (fun z9 => bI (lo z9)))) :: (aE, .inr (2, [.ref aS, .ref aEW, .ref aEK, .int un])) :: (aEW, .inl (cI, P * P, .inl tw)) :: (aEK, .inl (cB, P * P, .inl (fun z9 => bI (kn z9)))) :: (stW cI cB aS P aTs aWs aMs w ms mk n)) H := hP
  have hD : va_D A ((aR, .inr (3, [.ref aS, .ref aA, .ref aL, .ref aE, .int (bI pw), .int tn])) :: (aS, .inr (0, [.int (nI P), .int (nI (P - 2)), .int (nI (P - 1)), .int (nI (P * (P - 2)))])) :: (aA, .inl (cQ, n, .inr (.inr (.inr (.inr (fun z8 => some (aTs z8))))))) :: (aL, .inl (cB, P, .inl (fun z9 => bI (lo z9)))) :: (aE, .inr (2, [.ref aS, .ref aEW, .ref aEK, .int un])) :: (aEW, .inl (cI, P * P, .inl tw)) :: (aEK, .inl (cB, P * P, .inl (fun z9 => bI (kn z9)))) :: (stW cI cB aS P aTs aWs aMs w ms mk n)) := hD
  refine x_top (show bI (dr_in (nI d) P) = bI true from (congrArg bI (dr_in_of (by omega) hd))) ?_
  refine x_ifT (tgt := 10) hx hb dX3_drive_5 (by decide) (fun _ => ?_) (fun z9 => by cases z9)
  refine lv_aload_n hx hb dX3_drive_10 rfl (lv_at hl 0 rfl) ?_
  refine va_get (D := (dC, dI)) (ci := 3) (v := .ref aL) (C := RX3) (T := TX3) (N := 6) hx hb hts inX3 hown hK hP 0 rfl rfl 2 (by decide) (hts _ t_fX3_44) (fun _ h9 => h9) rfl dX3_drive_11 ?_
  refine lv_iload_n hx hb dX3_drive_14 rfl (lv_at hl 1 rfl) ?_
  refine x_zald (g := lo) hx hb hK hP 3 1 rfl rfl dX3_drive_15 (by omega) (by omega) ?_
  refine x_ifF (tgt := 21) hx hb dX3_drive_16 (by decide) (fun h16 => ?_) (fun h16 => ?_)
  · -- 16t
    refine lv_aload_n hx hb dX3_drive_21 rfl (lv_at hl 0 rfl) ?_
    refine lv_iload_n hx hb dX3_drive_22 rfl (lv_at hl 1 rfl) ?_
    refine gVt (F := fun (u : Unit) => [(aR, .inr (3, [.ref aS, .ref aA, .ref aL, .ref aE, .int (bI pw), .int tn])), (aA, .inl (cQ, n, .inr (.inr (.inr (.inr (fun z8 => some (aTs z8)))))))]) (wc := [(aR, .inr (3, [.ref aS, .ref aA, .ref aL, .ref aE, .int (bI pw), .int tn])), (aA, .inl (cQ, n, .inr (.inr (.inr (.inr (fun z8 => some (aTs z8)))))))]) (wr := [(aS, .inr (0, [.int (nI P), .int (nI (P - 2)), .int (nI (P - 1)), .int (nI (P * (P - 2)))])), (aL, .inl (cB, P, .inl (fun z9 => bI (lo z9)))), (aE, .inr (2, [.ref aS, .ref aEW, .ref aEK, .int un])), (aEW, .inl (cI, P * P, .inl tw)), (aEK, .inl (cB, P * P, .inl (fun z9 => bI (kn z9))))]) (pre := [(aR, .inr (3, [.ref aS, .ref aA, .ref aL, .ref aE, .int (bI pw), .int tn])), (aS, .inr (0, [.int (nI P), .int (nI (P - 2)), .int (nI (P - 1)), .int (nI (P * (P - 2)))])), (aA, .inl (cQ, n, .inr (.inr (.inr (.inr (fun z8 => some (aTs z8))))))), (aL, .inl (cB, P, .inl (fun z9 => bI (lo z9)))), (aE, .inr (2, [.ref aS, .ref aEW, .ref aEK, .int un])), (aEW, .inl (cI, P * P, .inl tw)), (aEK, .inl (cB, P * P, .inl (fun z9 => bI (kn z9))))]) (tl := (stW cI cB aS P aTs aWs aMs w ms mk n)) (G := fun (u : Unit) => [(aR, .inr (3, [.ref aS, .ref aA, .ref aL, .ref aE, .int (bI pw), .int tn])), (aS, .inr (0, [.int (nI P), .int (nI (P - 2)), .int (nI (P - 1)), .int (nI (P * (P - 2)))])), (aA, .inl (cQ, n, .inr (.inr (.inr (.inr (fun z8 => some (aTs z8))))))), (aL, .inl (cB, P, .inl (fun z9 => bI (lo z9)))), (aE, .inr (2, [.ref aS, .ref aEW, .ref aEK, .int un])), (aEW, .inl (cI, P * P, .inl tw)), (aEK, .inl (cB, P * P, .inl (fun z9 => bI (kn z9))))]) (b := aR) (As := [.int (nI d)]) (rst := []) ⟨hx, hb, hml, hown, hts⟩ (c_misses l dC dI cI cB cQ cJ aR aS aA aL aE pw tn P n aTs aWs aMs w ms mk d hp5 (by omega) (by omega)) (cwV 1 hts (gdV t_mX3_146 t_inst_X3_missesSomeStripe t_sel_X3_missesSomeStripe t_ini_X3 t_code_X3_missesSomeStripe) rfl rfl rfl (by decide +kernel) ⟨Nat.le_of_ble_eq_true rfl, Nat.le_of_ble_eq_true rfl⟩) hK hP hD hS hA [0, 2] [1, 3, 4, 5, 6] [0, 2, 1, 3, 4, 5, 6] rfl (by decide) (fun _ => rfl) (by decide) (ci := 3) rfl rfl rfl rfl hl.1 rfl (Nat.le_of_ble_eq_true rfl) dX3_drive_23 ⟨Nat.zero_le _, Nat.zero_le _⟩ (fun r u H locs hu2 hP hD hS => ?_)
    have hr23 := hu2
    have hr23 : r = bI (dr_any (fun s9 => ms s9 d) n) := hr23
    subst hr23
    have hP : va_P (dC, dI) vwCl ((aR, .inr (3, [.ref aS, .ref aA, .ref aL, .ref aE, .int (bI pw), .int tn])) :: (aS, .inr (0, [.int (nI P), .int (nI (P - 2)), .int (nI (P - 1)), .int (nI (P * (P - 2)))])) :: (aA, .inl (cQ, n, .inr (.inr (.inr (.inr (fun z8 => some (aTs z8))))))) :: (aL, .inl (cB, P, .inl (fun z9 => bI (lo z9)))) :: (aE, .inr (2, [.ref aS, .ref aEW, .ref aEK, .int un])) :: (aEW, .inl (cI, P * P, .inl tw)) :: (aEK, .inl (cB, P * P, .inl (fun z9 => bI (kn z9)))) :: (stW cI cB aS P aTs aWs aMs w ms mk n)) H := hP
    have hD : va_D A ((aR, .inr (3, [.ref aS, .ref aA, .ref aL, .ref aE, .int (bI pw), .int tn])) :: (aS, .inr (0, [.int (nI P), .int (nI (P - 2)), .int (nI (P - 1)), .int (nI (P * (P - 2)))])) :: (aA, .inl (cQ, n, .inr (.inr (.inr (.inr (fun z8 => some (aTs z8))))))) :: (aL, .inl (cB, P, .inl (fun z9 => bI (lo z9)))) :: (aE, .inr (2, [.ref aS, .ref aEW, .ref aEK, .int un])) :: (aEW, .inl (cI, P * P, .inl tw)) :: (aEK, .inl (cB, P * P, .inl (fun z9 => bI (kn z9)))) :: (stW cI cB aS P aTs aWs aMs w ms mk n)) := hD
    refine x_ifF (tgt := 33) hx hb dX3_drive_26 (by decide) (fun h26 => ?_) (fun h26 => ?_)
    · -- 26t
      refine lv_iconst (v := nI 0) hx hb dX3_drive_33 (by decide) ?_
      exact x_iret (D := (dC, dI)) (cl := vwCl) (A := A) () hQ hx hb hr hlk hP hD hS dX3_drive_34 (by first | rfl | (simp [h16, h26]; done) | (simp [h16, h26]; omega))
    · -- 26f
      refine lv_iconst (v := nI 2) hx hb dX3_drive_29 (by decide) ?_
      refine lv_goto (tgt := 34) hx hb dX3_drive_30 (by decide) ?_
      exact x_iret (D := (dC, dI)) (cl := vwCl) (A := A) () hQ hx hb hr hlk hP hD hS dX3_drive_34 (by first | rfl | (simp [h16, h26]; done) | (simp [h16, h26]; omega))
  · -- 16f
    refine lv_iconst (v := nI 1) hx hb dX3_drive_19 (by decide) ?_
    exact x_iret (D := (dC, dI)) (cl := vwCl) (A := A) () hQ hx hb hr hlk hP hD hS dX3_drive_20 (by first | rfl | (simp [h16]; done) | (simp [h16]; omega))

abbrev rm_c_stripe0 : Room := { frames := 1, cells := 0, slots := 0, locals := 21 }
set_option maxHeartbeats 4000000 in
set_option maxRecDepth 100000 in
theorem c_stripe0 (l : Launch) (dC : Nat → ClassId) (dI : Nat → Nat → Nat) (cI cB cQ cJ : ClassId) (aR : Nat) (aS : Nat) (aA : Nat) (aL : Nat) (aE : Nat) (pw : Bool) (tn : Int32) (P : Nat) (n : Nat) (aTs : Nat → Nat) (aWs : Nat → Nat) (aMs : Nat → Nat) (lo : Nat → Bool) (aEW : Nat) (aEK : Nat) (tw : Nat → Int32) (kn : Nat → Bool) (un : Int32) (w : Nat → Nat → Int32) (ms : Nat → Nat → Bool) (mk : Nat → Bool) (x : Int32) (hp5 : dr_P P) (hn : n < 5) (hc : dr_in x n = false) : MG l yX3_stripe (Cond.code yX3_stripe cX3_stripe 2 (some .int) :: TB) rm_c_stripe0 (dC, dI) vwCl (TY cI cB cQ cJ) [.ref aR, .int x] ((aR, .inr (3, [.ref aS, .ref aA, .ref aL, .ref aE, .int (bI pw), .int tn])) :: (aS, .inr (0, [.int (nI P), .int (nI (P - 2)), .int (nI (P - 1)), .int (nI (P * (P - 2)))])) :: (aA, .inl (cQ, n, .inr (.inr (.inr (.inr (fun z8 => some (aTs z8))))))) :: (aL, .inl (cB, P, .inl (fun z9 => bI (lo z9)))) :: (aE, .inr (2, [.ref aS, .ref aEW, .ref aEK, .int un])) :: (aEW, .inl (cI, P * P, .inl tw)) :: (aEK, .inl (cB, P * P, .inl (fun z9 => bI (kn z9)))) :: (stW cI cB aS P aTs aWs aMs w ms mk n)) (fun (r : Int32) (u : Unit) => r = (-1)) (fun (u : Unit) => ((aR, .inr (3, [.ref aS, .ref aA, .ref aL, .ref aE, .int (bI pw), .int tn])) :: (aS, .inr (0, [.int (nI P), .int (nI (P - 2)), .int (nI (P - 1)), .int (nI (P * (P - 2)))])) :: (aA, .inl (cQ, n, .inr (.inr (.inr (.inr (fun z8 => some (aTs z8))))))) :: (aL, .inl (cB, P, .inl (fun z9 => bI (lo z9)))) :: (aE, .inr (2, [.ref aS, .ref aEW, .ref aEK, .int un])) :: (aEW, .inl (cI, P * P, .inl tw)) :: (aEK, .inl (cB, P * P, .inl (fun z9 => bI (kn z9)))) :: (stW cI cB aS P aTs aWs aMs w ms mk n))) := by
  refine MG.ofW (cc := cX3_stripe) (maxL := 2) (rt := .int) (by decide +kernel) rfl (Nat.le_of_ble_eq_true rfl) ?_
  intro p e s m args below meth c A ls Q H locs hQ hx hb hml hr hlk hts hown hK hP hD hS hA hl
  have hts : ∀ w ∈ TB, w.before args s = true := fun w h => hts w (List.mem_cons_of_mem _ h)
  have hown : s.vm.findClass RX3 = some m.cls := hown
  have hl : lv_has ls 2 [(0, .ref aR), (1, .int x)] := hl
  have hP : va_P (dC, dI) vwCl ((aR, .inr (3, [.ref aS, .ref aA, .ref aL, .ref aE, .int (bI pw), .int tn])) :: (aS, .inr (0, [.int (nI P), .int (nI (P - 2)), .int (nI (P - 1)), .int (nI (P * (P - 2)))])) :: (aA, .inl (cQ, n, .inr (.inr (.inr (.inr (fun z8 => some (aTs z8))))))) :: (aL, .inl (cB, P, .inl (fun z9 => bI (lo z9)))) :: (aE, .inr (2, [.ref aS, .ref aEW, .ref aEK, .int un])) :: (aEW, .inl (cI, P * P, .inl tw)) :: (aEK, .inl (cB, P * P, .inl (fun z9 => bI (kn z9)))) :: (stW cI cB aS P aTs aWs aMs w ms mk n)) H := hP
  have hD : va_D A ((aR, .inr (3, [.ref aS, .ref aA, .ref aL, .ref aE, .int (bI pw), .int tn])) :: (aS, .inr (0, [.int (nI P), .int (nI (P - 2)), .int (nI (P - 1)), .int (nI (P * (P - 2)))])) :: (aA, .inl (cQ, n, .inr (.inr (.inr (.inr (fun z8 => some (aTs z8))))))) :: (aL, .inl (cB, P, .inl (fun z9 => bI (lo z9)))) :: (aE, .inr (2, [.ref aS, .ref aEW, .ref aEK, .int un])) :: (aEW, .inl (cI, P * P, .inl tw)) :: (aEK, .inl (cB, P * P, .inl (fun z9 => bI (kn z9)))) :: (stW cI cB aS P aTs aWs aMs w ms mk n)) := hD
  have hp := hp5.le
  have hpp := dr_PP hp5
  have hpq := dr_PP2 hp5
  refine lv_aload_n hx hb dX3_stripe_0 rfl (lv_at hl 0 rfl) ?_
  refine lv_iload_n hx hb dX3_stripe_1 rfl (lv_at hl 1 rfl) ?_
  refine gV (wr := [(aS, .inr (0, [.int (nI P), .int (nI (P - 2)), .int (nI (P - 1)), .int (nI (P * (P - 2)))])), (aL, .inl (cB, P, .inl (fun z9 => bI (lo z9)))), (aE, .inr (2, [.ref aS, .ref aEW, .ref aEK, .int un])), (aEW, .inl (cI, P * P, .inl tw)), (aEK, .inl (cB, P * P, .inl (fun z9 => bI (kn z9))))]) (pre := [(aR, .inr (3, [.ref aS, .ref aA, .ref aL, .ref aE, .int (bI pw), .int tn])), (aS, .inr (0, [.int (nI P), .int (nI (P - 2)), .int (nI (P - 1)), .int (nI (P * (P - 2)))])), (aA, .inl (cQ, n, .inr (.inr (.inr (.inr (fun z8 => some (aTs z8))))))), (aL, .inl (cB, P, .inl (fun z9 => bI (lo z9)))), (aE, .inr (2, [.ref aS, .ref aEW, .ref aEK, .int un])), (aEW, .inl (cI, P * P, .inl tw)), (aEK, .inl (cB, P * P, .inl (fun z9 => bI (kn z9))))]) (tl := (stW cI cB aS P aTs aWs aMs w ms mk n)) (G := fun (u : Unit) => [(aR, .inr (3, [.ref aS, .ref aA, .ref aL, .ref aE, .int (bI pw), .int tn])), (aS, .inr (0, [.int (nI P), .int (nI (P - 2)), .int (nI (P - 1)), .int (nI (P * (P - 2)))])), (aA, .inl (cQ, n, .inr (.inr (.inr (.inr (fun z8 => some (aTs z8))))))), (aL, .inl (cB, P, .inl (fun z9 => bI (lo z9)))), (aE, .inr (2, [.ref aS, .ref aEW, .ref aEK, .int un])), (aEW, .inl (cI, P * P, .inl tw)), (aEK, .inl (cB, P * P, .inl (fun z9 => bI (kn z9))))]) (b := aR) (As := [.int x]) (rst := []) ⟨hx, hb, hml, hown, hts⟩ (c_isStripe l dC dI cI cB cQ cJ aR aS aA aL aE pw tn n aTs x ) (cwV 1 hts (gdV t_mX3_149 t_inst_X3_isStripe t_sel_X3_isStripe t_ini_X3 t_code_X3_isStripe) rfl rfl rfl (by decide +kernel) ⟨Nat.le_of_ble_eq_true rfl, Nat.le_of_ble_eq_true rfl⟩) hK hP hD hS hA [0, 2] [1, 3, 4, 5, 6] [0, 2, 1, 3, 4, 5, 6] rfl (by decide) (fun _ => rfl) (by decide) (ci := 3) rfl rfl rfl rfl hl.1 rfl (Nat.le_of_ble_eq_true rfl) dX3_stripe_2 ⟨Nat.zero_le _, Nat.zero_le _⟩ (fun r u H locs hu1 hP hD hS => ?_)
  have hr2 := hu1
  have hr2 : r = bI (dr_in x n) := hr2
  subst hr2
  have hP : va_P (dC, dI) vwCl ((aR, .inr (3, [.ref aS, .ref aA, .ref aL, .ref aE, .int (bI pw), .int tn])) :: (aS, .inr (0, [.int (nI P), .int (nI (P - 2)), .int (nI (P - 1)), .int (nI (P * (P - 2)))])) :: (aA, .inl (cQ, n, .inr (.inr (.inr (.inr (fun z8 => some (aTs z8))))))) :: (aL, .inl (cB, P, .inl (fun z9 => bI (lo z9)))) :: (aE, .inr (2, [.ref aS, .ref aEW, .ref aEK, .int un])) :: (aEW, .inl (cI, P * P, .inl tw)) :: (aEK, .inl (cB, P * P, .inl (fun z9 => bI (kn z9)))) :: (stW cI cB aS P aTs aWs aMs w ms mk n)) H := hP
  have hD : va_D A ((aR, .inr (3, [.ref aS, .ref aA, .ref aL, .ref aE, .int (bI pw), .int tn])) :: (aS, .inr (0, [.int (nI P), .int (nI (P - 2)), .int (nI (P - 1)), .int (nI (P * (P - 2)))])) :: (aA, .inl (cQ, n, .inr (.inr (.inr (.inr (fun z8 => some (aTs z8))))))) :: (aL, .inl (cB, P, .inl (fun z9 => bI (lo z9)))) :: (aE, .inr (2, [.ref aS, .ref aEW, .ref aEK, .int un])) :: (aEW, .inl (cI, P * P, .inl tw)) :: (aEK, .inl (cB, P * P, .inl (fun z9 => bI (kn z9)))) :: (stW cI cB aS P aTs aWs aMs w ms mk n)) := hD
  refine x_top (show bI (dr_in x n) = bI false from (congrArg bI hc)) ?_
  refine x_ifT (tgt := 10) hx hb dX3_stripe_5 (by decide) (fun z9 => by cases z9) (fun _ => ?_)
  refine lv_iconst (v := (-1)) hx hb dX3_stripe_8 (by decide) ?_
  exact x_iret (D := (dC, dI)) (cl := vwCl) (A := A) () hQ hx hb hr hlk hP hD hS dX3_stripe_9 (by first | rfl | (simp []; done) | (simp []; omega))

abbrev rm_c_stripe1 : Room := { frames := 2, cells := 0, slots := 0, locals := 42 }
set_option maxHeartbeats 4000000 in
set_option maxRecDepth 100000 in
theorem c_stripe1 (l : Launch) (dC : Nat → ClassId) (dI : Nat → Nat → Nat) (cI cB cQ cJ : ClassId) (aR : Nat) (aS : Nat) (aA : Nat) (aL : Nat) (aE : Nat) (pw : Bool) (tn : Int32) (P : Nat) (n : Nat) (aTs : Nat → Nat) (aWs : Nat → Nat) (aMs : Nat → Nat) (lo : Nat → Bool) (aEW : Nat) (aEK : Nat) (tw : Nat → Int32) (kn : Nat → Bool) (un : Int32) (w : Nat → Nat → Int32) (ms : Nat → Nat → Bool) (mk : Nat → Bool) (q : Nat) (hp5 : dr_P P) (hn : n < 5) (hq : q < n) : MG l yX3_stripe (Cond.code yX3_stripe cX3_stripe 2 (some .int) :: TB) rm_c_stripe1 (dC, dI) vwCl (TY cI cB cQ cJ) [.ref aR, .int (nI q)] ((aR, .inr (3, [.ref aS, .ref aA, .ref aL, .ref aE, .int (bI pw), .int tn])) :: (aS, .inr (0, [.int (nI P), .int (nI (P - 2)), .int (nI (P - 1)), .int (nI (P * (P - 2)))])) :: (aA, .inl (cQ, n, .inr (.inr (.inr (.inr (fun z8 => some (aTs z8))))))) :: (aL, .inl (cB, P, .inl (fun z9 => bI (lo z9)))) :: (aE, .inr (2, [.ref aS, .ref aEW, .ref aEK, .int un])) :: (aEW, .inl (cI, P * P, .inl tw)) :: (aEK, .inl (cB, P * P, .inl (fun z9 => bI (kn z9)))) :: (stW cI cB aS P aTs aWs aMs w ms mk n)) (fun (r : Int32) (u : Unit) => r = nI (if (mk q && decide (0 < dr_cnt (ms q) P)) = true then 2 else if mk q = true then 1 else 0)) (fun (u : Unit) => ((aR, .inr (3, [.ref aS, .ref aA, .ref aL, .ref aE, .int (bI pw), .int tn])) :: (aS, .inr (0, [.int (nI P), .int (nI (P - 2)), .int (nI (P - 1)), .int (nI (P * (P - 2)))])) :: (aA, .inl (cQ, n, .inr (.inr (.inr (.inr (fun z8 => some (aTs z8))))))) :: (aL, .inl (cB, P, .inl (fun z9 => bI (lo z9)))) :: (aE, .inr (2, [.ref aS, .ref aEW, .ref aEK, .int un])) :: (aEW, .inl (cI, P * P, .inl tw)) :: (aEK, .inl (cB, P * P, .inl (fun z9 => bI (kn z9)))) :: (stW cI cB aS P aTs aWs aMs w ms mk n))) := by
  refine MG.ofW (cc := cX3_stripe) (maxL := 2) (rt := .int) (by decide +kernel) rfl (Nat.le_of_ble_eq_true rfl) ?_
  intro p e s m args below meth c A ls Q H locs hQ hx hb hml hr hlk hts hown hK hP hD hS hA hl
  have hts : ∀ w ∈ TB, w.before args s = true := fun w h => hts w (List.mem_cons_of_mem _ h)
  have hown : s.vm.findClass RX3 = some m.cls := hown
  have hl : lv_has ls 2 [(0, .ref aR), (1, .int (nI q))] := hl
  have hP : va_P (dC, dI) vwCl ((aR, .inr (3, [.ref aS, .ref aA, .ref aL, .ref aE, .int (bI pw), .int tn])) :: (aS, .inr (0, [.int (nI P), .int (nI (P - 2)), .int (nI (P - 1)), .int (nI (P * (P - 2)))])) :: (aA, .inl (cQ, n, .inr (.inr (.inr (.inr (fun z8 => some (aTs z8))))))) :: (aL, .inl (cB, P, .inl (fun z9 => bI (lo z9)))) :: (aE, .inr (2, [.ref aS, .ref aEW, .ref aEK, .int un])) :: (aEW, .inl (cI, P * P, .inl tw)) :: (aEK, .inl (cB, P * P, .inl (fun z9 => bI (kn z9)))) :: (stW cI cB aS P aTs aWs aMs w ms mk n)) H := hP
  have hD : va_D A ((aR, .inr (3, [.ref aS, .ref aA, .ref aL, .ref aE, .int (bI pw), .int tn])) :: (aS, .inr (0, [.int (nI P), .int (nI (P - 2)), .int (nI (P - 1)), .int (nI (P * (P - 2)))])) :: (aA, .inl (cQ, n, .inr (.inr (.inr (.inr (fun z8 => some (aTs z8))))))) :: (aL, .inl (cB, P, .inl (fun z9 => bI (lo z9)))) :: (aE, .inr (2, [.ref aS, .ref aEW, .ref aEK, .int un])) :: (aEW, .inl (cI, P * P, .inl tw)) :: (aEK, .inl (cB, P * P, .inl (fun z9 => bI (kn z9)))) :: (stW cI cB aS P aTs aWs aMs w ms mk n)) := hD
  have hp := hp5.le
  have hpp := dr_PP hp5
  have hpq := dr_PP2 hp5
  refine lv_aload_n hx hb dX3_stripe_0 rfl (lv_at hl 0 rfl) ?_
  refine lv_iload_n hx hb dX3_stripe_1 rfl (lv_at hl 1 rfl) ?_
  refine gV (wr := [(aS, .inr (0, [.int (nI P), .int (nI (P - 2)), .int (nI (P - 1)), .int (nI (P * (P - 2)))])), (aL, .inl (cB, P, .inl (fun z9 => bI (lo z9)))), (aE, .inr (2, [.ref aS, .ref aEW, .ref aEK, .int un])), (aEW, .inl (cI, P * P, .inl tw)), (aEK, .inl (cB, P * P, .inl (fun z9 => bI (kn z9))))]) (pre := [(aR, .inr (3, [.ref aS, .ref aA, .ref aL, .ref aE, .int (bI pw), .int tn])), (aS, .inr (0, [.int (nI P), .int (nI (P - 2)), .int (nI (P - 1)), .int (nI (P * (P - 2)))])), (aA, .inl (cQ, n, .inr (.inr (.inr (.inr (fun z8 => some (aTs z8))))))), (aL, .inl (cB, P, .inl (fun z9 => bI (lo z9)))), (aE, .inr (2, [.ref aS, .ref aEW, .ref aEK, .int un])), (aEW, .inl (cI, P * P, .inl tw)), (aEK, .inl (cB, P * P, .inl (fun z9 => bI (kn z9))))]) (tl := (stW cI cB aS P aTs aWs aMs w ms mk n)) (G := fun (u : Unit) => [(aR, .inr (3, [.ref aS, .ref aA, .ref aL, .ref aE, .int (bI pw), .int tn])), (aS, .inr (0, [.int (nI P), .int (nI (P - 2)), .int (nI (P - 1)), .int (nI (P * (P - 2)))])), (aA, .inl (cQ, n, .inr (.inr (.inr (.inr (fun z8 => some (aTs z8))))))), (aL, .inl (cB, P, .inl (fun z9 => bI (lo z9)))), (aE, .inr (2, [.ref aS, .ref aEW, .ref aEK, .int un])), (aEW, .inl (cI, P * P, .inl tw)), (aEK, .inl (cB, P * P, .inl (fun z9 => bI (kn z9))))]) (b := aR) (As := [.int (nI q)]) (rst := []) ⟨hx, hb, hml, hown, hts⟩ (c_isStripe l dC dI cI cB cQ cJ aR aS aA aL aE pw tn n aTs (nI q) ) (cwV 1 hts (gdV t_mX3_149 t_inst_X3_isStripe t_sel_X3_isStripe t_ini_X3 t_code_X3_isStripe) rfl rfl rfl (by decide +kernel) ⟨Nat.le_of_ble_eq_true rfl, Nat.le_of_ble_eq_true rfl⟩) hK hP hD hS hA [0, 2] [1, 3, 4, 5, 6] [0, 2, 1, 3, 4, 5, 6] rfl (by decide) (fun _ => rfl) (by decide) (ci := 3) rfl rfl rfl rfl hl.1 rfl (Nat.le_of_ble_eq_true rfl) dX3_stripe_2 ⟨Nat.zero_le _, Nat.zero_le _⟩ (fun r u H locs hu1 hP hD hS => ?_)
  have hr2 := hu1
  have hr2 : r = bI (dr_in (nI q) n) := hr2
  subst hr2
  have hP : va_P (dC, dI) vwCl ((aR, .inr (3, [.ref aS, .ref aA, .ref aL, .ref aE, .int (bI pw), .int tn])) :: (aS, .inr (0, [.int (nI P), .int (nI (P - 2)), .int (nI (P - 1)), .int (nI (P * (P - 2)))])) :: (aA, .inl (cQ, n, .inr (.inr (.inr (.inr (fun z8 => some (aTs z8))))))) :: (aL, .inl (cB, P, .inl (fun z9 => bI (lo z9)))) :: (aE, .inr (2, [.ref aS, .ref aEW, .ref aEK, .int un])) :: (aEW, .inl (cI, P * P, .inl tw)) :: (aEK, .inl (cB, P * P, .inl (fun z9 => bI (kn z9)))) :: (stW cI cB aS P aTs aWs aMs w ms mk n)) H := hP
  have hD : va_D A ((aR, .inr (3, [.ref aS, .ref aA, .ref aL, .ref aE, .int (bI pw), .int tn])) :: (aS, .inr (0, [.int (nI P), .int (nI (P - 2)), .int (nI (P - 1)), .int (nI (P * (P - 2)))])) :: (aA, .inl (cQ, n, .inr (.inr (.inr (.inr (fun z8 => some (aTs z8))))))) :: (aL, .inl (cB, P, .inl (fun z9 => bI (lo z9)))) :: (aE, .inr (2, [.ref aS, .ref aEW, .ref aEK, .int un])) :: (aEW, .inl (cI, P * P, .inl tw)) :: (aEK, .inl (cB, P * P, .inl (fun z9 => bI (kn z9)))) :: (stW cI cB aS P aTs aWs aMs w ms mk n)) := hD
  refine x_top (show bI (dr_in (nI q) n) = bI true from (congrArg bI (dr_in_of (by omega) hq))) ?_
  refine x_ifT (tgt := 10) hx hb dX3_stripe_5 (by decide) (fun _ => ?_) (fun z9 => by cases z9)
  refine lv_aload_n hx hb dX3_stripe_10 rfl (lv_at hl 0 rfl) ?_
  refine va_get (D := (dC, dI)) (ci := 3) (v := .ref aA) (C := RX3) (T := TX3) (N := 6) hx hb hts inX3 hown hK hP 0 rfl rfl 1 (by decide) (hts _ t_fX3_36) (fun _ h9 => h9) rfl dX3_stripe_11 ?_
  refine lv_iload_n hx hb dX3_stripe_14 rfl (lv_at hl 1 rfl) ?_
  refine x_aald (q := aTs q) hx hb hK hP 2 2 rfl rfl dX3_stripe_15 (by omega) (by omega) rfl ?_
  have hP := foc_P (pre := [(aR, .inr (3, [.ref aS, .ref aA, .ref aL, .ref aE, .int (bI pw), .int tn])), (aS, .inr (0, [.int (nI P), .int (nI (P - 2)), .int (nI (P - 1)), .int (nI (P * (P - 2)))])), (aA, .inl (cQ, n, .inr (.inr (.inr (.inr (fun z8 => some (aTs z8))))))), (aL, .inl (cB, P, .inl (fun z9 => bI (lo z9)))), (aE, .inr (2, [.ref aS, .ref aEW, .ref aEK, .int un])), (aEW, .inl (cI, P * P, .inl tw)), (aEK, .inl (cB, P * P, .inl (fun z9 => bI (kn z9))))]) (s := q) hP hq
  have hD := foc_D (pre := [(aR, .inr (3, [.ref aS, .ref aA, .ref aL, .ref aE, .int (bI pw), .int tn])), (aS, .inr (0, [.int (nI P), .int (nI (P - 2)), .int (nI (P - 1)), .int (nI (P * (P - 2)))])), (aA, .inl (cQ, n, .inr (.inr (.inr (.inr (fun z8 => some (aTs z8))))))), (aL, .inl (cB, P, .inl (fun z9 => bI (lo z9)))), (aE, .inr (2, [.ref aS, .ref aEW, .ref aEK, .int un])), (aEW, .inl (cI, P * P, .inl tw)), (aEK, .inl (cB, P * P, .inl (fun z9 => bI (kn z9))))]) (s := q) hD hq
  have hP : va_P (dC, dI) vwCl ((aR, .inr (3, [.ref aS, .ref aA, .ref aL, .ref aE, .int (bI pw), .int tn])) :: (aS, .inr (0, [.int (nI P), .int (nI (P - 2)), .int (nI (P - 1)), .int (nI (P * (P - 2)))])) :: (aA, .inl (cQ, n, .inr (.inr (.inr (.inr (fun z8 => some (aTs z8))))))) :: (aL, .inl (cB, P, .inl (fun z9 => bI (lo z9)))) :: (aE, .inr (2, [.ref aS, .ref aEW, .ref aEK, .int un])) :: (aEW, .inl (cI, P * P, .inl tw)) :: (aEK, .inl (cB, P * P, .inl (fun z9 => bI (kn z9)))) :: (aTs q, .inr (1, [.ref aS, .ref (aWs q), .ref (aMs q), .int (bI (mk q))])) :: (aWs q, .inl (cI, P * P, .inl (w q))) :: (aMs q, .inl (cB, P, .inl (fun z9 => bI ((ms q) z9)))) :: (stO cI cB aS P aTs aWs aMs w ms mk n q)) H := hP
  have hD : va_D A ((aR, .inr (3, [.ref aS, .ref aA, .ref aL, .ref aE, .int (bI pw), .int tn])) :: (aS, .inr (0, [.int (nI P), .int (nI (P - 2)), .int (nI (P - 1)), .int (nI (P * (P - 2)))])) :: (aA, .inl (cQ, n, .inr (.inr (.inr (.inr (fun z8 => some (aTs z8))))))) :: (aL, .inl (cB, P, .inl (fun z9 => bI (lo z9)))) :: (aE, .inr (2, [.ref aS, .ref aEW, .ref aEK, .int un])) :: (aEW, .inl (cI, P * P, .inl tw)) :: (aEK, .inl (cB, P * P, .inl (fun z9 => bI (kn z9)))) :: (aTs q, .inr (1, [.ref aS, .ref (aWs q), .ref (aMs q), .int (bI (mk q))])) :: (aWs q, .inl (cI, P * P, .inl (w q))) :: (aMs q, .inl (cB, P, .inl (fun z9 => bI ((ms q) z9)))) :: (stO cI cB aS P aTs aWs aMs w ms mk n q)) := hD
  refine gV (wr := [(aR, .inr (3, [.ref aS, .ref aA, .ref aL, .ref aE, .int (bI pw), .int tn])), (aA, .inl (cQ, n, .inr (.inr (.inr (.inr (fun z8 => some (aTs z8))))))), (aL, .inl (cB, P, .inl (fun z9 => bI (lo z9)))), (aE, .inr (2, [.ref aS, .ref aEW, .ref aEK, .int un])), (aEW, .inl (cI, P * P, .inl tw)), (aEK, .inl (cB, P * P, .inl (fun z9 => bI (kn z9))))]) (pre := [(aR, .inr (3, [.ref aS, .ref aA, .ref aL, .ref aE, .int (bI pw), .int tn])), (aS, .inr (0, [.int (nI P), .int (nI (P - 2)), .int (nI (P - 1)), .int (nI (P * (P - 2)))])), (aA, .inl (cQ, n, .inr (.inr (.inr (.inr (fun z8 => some (aTs z8))))))), (aL, .inl (cB, P, .inl (fun z9 => bI (lo z9)))), (aE, .inr (2, [.ref aS, .ref aEW, .ref aEK, .int un])), (aEW, .inl (cI, P * P, .inl tw)), (aEK, .inl (cB, P * P, .inl (fun z9 => bI (kn z9)))), (aTs q, .inr (1, [.ref aS, .ref (aWs q), .ref (aMs q), .int (bI (mk q))])), (aWs q, .inl (cI, P * P, .inl (w q))), (aMs q, .inl (cB, P, .inl (fun z9 => bI ((ms q) z9))))]) (tl := (stO cI cB aS P aTs aWs aMs w ms mk n q)) (G := fun (u : Unit) => [(aR, .inr (3, [.ref aS, .ref aA, .ref aL, .ref aE, .int (bI pw), .int tn])), (aS, .inr (0, [.int (nI P), .int (nI (P - 2)), .int (nI (P - 1)), .int (nI (P * (P - 2)))])), (aA, .inl (cQ, n, .inr (.inr (.inr (.inr (fun z8 => some (aTs z8))))))), (aL, .inl (cB, P, .inl (fun z9 => bI (lo z9)))), (aE, .inr (2, [.ref aS, .ref aEW, .ref aEK, .int un])), (aEW, .inl (cI, P * P, .inl tw)), (aEK, .inl (cB, P * P, .inl (fun z9 => bI (kn z9)))), (aTs q, .inr (1, [.ref aS, .ref (aWs q), .ref (aMs q), .int (bI (mk q))])), (aWs q, .inl (cI, P * P, .inl (w q))), (aMs q, .inl (cB, P, .inl (fun z9 => bI ((ms q) z9))))]) (b := aTs q) (As := []) (rst := []) ⟨hx, hb, hml, hown, hts⟩ (c_unsure l dC dI cI cB cQ cJ (aTs q) aS (aWs q) (aMs q) P (w q) (ms q) (mk q) hp5) (cwV 0 hts (gdV t_mX3_76 t_inst_X1_isUnsure t_sel_X1_isUnsure t_ini_X1 t_code_X1_isUnsure) rfl rfl rfl (by decide +kernel) ⟨Nat.le_of_ble_eq_true rfl, Nat.le_of_ble_eq_true rfl⟩) hK hP hD hS hA [7, 8, 9, 1] [0, 2, 3, 4, 5, 6] [4, 3, 5, 6, 7, 8, 9, 0, 1, 2] rfl (by decide) (fun _ => rfl) (by decide) (ci := 1) rfl rfl rfl rfl hl.1 rfl (Nat.le_of_ble_eq_true rfl) dX3_stripe_16 ⟨Nat.zero_le _, Nat.zero_le _⟩ (fun r u H locs hu2 hP hD hS => ?_)
  have hr16 := hu2
  have hr16 : r = bI ((mk q) && decide (0 < dr_cnt (ms q) P)) := hr16
  subst hr16
  have hP : va_P (dC, dI) vwCl ((aR, .inr (3, [.ref aS, .ref aA, .ref aL, .ref aE, .int (bI pw), .int tn])) :: (aS, .inr (0, [.int (nI P), .int (nI (P - 2)), .int (nI (P - 1)), .int (nI (P * (P - 2)))])) :: (aA, .inl (cQ, n, .inr (.inr (.inr (.inr (fun z8 => some (aTs z8))))))) :: (aL, .inl (cB, P, .inl (fun z9 => bI (lo z9)))) :: (aE, .inr (2, [.ref aS, .ref aEW, .ref aEK, .int un])) :: (aEW, .inl (cI, P * P, .inl tw)) :: (aEK, .inl (cB, P * P, .inl (fun z9 => bI (kn z9)))) :: (aTs q, .inr (1, [.ref aS, .ref (aWs q), .ref (aMs q), .int (bI (mk q))])) :: (aWs q, .inl (cI, P * P, .inl (w q))) :: (aMs q, .inl (cB, P, .inl (fun z9 => bI ((ms q) z9)))) :: (stO cI cB aS P aTs aWs aMs w ms mk n q)) H := hP
  have hD : va_D A ((aR, .inr (3, [.ref aS, .ref aA, .ref aL, .ref aE, .int (bI pw), .int tn])) :: (aS, .inr (0, [.int (nI P), .int (nI (P - 2)), .int (nI (P - 1)), .int (nI (P * (P - 2)))])) :: (aA, .inl (cQ, n, .inr (.inr (.inr (.inr (fun z8 => some (aTs z8))))))) :: (aL, .inl (cB, P, .inl (fun z9 => bI (lo z9)))) :: (aE, .inr (2, [.ref aS, .ref aEW, .ref aEK, .int un])) :: (aEW, .inl (cI, P * P, .inl tw)) :: (aEK, .inl (cB, P * P, .inl (fun z9 => bI (kn z9)))) :: (aTs q, .inr (1, [.ref aS, .ref (aWs q), .ref (aMs q), .int (bI (mk q))])) :: (aWs q, .inl (cI, P * P, .inl (w q))) :: (aMs q, .inl (cB, P, .inl (fun z9 => bI ((ms q) z9)))) :: (stO cI cB aS P aTs aWs aMs w ms mk n q)) := hD
  refine x_ifF (tgt := 24) hx hb dX3_stripe_19 (by decide) (fun h19 => ?_) (fun h19 => ?_)
  · -- 19t
    refine lv_aload_n hx hb dX3_stripe_24 rfl (lv_at hl 0 rfl) ?_
    refine va_get (D := (dC, dI)) (ci := 3) (v := .ref aA) (C := RX3) (T := TX3) (N := 6) hx hb hts inX3 hown hK hP 0 rfl rfl 1 (by decide) (hts _ t_fX3_36) (fun _ h9 => h9) rfl dX3_stripe_25 ?_
    refine lv_iload_n hx hb dX3_stripe_28 rfl (lv_at hl 1 rfl) ?_
    refine x_aald (q := aTs q) hx hb hK hP 2 2 rfl rfl dX3_stripe_29 (by omega) (by omega) rfl ?_
    refine va_get (D := (dC, dI)) (ci := 1) (v := .int (bI (mk q))) (C := RX1) (T := TX1) (N := 4) hx hb hts inX1 hown hK hP 7 rfl rfl 3 (by decide) (hts _ t_fX3_93) (fun _ h9 => h9) rfl dX3_stripe_30 ?_
    refine x_ifF (tgt := 40) hx hb dX3_stripe_33 (by decide) (fun h33 => ?_) (fun h33 => ?_)
    · -- 33t
      have hP := unf0_P (pre := [(aR, .inr (3, [.ref aS, .ref aA, .ref aL, .ref aE, .int (bI pw), .int tn])), (aS, .inr (0, [.int (nI P), .int (nI (P - 2)), .int (nI (P - 1)), .int (nI (P * (P - 2)))])), (aA, .inl (cQ, n, .inr (.inr (.inr (.inr (fun z8 => some (aTs z8))))))), (aL, .inl (cB, P, .inl (fun z9 => bI (lo z9)))), (aE, .inr (2, [.ref aS, .ref aEW, .ref aEK, .int un])), (aEW, .inl (cI, P * P, .inl tw)), (aEK, .inl (cB, P * P, .inl (fun z9 => bI (kn z9))))]) (s := q) hP hq
      have hD := unf0_D (pre := [(aR, .inr (3, [.ref aS, .ref aA, .ref aL, .ref aE, .int (bI pw), .int tn])), (aS, .inr (0, [.int (nI P), .int (nI (P - 2)), .int (nI (P - 1)), .int (nI (P * (P - 2)))])), (aA, .inl (cQ, n, .inr (.inr (.inr (.inr (fun z8 => some (aTs z8))))))), (aL, .inl (cB, P, .inl (fun z9 => bI (lo z9)))), (aE, .inr (2, [.ref aS, .ref aEW, .ref aEK, .int un])), (aEW, .inl (cI, P * P, .inl tw)), (aEK, .inl (cB, P * P, .inl (fun z9 => bI (kn z9))))]) (s := q) hD hq
      have hP : va_P (dC, dI) vwCl ((aR, .inr (3, [.ref aS, .ref aA, .ref aL, .ref aE, .int (bI pw), .int tn])) :: (aS, .inr (0, [.int (nI P), .int (nI (P - 2)), .int (nI (P - 1)), .int (nI (P * (P - 2)))])) :: (aA, .inl (cQ, n, .inr (.inr (.inr (.inr (fun z8 => some (aTs z8))))))) :: (aL, .inl (cB, P, .inl (fun z9 => bI (lo z9)))) :: (aE, .inr (2, [.ref aS, .ref aEW, .ref aEK, .int un])) :: (aEW, .inl (cI, P * P, .inl tw)) :: (aEK, .inl (cB, P * P, .inl (fun z9 => bI (kn z9)))) :: (stW cI cB aS P aTs aWs aMs w ms mk n)) H := hP
      have hD : va_D A ((aR, .inr (3, [.ref aS, .ref aA, .ref aL, .ref aE, .int (bI pw), .int tn])) :: (aS, .inr (0, [.int (nI P), .int (nI (P - 2)), .int (nI (P - 1)), .int (nI (P * (P - 2)))])) :: (aA, .inl (cQ, n, .inr (.inr (.inr (.inr (fun z8 => some (aTs z8))))))) :: (aL, .inl (cB, P, .inl (fun z9 => bI (lo z9)))) :: (aE, .inr (2, [.ref aS, .ref aEW, .ref aEK, .int un])) :: (aEW, .inl (cI, P * P, .inl tw)) :: (aEK, .inl (cB, P * P, .inl (fun z9 => bI (kn z9)))) :: (stW cI cB aS P aTs aWs aMs w ms mk n)) := hD
      refine lv_iconst (v := nI 0) hx hb dX3_stripe_40 (by decide) ?_
      exact x_iret (D := (dC, dI)) (cl := vwCl) (A := A) () hQ hx hb hr hlk hP hD hS dX3_stripe_41 (by first | (rw [if_neg (by rw [h19]; decide), if_pos h33]; done) | (rw [if_neg (by rw [h19]; decide), if_neg (by rw [h33]; decide)]; done))
    · -- 33f
      have hP := unf0_P (pre := [(aR, .inr (3, [.ref aS, .ref aA, .ref aL, .ref aE, .int (bI pw), .int tn])), (aS, .inr (0, [.int (nI P), .int (nI (P - 2)), .int (nI (P - 1)), .int (nI (P * (P - 2)))])), (aA, .inl (cQ, n, .inr (.inr (.inr (.inr (fun z8 => some (aTs z8))))))), (aL, .inl (cB, P, .inl (fun z9 => bI (lo z9)))), (aE, .inr (2, [.ref aS, .ref aEW, .ref aEK, .int un])), (aEW, .inl (cI, P * P, .inl tw)), (aEK, .inl (cB, P * P, .inl (fun z9 => bI (kn z9))))]) (s := q) hP hq
      have hD := unf0_D (pre := [(aR, .inr (3, [.ref aS, .ref aA, .ref aL, .ref aE, .int (bI pw), .int tn])), (aS, .inr (0, [.int (nI P), .int (nI (P - 2)), .int (nI (P - 1)), .int (nI (P * (P - 2)))])), (aA, .inl (cQ, n, .inr (.inr (.inr (.inr (fun z8 => some (aTs z8))))))), (aL, .inl (cB, P, .inl (fun z9 => bI (lo z9)))), (aE, .inr (2, [.ref aS, .ref aEW, .ref aEK, .int un])), (aEW, .inl (cI, P * P, .inl tw)), (aEK, .inl (cB, P * P, .inl (fun z9 => bI (kn z9))))]) (s := q) hD hq
      have hP : va_P (dC, dI) vwCl ((aR, .inr (3, [.ref aS, .ref aA, .ref aL, .ref aE, .int (bI pw), .int tn])) :: (aS, .inr (0, [.int (nI P), .int (nI (P - 2)), .int (nI (P - 1)), .int (nI (P * (P - 2)))])) :: (aA, .inl (cQ, n, .inr (.inr (.inr (.inr (fun z8 => some (aTs z8))))))) :: (aL, .inl (cB, P, .inl (fun z9 => bI (lo z9)))) :: (aE, .inr (2, [.ref aS, .ref aEW, .ref aEK, .int un])) :: (aEW, .inl (cI, P * P, .inl tw)) :: (aEK, .inl (cB, P * P, .inl (fun z9 => bI (kn z9)))) :: (stW cI cB aS P aTs aWs aMs w ms mk n)) H := hP
      have hD : va_D A ((aR, .inr (3, [.ref aS, .ref aA, .ref aL, .ref aE, .int (bI pw), .int tn])) :: (aS, .inr (0, [.int (nI P), .int (nI (P - 2)), .int (nI (P - 1)), .int (nI (P * (P - 2)))])) :: (aA, .inl (cQ, n, .inr (.inr (.inr (.inr (fun z8 => some (aTs z8))))))) :: (aL, .inl (cB, P, .inl (fun z9 => bI (lo z9)))) :: (aE, .inr (2, [.ref aS, .ref aEW, .ref aEK, .int un])) :: (aEW, .inl (cI, P * P, .inl tw)) :: (aEK, .inl (cB, P * P, .inl (fun z9 => bI (kn z9)))) :: (stW cI cB aS P aTs aWs aMs w ms mk n)) := hD
      refine lv_iconst (v := nI 1) hx hb dX3_stripe_36 (by decide) ?_
      refine lv_goto (tgt := 41) hx hb dX3_stripe_37 (by decide) ?_
      exact x_iret (D := (dC, dI)) (cl := vwCl) (A := A) () hQ hx hb hr hlk hP hD hS dX3_stripe_41 (by first | (rw [if_neg (by rw [h19]; decide), if_pos h33]; done) | (rw [if_neg (by rw [h19]; decide), if_neg (by rw [h33]; decide)]; done))
  · -- 19f
    have hP := unf0_P (pre := [(aR, .inr (3, [.ref aS, .ref aA, .ref aL, .ref aE, .int (bI pw), .int tn])), (aS, .inr (0, [.int (nI P), .int (nI (P - 2)), .int (nI (P - 1)), .int (nI (P * (P - 2)))])), (aA, .inl (cQ, n, .inr (.inr (.inr (.inr (fun z8 => some (aTs z8))))))), (aL, .inl (cB, P, .inl (fun z9 => bI (lo z9)))), (aE, .inr (2, [.ref aS, .ref aEW, .ref aEK, .int un])), (aEW, .inl (cI, P * P, .inl tw)), (aEK, .inl (cB, P * P, .inl (fun z9 => bI (kn z9))))]) (s := q) hP hq
    have hD := unf0_D (pre := [(aR, .inr (3, [.ref aS, .ref aA, .ref aL, .ref aE, .int (bI pw), .int tn])), (aS, .inr (0, [.int (nI P), .int (nI (P - 2)), .int (nI (P - 1)), .int (nI (P * (P - 2)))])), (aA, .inl (cQ, n, .inr (.inr (.inr (.inr (fun z8 => some (aTs z8))))))), (aL, .inl (cB, P, .inl (fun z9 => bI (lo z9)))), (aE, .inr (2, [.ref aS, .ref aEW, .ref aEK, .int un])), (aEW, .inl (cI, P * P, .inl tw)), (aEK, .inl (cB, P * P, .inl (fun z9 => bI (kn z9))))]) (s := q) hD hq
    have hP : va_P (dC, dI) vwCl ((aR, .inr (3, [.ref aS, .ref aA, .ref aL, .ref aE, .int (bI pw), .int tn])) :: (aS, .inr (0, [.int (nI P), .int (nI (P - 2)), .int (nI (P - 1)), .int (nI (P * (P - 2)))])) :: (aA, .inl (cQ, n, .inr (.inr (.inr (.inr (fun z8 => some (aTs z8))))))) :: (aL, .inl (cB, P, .inl (fun z9 => bI (lo z9)))) :: (aE, .inr (2, [.ref aS, .ref aEW, .ref aEK, .int un])) :: (aEW, .inl (cI, P * P, .inl tw)) :: (aEK, .inl (cB, P * P, .inl (fun z9 => bI (kn z9)))) :: (stW cI cB aS P aTs aWs aMs w ms mk n)) H := hP
    have hD : va_D A ((aR, .inr (3, [.ref aS, .ref aA, .ref aL, .ref aE, .int (bI pw), .int tn])) :: (aS, .inr (0, [.int (nI P), .int (nI (P - 2)), .int (nI (P - 1)), .int (nI (P * (P - 2)))])) :: (aA, .inl (cQ, n, .inr (.inr (.inr (.inr (fun z8 => some (aTs z8))))))) :: (aL, .inl (cB, P, .inl (fun z9 => bI (lo z9)))) :: (aE, .inr (2, [.ref aS, .ref aEW, .ref aEK, .int un])) :: (aEW, .inl (cI, P * P, .inl tw)) :: (aEK, .inl (cB, P * P, .inl (fun z9 => bI (kn z9)))) :: (stW cI cB aS P aTs aWs aMs w ms mk n)) := hD
    refine lv_iconst (v := nI 2) hx hb dX3_stripe_22 (by decide) ?_
    exact x_iret (D := (dC, dI)) (cl := vwCl) (A := A) () hQ hx hb hr hlk hP hD hS dX3_stripe_23 (by first | rfl | (simp [h19]; done) | (simp [h19]; omega))

abbrev rm_c_agree0 : Room := { frames := 1, cells := 0, slots := 0, locals := 21 }
set_option maxHeartbeats 4000000 in
set_option maxRecDepth 100000 in
theorem c_agree0 (l : Launch) (dC : Nat → ClassId) (dI : Nat → Nat → Nat) (cI cB cQ cJ : ClassId) (aR : Nat) (aS : Nat) (aA : Nat) (aL : Nat) (aE : Nat) (pw : Bool) (tn : Int32) (P : Nat) (n : Nat) (aTs : Nat → Nat) (aWs : Nat → Nat) (aMs : Nat → Nat) (lo : Nat → Bool) (aEW : Nat) (aEK : Nat) (tw : Nat → Int32) (kn : Nat → Bool) (un : Int32) (w : Nat → Nat → Int32) (ms : Nat → Nat → Bool) (mk : Nat → Bool) (x : Int32) (hp5 : dr_P P) (hn : n < 5) (hc : dr_in x n = false) : MG l yX3_agree (Cond.code yX3_agree cX3_agree 2 (some .int) :: TB) rm_c_agree0 (dC, dI) vwCl (TY cI cB cQ cJ) [.ref aR, .int x] ((aR, .inr (3, [.ref aS, .ref aA, .ref aL, .ref aE, .int (bI pw), .int tn])) :: (aS, .inr (0, [.int (nI P), .int (nI (P - 2)), .int (nI (P - 1)), .int (nI (P * (P - 2)))])) :: (aA, .inl (cQ, n, .inr (.inr (.inr (.inr (fun z8 => some (aTs z8))))))) :: (aL, .inl (cB, P, .inl (fun z9 => bI (lo z9)))) :: (aE, .inr (2, [.ref aS, .ref aEW, .ref aEK, .int un])) :: (aEW, .inl (cI, P * P, .inl tw)) :: (aEK, .inl (cB, P * P, .inl (fun z9 => bI (kn z9)))) :: (stW cI cB aS P aTs aWs aMs w ms mk n)) (fun (r : Int32) (u : Unit) => r = (-1)) (fun (u : Unit) => ((aR, .inr (3, [.ref aS, .ref aA, .ref aL, .ref aE, .int (bI pw), .int tn])) :: (aS, .inr (0, [.int (nI P), .int (nI (P - 2)), .int (nI (P - 1)), .int (nI (P * (P - 2)))])) :: (aA, .inl (cQ, n, .inr (.inr (.inr (.inr (fun z8 => some (aTs z8))))))) :: (aL, .inl (cB, P, .inl (fun z9 => bI (lo z9)))) :: (aE, .inr (2, [.ref aS, .ref aEW, .ref aEK, .int un])) :: (aEW, .inl (cI, P * P, .inl tw)) :: (aEK, .inl (cB, P * P, .inl (fun z9 => bI (kn z9)))) :: (stW cI cB aS P aTs aWs aMs w ms mk n))) := by
  refine MG.ofW (cc := cX3_agree) (maxL := 2) (rt := .int) (by decide +kernel) rfl (Nat.le_of_ble_eq_true rfl) ?_
  intro p e s m args below meth c A ls Q H locs hQ hx hb hml hr hlk hts hown hK hP hD hS hA hl
  have hts : ∀ w ∈ TB, w.before args s = true := fun w h => hts w (List.mem_cons_of_mem _ h)
  have hown : s.vm.findClass RX3 = some m.cls := hown
  have hl : lv_has ls 2 [(0, .ref aR), (1, .int x)] := hl
  have hP : va_P (dC, dI) vwCl ((aR, .inr (3, [.ref aS, .ref aA, .ref aL, .ref aE, .int (bI pw), .int tn])) :: (aS, .inr (0, [.int (nI P), .int (nI (P - 2)), .int (nI (P - 1)), .int (nI (P * (P - 2)))])) :: (aA, .inl (cQ, n, .inr (.inr (.inr (.inr (fun z8 => some (aTs z8))))))) :: (aL, .inl (cB, P, .inl (fun z9 => bI (lo z9)))) :: (aE, .inr (2, [.ref aS, .ref aEW, .ref aEK, .int un])) :: (aEW, .inl (cI, P * P, .inl tw)) :: (aEK, .inl (cB, P * P, .inl (fun z9 => bI (kn z9)))) :: (stW cI cB aS P aTs aWs aMs w ms mk n)) H := hP
  have hD : va_D A ((aR, .inr (3, [.ref aS, .ref aA, .ref aL, .ref aE, .int (bI pw), .int tn])) :: (aS, .inr (0, [.int (nI P), .int (nI (P - 2)), .int (nI (P - 1)), .int (nI (P * (P - 2)))])) :: (aA, .inl (cQ, n, .inr (.inr (.inr (.inr (fun z8 => some (aTs z8))))))) :: (aL, .inl (cB, P, .inl (fun z9 => bI (lo z9)))) :: (aE, .inr (2, [.ref aS, .ref aEW, .ref aEK, .int un])) :: (aEW, .inl (cI, P * P, .inl tw)) :: (aEK, .inl (cB, P * P, .inl (fun z9 => bI (kn z9)))) :: (stW cI cB aS P aTs aWs aMs w ms mk n)) := hD
  have hp := hp5.le
  have hpp := dr_PP hp5
  have hpq := dr_PP2 hp5
  refine lv_aload_n hx hb dX3_agree_0 rfl (lv_at hl 0 rfl) ?_
  refine lv_iload_n hx hb dX3_agree_1 rfl (lv_at hl 1 rfl) ?_
  refine gV (wr := [(aS, .inr (0, [.int (nI P), .int (nI (P - 2)), .int (nI (P - 1)), .int (nI (P * (P - 2)))])), (aL, .inl (cB, P, .inl (fun z9 => bI (lo z9)))), (aE, .inr (2, [.ref aS, .ref aEW, .ref aEK, .int un])), (aEW, .inl (cI, P * P, .inl tw)), (aEK, .inl (cB, P * P, .inl (fun z9 => bI (kn z9))))]) (pre := [(aR, .inr (3, [.ref aS, .ref aA, .ref aL, .ref aE, .int (bI pw), .int tn])), (aS, .inr (0, [.int (nI P), .int (nI (P - 2)), .int (nI (P - 1)), .int (nI (P * (P - 2)))])), (aA, .inl (cQ, n, .inr (.inr (.inr (.inr (fun z8 => some (aTs z8))))))), (aL, .inl (cB, P, .inl (fun z9 => bI (lo z9)))), (aE, .inr (2, [.ref aS, .ref aEW, .ref aEK, .int un])), (aEW, .inl (cI, P * P, .inl tw)), (aEK, .inl (cB, P * P, .inl (fun z9 => bI (kn z9))))]) (tl := (stW cI cB aS P aTs aWs aMs w ms mk n)) (G := fun (u : Unit) => [(aR, .inr (3, [.ref aS, .ref aA, .ref aL, .ref aE, .int (bI pw), .int tn])), (aS, .inr (0, [.int (nI P), .int (nI (P - 2)), .int (nI (P - 1)), .int (nI (P * (P - 2)))])), (aA, .inl (cQ, n, .inr (.inr (.inr (.inr (fun z8 => some (aTs z8))))))), (aL, .inl (cB, P, .inl (fun z9 => bI (lo z9)))), (aE, .inr (2, [.ref aS, .ref aEW, .ref aEK, .int un])), (aEW, .inl (cI, P * P, .inl tw)), (aEK, .inl (cB, P * P, .inl (fun z9 => bI (kn z9))))]) (b := aR) (As := [.int x]) (rst := []) ⟨hx, hb, hml, hown, hts⟩ (c_isStripe l dC dI cI cB cQ cJ aR aS aA aL aE pw tn n aTs x ) (cwV 1 hts (gdV t_mX3_149 t_inst_X3_isStripe t_sel_X3_isStripe t_ini_X3 t_code_X3_isStripe) rfl rfl rfl (by decide +kernel) ⟨Nat.le_of_ble_eq_true rfl, Nat.le_of_ble_eq_true rfl⟩) hK hP hD hS hA [0, 2] [1, 3, 4, 5, 6] [0, 2, 1, 3, 4, 5, 6] rfl (by decide) (fun _ => rfl) (by decide) (ci := 3) rfl rfl rfl rfl hl.1 rfl (Nat.le_of_ble_eq_true rfl) dX3_agree_2 ⟨Nat.zero_le _, Nat.zero_le _⟩ (fun r u H locs hu1 hP hD hS => ?_)
  have hr2 := hu1
  have hr2 : r = bI (dr_in x n) := hr2
  subst hr2
  have hP : va_P (dC, dI) vwCl ((aR, .inr (3, [.ref aS, .ref aA, .ref aL, .ref aE, .int (bI pw), .int tn])) :: (aS, .inr (0, [.int (nI P), .int (nI (P - 2)), .int (nI (P - 1)), .int (nI (P * (P - 2)))])) :: (aA, .inl (cQ, n, .inr (.inr (.inr (.inr (fun z8 => some (aTs z8))))))) :: (aL, .inl (cB, P, .inl (fun z9 => bI (lo z9)))) :: (aE, .inr (2, [.ref aS, .ref aEW, .ref aEK, .int un])) :: (aEW, .inl (cI, P * P, .inl tw)) :: (aEK, .inl (cB, P * P, .inl (fun z9 => bI (kn z9)))) :: (stW cI cB aS P aTs aWs aMs w ms mk n)) H := hP
  have hD : va_D A ((aR, .inr (3, [.ref aS, .ref aA, .ref aL, .ref aE, .int (bI pw), .int tn])) :: (aS, .inr (0, [.int (nI P), .int (nI (P - 2)), .int (nI (P - 1)), .int (nI (P * (P - 2)))])) :: (aA, .inl (cQ, n, .inr (.inr (.inr (.inr (fun z8 => some (aTs z8))))))) :: (aL, .inl (cB, P, .inl (fun z9 => bI (lo z9)))) :: (aE, .inr (2, [.ref aS, .ref aEW, .ref aEK, .int un])) :: (aEW, .inl (cI, P * P, .inl tw)) :: (aEK, .inl (cB, P * P, .inl (fun z9 => bI (kn z9)))) :: (stW cI cB aS P aTs aWs aMs w ms mk n)) := hD
  refine x_top (show bI (dr_in x n) = bI false from (congrArg bI hc)) ?_
  refine x_ifF (tgt := 20) hx hb dX3_agree_5 (by decide) (fun _ => ?_) (fun z9 => by cases z9)
  refine lv_iconst (v := (-1)) hx hb dX3_agree_20 (by decide) ?_
  exact x_iret (D := (dC, dI)) (cl := vwCl) (A := A) () hQ hx hb hr hlk hP hD hS dX3_agree_21 (by first | rfl | (simp []; done) | (simp []; omega))

abbrev rm_c_agree1 : Room := { frames := 5, cells := 0, slots := 0, locals := 113 }
set_option maxHeartbeats 4000000 in
set_option maxRecDepth 100000 in
theorem c_agree1 (l : Launch) (dC : Nat → ClassId) (dI : Nat → Nat → Nat) (cI cB cQ cJ : ClassId) (aR : Nat) (aS : Nat) (aA : Nat) (aL : Nat) (aE : Nat) (pw : Bool) (tn : Int32) (P : Nat) (n : Nat) (aTs : Nat → Nat) (aWs : Nat → Nat) (aMs : Nat → Nat) (lo : Nat → Bool) (aEW : Nat) (aEK : Nat) (tw : Nat → Int32) (kn : Nat → Bool) (un : Int32) (w : Nat → Nat → Int32) (ms : Nat → Nat → Bool) (mk : Nat → Bool) (q : Nat) (hp5 : dr_P P) (hn : n < 5) (hq : q < n) : MG l yX3_agree (Cond.code yX3_agree cX3_agree 2 (some .int) :: TB) rm_c_agree1 (dC, dI) vwCl (TY cI cB cQ cJ) [.ref aR, .int (nI q)] ((aR, .inr (3, [.ref aS, .ref aA, .ref aL, .ref aE, .int (bI pw), .int tn])) :: (aS, .inr (0, [.int (nI P), .int (nI (P - 2)), .int (nI (P - 1)), .int (nI (P * (P - 2)))])) :: (aA, .inl (cQ, n, .inr (.inr (.inr (.inr (fun z8 => some (aTs z8))))))) :: (aL, .inl (cB, P, .inl (fun z9 => bI (lo z9)))) :: (aE, .inr (2, [.ref aS, .ref aEW, .ref aEK, .int un])) :: (aEW, .inl (cI, P * P, .inl tw)) :: (aEK, .inl (cB, P * P, .inl (fun z9 => bI (kn z9)))) :: (stW cI cB aS P aTs aWs aMs w ms mk n)) (fun (r : Int32) (u : Unit) => r = nI (dr_agn P (ms q) (w q) P)) (fun (u : Unit) => ((aR, .inr (3, [.ref aS, .ref aA, .ref aL, .ref aE, .int (bI pw), .int tn])) :: (aS, .inr (0, [.int (nI P), .int (nI (P - 2)), .int (nI (P - 1)), .int (nI (P * (P - 2)))])) :: (aA, .inl (cQ, n, .inr (.inr (.inr (.inr (fun z8 => some (aTs z8))))))) :: (aL, .inl (cB, P, .inl (fun z9 => bI (lo z9)))) :: (aE, .inr (2, [.ref aS, .ref aEW, .ref aEK, .int un])) :: (aEW, .inl (cI, P * P, .inl tw)) :: (aEK, .inl (cB, P * P, .inl (fun z9 => bI (kn z9)))) :: (stW cI cB aS P aTs aWs aMs w ms mk n))) := by
  refine MG.ofW (cc := cX3_agree) (maxL := 2) (rt := .int) (by decide +kernel) rfl (Nat.le_of_ble_eq_true rfl) ?_
  intro p e s m args below meth c A ls Q H locs hQ hx hb hml hr hlk hts hown hK hP hD hS hA hl
  have hts : ∀ w ∈ TB, w.before args s = true := fun w h => hts w (List.mem_cons_of_mem _ h)
  have hown : s.vm.findClass RX3 = some m.cls := hown
  have hl : lv_has ls 2 [(0, .ref aR), (1, .int (nI q))] := hl
  have hP : va_P (dC, dI) vwCl ((aR, .inr (3, [.ref aS, .ref aA, .ref aL, .ref aE, .int (bI pw), .int tn])) :: (aS, .inr (0, [.int (nI P), .int (nI (P - 2)), .int (nI (P - 1)), .int (nI (P * (P - 2)))])) :: (aA, .inl (cQ, n, .inr (.inr (.inr (.inr (fun z8 => some (aTs z8))))))) :: (aL, .inl (cB, P, .inl (fun z9 => bI (lo z9)))) :: (aE, .inr (2, [.ref aS, .ref aEW, .ref aEK, .int un])) :: (aEW, .inl (cI, P * P, .inl tw)) :: (aEK, .inl (cB, P * P, .inl (fun z9 => bI (kn z9)))) :: (stW cI cB aS P aTs aWs aMs w ms mk n)) H := hP
  have hD : va_D A ((aR, .inr (3, [.ref aS, .ref aA, .ref aL, .ref aE, .int (bI pw), .int tn])) :: (aS, .inr (0, [.int (nI P), .int (nI (P - 2)), .int (nI (P - 1)), .int (nI (P * (P - 2)))])) :: (aA, .inl (cQ, n, .inr (.inr (.inr (.inr (fun z8 => some (aTs z8))))))) :: (aL, .inl (cB, P, .inl (fun z9 => bI (lo z9)))) :: (aE, .inr (2, [.ref aS, .ref aEW, .ref aEK, .int un])) :: (aEW, .inl (cI, P * P, .inl tw)) :: (aEK, .inl (cB, P * P, .inl (fun z9 => bI (kn z9)))) :: (stW cI cB aS P aTs aWs aMs w ms mk n)) := hD
  have hp := hp5.le
  have hpp := dr_PP hp5
  have hpq := dr_PP2 hp5
  refine lv_aload_n hx hb dX3_agree_0 rfl (lv_at hl 0 rfl) ?_
  refine lv_iload_n hx hb dX3_agree_1 rfl (lv_at hl 1 rfl) ?_
  refine gV (wr := [(aS, .inr (0, [.int (nI P), .int (nI (P - 2)), .int (nI (P - 1)), .int (nI (P * (P - 2)))])), (aL, .inl (cB, P, .inl (fun z9 => bI (lo z9)))), (aE, .inr (2, [.ref aS, .ref aEW, .ref aEK, .int un])), (aEW, .inl (cI, P * P, .inl tw)), (aEK, .inl (cB, P * P, .inl (fun z9 => bI (kn z9))))]) (pre := [(aR, .inr (3, [.ref aS, .ref aA, .ref aL, .ref aE, .int (bI pw), .int tn])), (aS, .inr (0, [.int (nI P), .int (nI (P - 2)), .int (nI (P - 1)), .int (nI (P * (P - 2)))])), (aA, .inl (cQ, n, .inr (.inr (.inr (.inr (fun z8 => some (aTs z8))))))), (aL, .inl (cB, P, .inl (fun z9 => bI (lo z9)))), (aE, .inr (2, [.ref aS, .ref aEW, .ref aEK, .int un])), (aEW, .inl (cI, P * P, .inl tw)), (aEK, .inl (cB, P * P, .inl (fun z9 => bI (kn z9))))]) (tl := (stW cI cB aS P aTs aWs aMs w ms mk n)) (G := fun (u : Unit) => [(aR, .inr (3, [.ref aS, .ref aA, .ref aL, .ref aE, .int (bI pw), .int tn])), (aS, .inr (0, [.int (nI P), .int (nI (P - 2)), .int (nI (P - 1)), .int (nI (P * (P - 2)))])), (aA, .inl (cQ, n, .inr (.inr (.inr (.inr (fun z8 => some (aTs z8))))))), (aL, .inl (cB, P, .inl (fun z9 => bI (lo z9)))), (aE, .inr (2, [.ref aS, .ref aEW, .ref aEK, .int un])), (aEW, .inl (cI, P * P, .inl tw)), (aEK, .inl (cB, P * P, .inl (fun z9 => bI (kn z9))))]) (b := aR) (As := [.int (nI q)]) (rst := []) ⟨hx, hb, hml, hown, hts⟩ (c_isStripe l dC dI cI cB cQ cJ aR aS aA aL aE pw tn n aTs (nI q) ) (cwV 1 hts (gdV t_mX3_149 t_inst_X3_isStripe t_sel_X3_isStripe t_ini_X3 t_code_X3_isStripe) rfl rfl rfl (by decide +kernel) ⟨Nat.le_of_ble_eq_true rfl, Nat.le_of_ble_eq_true rfl⟩) hK hP hD hS hA [0, 2] [1, 3, 4, 5, 6] [0, 2, 1, 3, 4, 5, 6] rfl (by decide) (fun _ => rfl) (by decide) (ci := 3) rfl rfl rfl rfl hl.1 rfl (Nat.le_of_ble_eq_true rfl) dX3_agree_2 ⟨Nat.zero_le _, Nat.zero_le _⟩ (fun r u H locs hu1 hP hD hS => ?_)
  have hr2 := hu1
  have hr2 : r = bI (dr_in (nI q) n) := hr2
  subst hr2
  have hP : va_P (dC, dI) vwCl ((aR, .inr (3, [.ref aS, .ref aA, .ref aL, .ref aE, .int (bI pw), .int tn])) :: (aS, .inr (0, [.int (nI P), .int (nI (P - 2)), .int (nI (P - 1)), .int (nI (P * (P - 2)))])) :: (aA, .inl (cQ, n, .inr (.inr (.inr (.inr (fun z8 => some (aTs z8))))))) :: (aL, .inl (cB, P, .inl (fun z9 => bI (lo z9)))) :: (aE, .inr (2, [.ref aS, .ref aEW, .ref aEK, .int un])) :: (aEW, .inl (cI, P * P, .inl tw)) :: (aEK, .inl (cB, P * P, .inl (fun z9 => bI (kn z9)))) :: (stW cI cB aS P aTs aWs aMs w ms mk n)) H := hP
  have hD : va_D A ((aR, .inr (3, [.ref aS, .ref aA, .ref aL, .ref aE, .int (bI pw), .int tn])) :: (aS, .inr (0, [.int (nI P), .int (nI (P - 2)), .int (nI (P - 1)), .int (nI (P * (P - 2)))])) :: (aA, .inl (cQ, n, .inr (.inr (.inr (.inr (fun z8 => some (aTs z8))))))) :: (aL, .inl (cB, P, .inl (fun z9 => bI (lo z9)))) :: (aE, .inr (2, [.ref aS, .ref aEW, .ref aEK, .int un])) :: (aEW, .inl (cI, P * P, .inl tw)) :: (aEK, .inl (cB, P * P, .inl (fun z9 => bI (kn z9)))) :: (stW cI cB aS P aTs aWs aMs w ms mk n)) := hD
  refine x_top (show bI (dr_in (nI q) n) = bI true from (congrArg bI (dr_in_of (by omega) hq))) ?_
  refine x_ifF (tgt := 20) hx hb dX3_agree_5 (by decide) (fun z9 => by cases z9) (fun _ => ?_)
  refine lv_aload_n hx hb dX3_agree_8 rfl (lv_at hl 0 rfl) ?_
  refine va_get (D := (dC, dI)) (ci := 3) (v := .ref aA) (C := RX3) (T := TX3) (N := 6) hx hb hts inX3 hown hK hP 0 rfl rfl 1 (by decide) (hts _ t_fX3_36) (fun _ h9 => h9) rfl dX3_agree_9 ?_
  refine lv_iload_n hx hb dX3_agree_12 rfl (lv_at hl 1 rfl) ?_
  refine x_aald (q := aTs q) hx hb hK hP 2 2 rfl rfl dX3_agree_13 (by omega) (by omega) rfl ?_
  have hP := foc_P (pre := [(aR, .inr (3, [.ref aS, .ref aA, .ref aL, .ref aE, .int (bI pw), .int tn])), (aS, .inr (0, [.int (nI P), .int (nI (P - 2)), .int (nI (P - 1)), .int (nI (P * (P - 2)))])), (aA, .inl (cQ, n, .inr (.inr (.inr (.inr (fun z8 => some (aTs z8))))))), (aL, .inl (cB, P, .inl (fun z9 => bI (lo z9)))), (aE, .inr (2, [.ref aS, .ref aEW, .ref aEK, .int un])), (aEW, .inl (cI, P * P, .inl tw)), (aEK, .inl (cB, P * P, .inl (fun z9 => bI (kn z9))))]) (s := q) hP hq
  have hD := foc_D (pre := [(aR, .inr (3, [.ref aS, .ref aA, .ref aL, .ref aE, .int (bI pw), .int tn])), (aS, .inr (0, [.int (nI P), .int (nI (P - 2)), .int (nI (P - 1)), .int (nI (P * (P - 2)))])), (aA, .inl (cQ, n, .inr (.inr (.inr (.inr (fun z8 => some (aTs z8))))))), (aL, .inl (cB, P, .inl (fun z9 => bI (lo z9)))), (aE, .inr (2, [.ref aS, .ref aEW, .ref aEK, .int un])), (aEW, .inl (cI, P * P, .inl tw)), (aEK, .inl (cB, P * P, .inl (fun z9 => bI (kn z9))))]) (s := q) hD hq
  have hP : va_P (dC, dI) vwCl ((aR, .inr (3, [.ref aS, .ref aA, .ref aL, .ref aE, .int (bI pw), .int tn])) :: (aS, .inr (0, [.int (nI P), .int (nI (P - 2)), .int (nI (P - 1)), .int (nI (P * (P - 2)))])) :: (aA, .inl (cQ, n, .inr (.inr (.inr (.inr (fun z8 => some (aTs z8))))))) :: (aL, .inl (cB, P, .inl (fun z9 => bI (lo z9)))) :: (aE, .inr (2, [.ref aS, .ref aEW, .ref aEK, .int un])) :: (aEW, .inl (cI, P * P, .inl tw)) :: (aEK, .inl (cB, P * P, .inl (fun z9 => bI (kn z9)))) :: (aTs q, .inr (1, [.ref aS, .ref (aWs q), .ref (aMs q), .int (bI (mk q))])) :: (aWs q, .inl (cI, P * P, .inl (w q))) :: (aMs q, .inl (cB, P, .inl (fun z9 => bI ((ms q) z9)))) :: (stO cI cB aS P aTs aWs aMs w ms mk n q)) H := hP
  have hD : va_D A ((aR, .inr (3, [.ref aS, .ref aA, .ref aL, .ref aE, .int (bI pw), .int tn])) :: (aS, .inr (0, [.int (nI P), .int (nI (P - 2)), .int (nI (P - 1)), .int (nI (P * (P - 2)))])) :: (aA, .inl (cQ, n, .inr (.inr (.inr (.inr (fun z8 => some (aTs z8))))))) :: (aL, .inl (cB, P, .inl (fun z9 => bI (lo z9)))) :: (aE, .inr (2, [.ref aS, .ref aEW, .ref aEK, .int un])) :: (aEW, .inl (cI, P * P, .inl tw)) :: (aEK, .inl (cB, P * P, .inl (fun z9 => bI (kn z9)))) :: (aTs q, .inr (1, [.ref aS, .ref (aWs q), .ref (aMs q), .int (bI (mk q))])) :: (aWs q, .inl (cI, P * P, .inl (w q))) :: (aMs q, .inl (cB, P, .inl (fun z9 => bI ((ms q) z9)))) :: (stO cI cB aS P aTs aWs aMs w ms mk n q)) := hD
  refine gV (wr := [(aR, .inr (3, [.ref aS, .ref aA, .ref aL, .ref aE, .int (bI pw), .int tn])), (aA, .inl (cQ, n, .inr (.inr (.inr (.inr (fun z8 => some (aTs z8))))))), (aL, .inl (cB, P, .inl (fun z9 => bI (lo z9)))), (aE, .inr (2, [.ref aS, .ref aEW, .ref aEK, .int un])), (aEW, .inl (cI, P * P, .inl tw)), (aEK, .inl (cB, P * P, .inl (fun z9 => bI (kn z9))))]) (pre := [(aR, .inr (3, [.ref aS, .ref aA, .ref aL, .ref aE, .int (bI pw), .int tn])), (aS, .inr (0, [.int (nI P), .int (nI (P - 2)), .int (nI (P - 1)), .int (nI (P * (P - 2)))])), (aA, .inl (cQ, n, .inr (.inr (.inr (.inr (fun z8 => some (aTs z8))))))), (aL, .inl (cB, P, .inl (fun z9 => bI (lo z9)))), (aE, .inr (2, [.ref aS, .ref aEW, .ref aEK, .int un])), (aEW, .inl (cI, P * P, .inl tw)), (aEK, .inl (cB, P * P, .inl (fun z9 => bI (kn z9)))), (aTs q, .inr (1, [.ref aS, .ref (aWs q), .ref (aMs q), .int (bI (mk q))])), (aWs q, .inl (cI, P * P, .inl (w q))), (aMs q, .inl (cB, P, .inl (fun z9 => bI ((ms q) z9))))]) (tl := (stO cI cB aS P aTs aWs aMs w ms mk n q)) (G := fun (u : Unit) => [(aR, .inr (3, [.ref aS, .ref aA, .ref aL, .ref aE, .int (bI pw), .int tn])), (aS, .inr (0, [.int (nI P), .int (nI (P - 2)), .int (nI (P - 1)), .int (nI (P * (P - 2)))])), (aA, .inl (cQ, n, .inr (.inr (.inr (.inr (fun z8 => some (aTs z8))))))), (aL, .inl (cB, P, .inl (fun z9 => bI (lo z9)))), (aE, .inr (2, [.ref aS, .ref aEW, .ref aEK, .int un])), (aEW, .inl (cI, P * P, .inl tw)), (aEK, .inl (cB, P * P, .inl (fun z9 => bI (kn z9)))), (aTs q, .inr (1, [.ref aS, .ref (aWs q), .ref (aMs q), .int (bI (mk q))])), (aWs q, .inl (cI, P * P, .inl (w q))), (aMs q, .inl (cB, P, .inl (fun z9 => bI ((ms q) z9))))]) (b := aTs q) (As := []) (rst := []) ⟨hx, hb, hml, hown, hts⟩ (c_agn l dC dI cI cB cQ cJ (aTs q) aS (aWs q) (aMs q) P (w q) (ms q) (mk q) hp5) (cwV 0 hts (gdV t_mX3_159 t_inst_X1_agreeingParities t_sel_X1_agreeingParities t_ini_X1 t_code_X1_agreeingParities) rfl rfl rfl (by decide +kernel) ⟨Nat.le_of_ble_eq_true rfl, Nat.le_of_ble_eq_true rfl⟩) hK hP hD hS hA [7, 8, 9, 1] [0, 2, 3, 4, 5, 6] [4, 3, 5, 6, 7, 8, 9, 0, 1, 2] rfl (by decide) (fun _ => rfl) (by decide) (ci := 1) rfl rfl rfl rfl hl.1 rfl (Nat.le_of_ble_eq_true rfl) dX3_agree_14 ⟨Nat.zero_le _, Nat.zero_le _⟩ (fun r u H locs hu2 hP hD hS => ?_)
  have hr14 := hu2
  have hr14 : r = nI (dr_agn P (ms q) (w q) P) := hr14
  subst hr14
  have hP : va_P (dC, dI) vwCl ((aR, .inr (3, [.ref aS, .ref aA, .ref aL, .ref aE, .int (bI pw), .int tn])) :: (aS, .inr (0, [.int (nI P), .int (nI (P - 2)), .int (nI (P - 1)), .int (nI (P * (P - 2)))])) :: (aA, .inl (cQ, n, .inr (.inr (.inr (.inr (fun z8 => some (aTs z8))))))) :: (aL, .inl (cB, P, .inl (fun z9 => bI (lo z9)))) :: (aE, .inr (2, [.ref aS, .ref aEW, .ref aEK, .int un])) :: (aEW, .inl (cI, P * P, .inl tw)) :: (aEK, .inl (cB, P * P, .inl (fun z9 => bI (kn z9)))) :: (aTs q, .inr (1, [.ref aS, .ref (aWs q), .ref (aMs q), .int (bI (mk q))])) :: (aWs q, .inl (cI, P * P, .inl (w q))) :: (aMs q, .inl (cB, P, .inl (fun z9 => bI ((ms q) z9)))) :: (stO cI cB aS P aTs aWs aMs w ms mk n q)) H := hP
  have hD : va_D A ((aR, .inr (3, [.ref aS, .ref aA, .ref aL, .ref aE, .int (bI pw), .int tn])) :: (aS, .inr (0, [.int (nI P), .int (nI (P - 2)), .int (nI (P - 1)), .int (nI (P * (P - 2)))])) :: (aA, .inl (cQ, n, .inr (.inr (.inr (.inr (fun z8 => some (aTs z8))))))) :: (aL, .inl (cB, P, .inl (fun z9 => bI (lo z9)))) :: (aE, .inr (2, [.ref aS, .ref aEW, .ref aEK, .int un])) :: (aEW, .inl (cI, P * P, .inl tw)) :: (aEK, .inl (cB, P * P, .inl (fun z9 => bI (kn z9)))) :: (aTs q, .inr (1, [.ref aS, .ref (aWs q), .ref (aMs q), .int (bI (mk q))])) :: (aWs q, .inl (cI, P * P, .inl (w q))) :: (aMs q, .inl (cB, P, .inl (fun z9 => bI ((ms q) z9)))) :: (stO cI cB aS P aTs aWs aMs w ms mk n q)) := hD
  have hP := unf0_P (pre := [(aR, .inr (3, [.ref aS, .ref aA, .ref aL, .ref aE, .int (bI pw), .int tn])), (aS, .inr (0, [.int (nI P), .int (nI (P - 2)), .int (nI (P - 1)), .int (nI (P * (P - 2)))])), (aA, .inl (cQ, n, .inr (.inr (.inr (.inr (fun z8 => some (aTs z8))))))), (aL, .inl (cB, P, .inl (fun z9 => bI (lo z9)))), (aE, .inr (2, [.ref aS, .ref aEW, .ref aEK, .int un])), (aEW, .inl (cI, P * P, .inl tw)), (aEK, .inl (cB, P * P, .inl (fun z9 => bI (kn z9))))]) (s := q) hP hq
  have hD := unf0_D (pre := [(aR, .inr (3, [.ref aS, .ref aA, .ref aL, .ref aE, .int (bI pw), .int tn])), (aS, .inr (0, [.int (nI P), .int (nI (P - 2)), .int (nI (P - 1)), .int (nI (P * (P - 2)))])), (aA, .inl (cQ, n, .inr (.inr (.inr (.inr (fun z8 => some (aTs z8))))))), (aL, .inl (cB, P, .inl (fun z9 => bI (lo z9)))), (aE, .inr (2, [.ref aS, .ref aEW, .ref aEK, .int un])), (aEW, .inl (cI, P * P, .inl tw)), (aEK, .inl (cB, P * P, .inl (fun z9 => bI (kn z9))))]) (s := q) hD hq
  have hP : va_P (dC, dI) vwCl ((aR, .inr (3, [.ref aS, .ref aA, .ref aL, .ref aE, .int (bI pw), .int tn])) :: (aS, .inr (0, [.int (nI P), .int (nI (P - 2)), .int (nI (P - 1)), .int (nI (P * (P - 2)))])) :: (aA, .inl (cQ, n, .inr (.inr (.inr (.inr (fun z8 => some (aTs z8))))))) :: (aL, .inl (cB, P, .inl (fun z9 => bI (lo z9)))) :: (aE, .inr (2, [.ref aS, .ref aEW, .ref aEK, .int un])) :: (aEW, .inl (cI, P * P, .inl tw)) :: (aEK, .inl (cB, P * P, .inl (fun z9 => bI (kn z9)))) :: (stW cI cB aS P aTs aWs aMs w ms mk n)) H := hP
  have hD : va_D A ((aR, .inr (3, [.ref aS, .ref aA, .ref aL, .ref aE, .int (bI pw), .int tn])) :: (aS, .inr (0, [.int (nI P), .int (nI (P - 2)), .int (nI (P - 1)), .int (nI (P * (P - 2)))])) :: (aA, .inl (cQ, n, .inr (.inr (.inr (.inr (fun z8 => some (aTs z8))))))) :: (aL, .inl (cB, P, .inl (fun z9 => bI (lo z9)))) :: (aE, .inr (2, [.ref aS, .ref aEW, .ref aEK, .int un])) :: (aEW, .inl (cI, P * P, .inl tw)) :: (aEK, .inl (cB, P * P, .inl (fun z9 => bI (kn z9)))) :: (stW cI cB aS P aTs aWs aMs w ms mk n)) := hD
  refine lv_goto (tgt := 21) hx hb dX3_agree_17 (by decide) ?_
  exact x_iret (D := (dC, dI)) (cl := vwCl) (A := A) () hQ hx hb hr hlk hP hD hS dX3_agree_21 (by first | rfl | (simp []; done) | (simp []; omega))

abbrev rm_c_word0 : Room := { frames := 1, cells := 0, slots := 0, locals := 21 }
set_option maxHeartbeats 4000000 in
set_option maxRecDepth 100000 in
theorem c_word0 (l : Launch) (dC : Nat → ClassId) (dI : Nat → Nat → Nat) (cI cB cQ cJ : ClassId) (aR : Nat) (aS : Nat) (aA : Nat) (aL : Nat) (aE : Nat) (pw : Bool) (tn : Int32) (P : Nat) (n : Nat) (aTs : Nat → Nat) (aWs : Nat → Nat) (aMs : Nat → Nat) (lo : Nat → Bool) (aEW : Nat) (aEK : Nat) (tw : Nat → Int32) (kn : Nat → Bool) (un : Int32) (w : Nat → Nat → Int32) (ms : Nat → Nat → Bool) (mk : Nat → Bool) (x : Int32) (y : Int32) (z : Int32) (hp5 : dr_P P) (hn : n < 5) (hc : ¬ (dr_in x P = true ∧ dr_in y n = true ∧ dr_in z P = true)) : MG l yX3_word (Cond.code yX3_word cX3_word 4 (some .int) :: TB) rm_c_word0 (dC, dI) vwCl (TY cI cB cQ cJ) [.ref aR, .int x, .int y, .int z] ((aR, .inr (3, [.ref aS, .ref aA, .ref aL, .ref aE, .int (bI pw), .int tn])) :: (aS, .inr (0, [.int (nI P), .int (nI (P - 2)), .int (nI (P - 1)), .int (nI (P * (P - 2)))])) :: (aA, .inl (cQ, n, .inr (.inr (.inr (.inr (fun z8 => some (aTs z8))))))) :: (aL, .inl (cB, P, .inl (fun z9 => bI (lo z9)))) :: (aE, .inr (2, [.ref aS, .ref aEW, .ref aEK, .int un])) :: (aEW, .inl (cI, P * P, .inl tw)) :: (aEK, .inl (cB, P * P, .inl (fun z9 => bI (kn z9)))) :: (stW cI cB aS P aTs aWs aMs w ms mk n)) (fun (r : Int32) (u : Unit) => r = 0) (fun (u : Unit) => ((aR, .inr (3, [.ref aS, .ref aA, .ref aL, .ref aE, .int (bI pw), .int tn])) :: (aS, .inr (0, [.int (nI P), .int (nI (P - 2)), .int (nI (P - 1)), .int (nI (P * (P - 2)))])) :: (aA, .inl (cQ, n, .inr (.inr (.inr (.inr (fun z8 => some (aTs z8))))))) :: (aL, .inl (cB, P, .inl (fun z9 => bI (lo z9)))) :: (aE, .inr (2, [.ref aS, .ref aEW, .ref aEK, .int un])) :: (aEW, .inl (cI, P * P, .inl tw)) :: (aEK, .inl (cB, P * P, .inl (fun z9 => bI (kn z9)))) :: (stW cI cB aS P aTs aWs aMs w ms mk n))) := by
  refine MG.ofW (cc := cX3_word) (maxL := 4) (rt := .int) (by decide +kernel) rfl (Nat.le_of_ble_eq_true rfl) ?_
  intro p e s m args below meth c A ls Q H locs hQ hx hb hml hr hlk hts hown hK hP hD hS hA hl
  have hts : ∀ w ∈ TB, w.before args s = true := fun w h => hts w (List.mem_cons_of_mem _ h)
  have hown : s.vm.findClass RX3 = some m.cls := hown
  have hl : lv_has ls 4 [(0, .ref aR), (1, .int x), (2, .int y), (3, .int z)] := hl
  have hP : va_P (dC, dI) vwCl ((aR, .inr (3, [.ref aS, .ref aA, .ref aL, .ref aE, .int (bI pw), .int tn])) :: (aS, .inr (0, [.int (nI P), .int (nI (P - 2)), .int (nI (P - 1)), .int (nI (P * (P - 2)))])) :: (aA, .inl (cQ, n, .inr (.inr (.inr (.inr (fun z8 => some (aTs z8))))))) :: (aL, .inl (cB, P, .inl (fun z9 => bI (lo z9)))) :: (aE, .inr (2, [.ref aS, .ref aEW, .ref aEK, .int un])) :: (aEW, .inl (cI, P * P, .inl tw)) :: (aEK, .inl (cB, P * P, .inl (fun z9 => bI (kn z9)))) :: (stW cI cB aS P aTs aWs aMs w ms mk n)) H := hP
  have hD : va_D A ((aR, .inr (3, [.ref aS, .ref aA, .ref aL, .ref aE, .int (bI pw), .int tn])) :: (aS, .inr (0, [.int (nI P), .int (nI (P - 2)), .int (nI (P - 1)), .int (nI (P * (P - 2)))])) :: (aA, .inl (cQ, n, .inr (.inr (.inr (.inr (fun z8 => some (aTs z8))))))) :: (aL, .inl (cB, P, .inl (fun z9 => bI (lo z9)))) :: (aE, .inr (2, [.ref aS, .ref aEW, .ref aEK, .int un])) :: (aEW, .inl (cI, P * P, .inl tw)) :: (aEK, .inl (cB, P * P, .inl (fun z9 => bI (kn z9)))) :: (stW cI cB aS P aTs aWs aMs w ms mk n)) := hD
  have hp := hp5.le
  have hpp := dr_PP hp5
  have hpq := dr_PP2 hp5
  refine lv_aload_n hx hb dX3_word_0 rfl (lv_at hl 0 rfl) ?_
  refine lv_iload_n hx hb dX3_word_1 rfl (lv_at hl 1 rfl) ?_
  refine gV (wr := [(aA, .inl (cQ, n, .inr (.inr (.inr (.inr (fun z8 => some (aTs z8))))))), (aL, .inl (cB, P, .inl (fun z9 => bI (lo z9)))), (aE, .inr (2, [.ref aS, .ref aEW, .ref aEK, .int un])), (aEW, .inl (cI, P * P, .inl tw)), (aEK, .inl (cB, P * P, .inl (fun z9 => bI (kn z9))))]) (pre := [(aR, .inr (3, [.ref aS, .ref aA, .ref aL, .ref aE, .int (bI pw), .int tn])), (aS, .inr (0, [.int (nI P), .int (nI (P - 2)), .int (nI (P - 1)), .int (nI (P * (P - 2)))])), (aA, .inl (cQ, n, .inr (.inr (.inr (.inr (fun z8 => some (aTs z8))))))), (aL, .inl (cB, P, .inl (fun z9 => bI (lo z9)))), (aE, .inr (2, [.ref aS, .ref aEW, .ref aEK, .int un])), (aEW, .inl (cI, P * P, .inl tw)), (aEK, .inl (cB, P * P, .inl (fun z9 => bI (kn z9))))]) (tl := (stW cI cB aS P aTs aWs aMs w ms mk n)) (G := fun (u : Unit) => [(aR, .inr (3, [.ref aS, .ref aA, .ref aL, .ref aE, .int (bI pw), .int tn])), (aS, .inr (0, [.int (nI P), .int (nI (P - 2)), .int (nI (P - 1)), .int (nI (P * (P - 2)))])), (aA, .inl (cQ, n, .inr (.inr (.inr (.inr (fun z8 => some (aTs z8))))))), (aL, .inl (cB, P, .inl (fun z9 => bI (lo z9)))), (aE, .inr (2, [.ref aS, .ref aEW, .ref aEK, .int un])), (aEW, .inl (cI, P * P, .inl tw)), (aEK, .inl (cB, P * P, .inl (fun z9 => bI (kn z9))))]) (b := aR) (As := [.int x]) (rst := []) ⟨hx, hb, hml, hown, hts⟩ (c_isDrive l dC dI cI cB cQ cJ aR aS aA aL aE pw tn P x ) (cwV 1 hts (gdV t_mX3_130 t_inst_X3_isDrive t_sel_X3_isDrive t_ini_X3 t_code_X3_isDrive) rfl rfl rfl (by decide +kernel) ⟨Nat.le_of_ble_eq_true rfl, Nat.le_of_ble_eq_true rfl⟩) hK hP hD hS hA [0, 1] [2, 3, 4, 5, 6] [0, 1, 2, 3, 4, 5, 6] rfl (by decide) (fun _ => rfl) (by decide) (ci := 3) rfl rfl rfl rfl hl.1 rfl (Nat.le_of_ble_eq_true rfl) dX3_word_2 ⟨Nat.zero_le _, Nat.zero_le _⟩ (fun r u H locs hu1 hP hD hS => ?_)
  have hr2 := hu1
  have hr2 : r = bI (dr_in x P) := hr2
  subst hr2
  have hP : va_P (dC, dI) vwCl ((aR, .inr (3, [.ref aS, .ref aA, .ref aL, .ref aE, .int (bI pw), .int tn])) :: (aS, .inr (0, [.int (nI P), .int (nI (P - 2)), .int (nI (P - 1)), .int (nI (P * (P - 2)))])) :: (aA, .inl (cQ, n, .inr (.inr (.inr (.inr (fun z8 => some (aTs z8))))))) :: (aL, .inl (cB, P, .inl (fun z9 => bI (lo z9)))) :: (aE, .inr (2, [.ref aS, .ref aEW, .ref aEK, .int un])) :: (aEW, .inl (cI, P * P, .inl tw)) :: (aEK, .inl (cB, P * P, .inl (fun z9 => bI (kn z9)))) :: (stW cI cB aS P aTs aWs aMs w ms mk n)) H := hP
  have hD : va_D A ((aR, .inr (3, [.ref aS, .ref aA, .ref aL, .ref aE, .int (bI pw), .int tn])) :: (aS, .inr (0, [.int (nI P), .int (nI (P - 2)), .int (nI (P - 1)), .int (nI (P * (P - 2)))])) :: (aA, .inl (cQ, n, .inr (.inr (.inr (.inr (fun z8 => some (aTs z8))))))) :: (aL, .inl (cB, P, .inl (fun z9 => bI (lo z9)))) :: (aE, .inr (2, [.ref aS, .ref aEW, .ref aEK, .int un])) :: (aEW, .inl (cI, P * P, .inl tw)) :: (aEK, .inl (cB, P * P, .inl (fun z9 => bI (kn z9)))) :: (stW cI cB aS P aTs aWs aMs w ms mk n)) := hD
  refine x_ifF (tgt := 31) hx hb dX3_word_5 (by decide) (fun h5 => ?_) (fun h5 => ?_)
  · -- 5t
    refine lv_iconst (v := 0) hx hb dX3_word_31 (by decide) ?_
    exact x_iret (D := (dC, dI)) (cl := vwCl) (A := A) () hQ hx hb hr hlk hP hD hS dX3_word_32 (by first | rfl | (simp [h5]; done) | (simp [h5]; omega))
  · -- 5f
    refine lv_aload_n hx hb dX3_word_8 rfl (lv_at hl 0 rfl) ?_
    refine lv_iload_n hx hb dX3_word_9 rfl (lv_at hl 2 rfl) ?_
    refine gV (wr := [(aS, .inr (0, [.int (nI P), .int (nI (P - 2)), .int (nI (P - 1)), .int (nI (P * (P - 2)))])), (aL, .inl (cB, P, .inl (fun z9 => bI (lo z9)))), (aE, .inr (2, [.ref aS, .ref aEW, .ref aEK, .int un])), (aEW, .inl (cI, P * P, .inl tw)), (aEK, .inl (cB, P * P, .inl (fun z9 => bI (kn z9))))]) (pre := [(aR, .inr (3, [.ref aS, .ref aA, .ref aL, .ref aE, .int (bI pw), .int tn])), (aS, .inr (0, [.int (nI P), .int (nI (P - 2)), .int (nI (P - 1)), .int (nI (P * (P - 2)))])), (aA, .inl (cQ, n, .inr (.inr (.inr (.inr (fun z8 => some (aTs z8))))))), (aL, .inl (cB, P, .inl (fun z9 => bI (lo z9)))), (aE, .inr (2, [.ref aS, .ref aEW, .ref aEK, .int un])), (aEW, .inl (cI, P * P, .inl tw)), (aEK, .inl (cB, P * P, .inl (fun z9 => bI (kn z9))))]) (tl := (stW cI cB aS P aTs aWs aMs w ms mk n)) (G := fun (u : Unit) => [(aR, .inr (3, [.ref aS, .ref aA, .ref aL, .ref aE, .int (bI pw), .int tn])), (aS, .inr (0, [.int (nI P), .int (nI (P - 2)), .int (nI (P - 1)), .int (nI (P * (P - 2)))])), (aA, .inl (cQ, n, .inr (.inr (.inr (.inr (fun z8 => some (aTs z8))))))), (aL, .inl (cB, P, .inl (fun z9 => bI (lo z9)))), (aE, .inr (2, [.ref aS, .ref aEW, .ref aEK, .int un])), (aEW, .inl (cI, P * P, .inl tw)), (aEK, .inl (cB, P * P, .inl (fun z9 => bI (kn z9))))]) (b := aR) (As := [.int y]) (rst := []) ⟨hx, hb, hml, hown, hts⟩ (c_isStripe l dC dI cI cB cQ cJ aR aS aA aL aE pw tn n aTs y ) (cwV 1 hts (gdV t_mX3_149 t_inst_X3_isStripe t_sel_X3_isStripe t_ini_X3 t_code_X3_isStripe) rfl rfl rfl (by decide +kernel) ⟨Nat.le_of_ble_eq_true rfl, Nat.le_of_ble_eq_true rfl⟩) hK hP hD hS hA [0, 2] [1, 3, 4, 5, 6] [0, 2, 1, 3, 4, 5, 6] rfl (by decide) (fun _ => rfl) (by decide) (ci := 3) rfl rfl rfl rfl hl.1 rfl (Nat.le_of_ble_eq_true rfl) dX3_word_10 ⟨Nat.zero_le _, Nat.zero_le _⟩ (fun r u H locs hu2 hP hD hS => ?_)
    have hr10 := hu2
    have hr10 : r = bI (dr_in y n) := hr10
    subst hr10
    have hP : va_P (dC, dI) vwCl ((aR, .inr (3, [.ref aS, .ref aA, .ref aL, .ref aE, .int (bI pw), .int tn])) :: (aS, .inr (0, [.int (nI P), .int (nI (P - 2)), .int (nI (P - 1)), .int (nI (P * (P - 2)))])) :: (aA, .inl (cQ, n, .inr (.inr (.inr (.inr (fun z8 => some (aTs z8))))))) :: (aL, .inl (cB, P, .inl (fun z9 => bI (lo z9)))) :: (aE, .inr (2, [.ref aS, .ref aEW, .ref aEK, .int un])) :: (aEW, .inl (cI, P * P, .inl tw)) :: (aEK, .inl (cB, P * P, .inl (fun z9 => bI (kn z9)))) :: (stW cI cB aS P aTs aWs aMs w ms mk n)) H := hP
    have hD : va_D A ((aR, .inr (3, [.ref aS, .ref aA, .ref aL, .ref aE, .int (bI pw), .int tn])) :: (aS, .inr (0, [.int (nI P), .int (nI (P - 2)), .int (nI (P - 1)), .int (nI (P * (P - 2)))])) :: (aA, .inl (cQ, n, .inr (.inr (.inr (.inr (fun z8 => some (aTs z8))))))) :: (aL, .inl (cB, P, .inl (fun z9 => bI (lo z9)))) :: (aE, .inr (2, [.ref aS, .ref aEW, .ref aEK, .int un])) :: (aEW, .inl (cI, P * P, .inl tw)) :: (aEK, .inl (cB, P * P, .inl (fun z9 => bI (kn z9)))) :: (stW cI cB aS P aTs aWs aMs w ms mk n)) := hD
    refine x_ifF (tgt := 31) hx hb dX3_word_13 (by decide) (fun h13 => ?_) (fun h13 => ?_)
    · -- 13t
      refine lv_iconst (v := 0) hx hb dX3_word_31 (by decide) ?_
      exact x_iret (D := (dC, dI)) (cl := vwCl) (A := A) () hQ hx hb hr hlk hP hD hS dX3_word_32 (by first | rfl | (simp [h5, h13]; done) | (simp [h5, h13]; omega))
    · -- 13f
      refine lv_iload_n hx hb dX3_word_16 rfl (lv_at hl 3 rfl) ?_
      refine lv_if_lt (tgt := 31) hx hb dX3_word_17 (by decide) (fun h17 => ?_) (fun h17 => ?_)
      · -- 17t
        refine lv_iconst (v := 0) hx hb dX3_word_31 (by decide) ?_
        exact x_iret (D := (dC, dI)) (cl := vwCl) (A := A) () hQ hx hb hr hlk hP hD hS dX3_word_32 (by first | rfl | (simp [h5, h13, h17]; done) | (simp [h5, h13, h17]; omega))
      · -- 17f
        refine lv_iload_n hx hb dX3_word_20 rfl (lv_at hl 3 rfl) ?_
        refine lv_aload_n hx hb dX3_word_21 rfl (lv_at hl 0 rfl) ?_
        refine va_get (D := (dC, dI)) (ci := 3) (v := .ref aS) (C := RX3) (T := TX3) (N := 6) hx hb hts inX3 hown hK hP 0 rfl rfl 0 (by decide) (hts _ t_fX3_32) (fun _ h9 => h9) rfl dX3_word_22 ?_
        refine va_get (D := (dC, dI)) (ci := 0) (v := .int (nI P)) (C := RX0) (T := TX0) (N := 4) hx hb hts inX0 hown hK hP 1 rfl rfl 0 (by decide) (hts _ t_fX3_40) (fun _ h9 => h9) rfl dX3_word_25 ?_
        refine lv_icmp_lt (tgt := 33) hx hb dX3_word_28 (by decide) (fun h28 => ?_) (fun h28 => ?_)
        · -- 28t
          exact absurd ⟨h5, h13, decide_eq_true ⟨h17, Int32.not_le.mpr h28⟩⟩ hc
        · -- 28f
          refine lv_iconst (v := 0) hx hb dX3_word_31 (by decide) ?_
          exact x_iret (D := (dC, dI)) (cl := vwCl) (A := A) () hQ hx hb hr hlk hP hD hS dX3_word_32 (by first | rfl | (simp [h5, h13, h17, h28]; done) | (simp [h5, h13, h17, h28]; omega))

abbrev rm_c_word1 : Room := { frames := 1, cells := 0, slots := 0, locals := 22 }
set_option maxHeartbeats 4000000 in
set_option maxRecDepth 100000 in
theorem c_word1 (l : Launch) (dC : Nat → ClassId) (dI : Nat → Nat → Nat) (cI cB cQ cJ : ClassId) (aR : Nat) (aS : Nat) (aA : Nat) (aL : Nat) (aE : Nat) (pw : Bool) (tn : Int32) (P : Nat) (n : Nat) (aTs : Nat → Nat) (aWs : Nat → Nat) (aMs : Nat → Nat) (lo : Nat → Bool) (aEW : Nat) (aEK : Nat) (tw : Nat → Int32) (kn : Nat → Bool) (un : Int32) (w : Nat → Nat → Int32) (ms : Nat → Nat → Bool) (mk : Nat → Bool) (d : Nat) (q : Nat) (k : Nat) (hp5 : dr_P P) (hn : n < 5) (hd : d < P) (hq : q < n) (hk : k < P) : MG l yX3_word (Cond.code yX3_word cX3_word 4 (some .int) :: TB) rm_c_word1 (dC, dI) vwCl (TY cI cB cQ cJ) [.ref aR, .int (nI d), .int (nI q), .int (nI k)] ((aR, .inr (3, [.ref aS, .ref aA, .ref aL, .ref aE, .int (bI pw), .int tn])) :: (aS, .inr (0, [.int (nI P), .int (nI (P - 2)), .int (nI (P - 1)), .int (nI (P * (P - 2)))])) :: (aA, .inl (cQ, n, .inr (.inr (.inr (.inr (fun z8 => some (aTs z8))))))) :: (aL, .inl (cB, P, .inl (fun z9 => bI (lo z9)))) :: (aE, .inr (2, [.ref aS, .ref aEW, .ref aEK, .int un])) :: (aEW, .inl (cI, P * P, .inl tw)) :: (aEK, .inl (cB, P * P, .inl (fun z9 => bI (kn z9)))) :: (stW cI cB aS P aTs aWs aMs w ms mk n)) (fun (r : Int32) (u : Unit) => r = w q (d * P + k)) (fun (u : Unit) => ((aR, .inr (3, [.ref aS, .ref aA, .ref aL, .ref aE, .int (bI pw), .int tn])) :: (aS, .inr (0, [.int (nI P), .int (nI (P - 2)), .int (nI (P - 1)), .int (nI (P * (P - 2)))])) :: (aA, .inl (cQ, n, .inr (.inr (.inr (.inr (fun z8 => some (aTs z8))))))) :: (aL, .inl (cB, P, .inl (fun z9 => bI (lo z9)))) :: (aE, .inr (2, [.ref aS, .ref aEW, .ref aEK, .int un])) :: (aEW, .inl (cI, P * P, .inl tw)) :: (aEK, .inl (cB, P * P, .inl (fun z9 => bI (kn z9)))) :: (stW cI cB aS P aTs aWs aMs w ms mk n))) := by
  refine MG.ofW (cc := cX3_word) (maxL := 4) (rt := .int) (by decide +kernel) rfl (Nat.le_of_ble_eq_true rfl) ?_
  intro p e s m args below meth c A ls Q H locs hQ hx hb hml hr hlk hts hown hK hP hD hS hA hl
  have hts : ∀ w ∈ TB, w.before args s = true := fun w h => hts w (List.mem_cons_of_mem _ h)
  have hown : s.vm.findClass RX3 = some m.cls := hown
  have hl : lv_has ls 4 [(0, .ref aR), (1, .int (nI d)), (2, .int (nI q)), (3, .int (nI k))] := hl
  have hP : va_P (dC, dI) vwCl ((aR, .inr (3, [.ref aS, .ref aA, .ref aL, .ref aE, .int (bI pw), .int tn])) :: (aS, .inr (0, [.int (nI P), .int (nI (P - 2)), .int (nI (P - 1)), .int (nI (P * (P - 2)))])) :: (aA, .inl (cQ, n, .inr (.inr (.inr (.inr (fun z8 => some (aTs z8))))))) :: (aL, .inl (cB, P, .inl (fun z9 => bI (lo z9)))) :: (aE, .inr (2, [.ref aS, .ref aEW, .ref aEK, .int un])) :: (aEW, .inl (cI, P * P, .inl tw)) :: (aEK, .inl (cB, P * P, .inl (fun z9 => bI (kn z9)))) :: (stW cI cB aS P aTs aWs aMs w ms mk n)) H := hP
  have hD : va_D A ((aR, .inr (3, [.ref aS, .ref aA, .ref aL, .ref aE, .int (bI pw), .int tn])) :: (aS, .inr (0, [.int (nI P), .int (nI (P - 2)), .int (nI (P - 1)), .int (nI (P * (P - 2)))])) :: (aA, .inl (cQ, n, .inr (.inr (.inr (.inr (fun z8 => some (aTs z8))))))) :: (aL, .inl (cB, P, .inl (fun z9 => bI (lo z9)))) :: (aE, .inr (2, [.ref aS, .ref aEW, .ref aEK, .int un])) :: (aEW, .inl (cI, P * P, .inl tw)) :: (aEK, .inl (cB, P * P, .inl (fun z9 => bI (kn z9)))) :: (stW cI cB aS P aTs aWs aMs w ms mk n)) := hD
  have hp := hp5.le
  have hpp := dr_PP hp5
  have hpq := dr_PP2 hp5
  refine lv_aload_n hx hb dX3_word_0 rfl (lv_at hl 0 rfl) ?_
  refine lv_iload_n hx hb dX3_word_1 rfl (lv_at hl 1 rfl) ?_
  refine gV (wr := [(aA, .inl (cQ, n, .inr (.inr (.inr (.inr (fun z8 => some (aTs z8))))))), (aL, .inl (cB, P, .inl (fun z9 => bI (lo z9)))), (aE, .inr (2, [.ref aS, .ref aEW, .ref aEK, .int un])), (aEW, .inl (cI, P * P, .inl tw)), (aEK, .inl (cB, P * P, .inl (fun z9 => bI (kn z9))))]) (pre := [(aR, .inr (3, [.ref aS, .ref aA, .ref aL, .ref aE, .int (bI pw), .int tn])), (aS, .inr (0, [.int (nI P), .int (nI (P - 2)), .int (nI (P - 1)), .int (nI (P * (P - 2)))])), (aA, .inl (cQ, n, .inr (.inr (.inr (.inr (fun z8 => some (aTs z8))))))), (aL, .inl (cB, P, .inl (fun z9 => bI (lo z9)))), (aE, .inr (2, [.ref aS, .ref aEW, .ref aEK, .int un])), (aEW, .inl (cI, P * P, .inl tw)), (aEK, .inl (cB, P * P, .inl (fun z9 => bI (kn z9))))]) (tl := (stW cI cB aS P aTs aWs aMs w ms mk n)) (G := fun (u : Unit) => [(aR, .inr (3, [.ref aS, .ref aA, .ref aL, .ref aE, .int (bI pw), .int tn])), (aS, .inr (0, [.int (nI P), .int (nI (P - 2)), .int (nI (P - 1)), .int (nI (P * (P - 2)))])), (aA, .inl (cQ, n, .inr (.inr (.inr (.inr (fun z8 => some (aTs z8))))))), (aL, .inl (cB, P, .inl (fun z9 => bI (lo z9)))), (aE, .inr (2, [.ref aS, .ref aEW, .ref aEK, .int un])), (aEW, .inl (cI, P * P, .inl tw)), (aEK, .inl (cB, P * P, .inl (fun z9 => bI (kn z9))))]) (b := aR) (As := [.int (nI d)]) (rst := []) ⟨hx, hb, hml, hown, hts⟩ (c_isDrive l dC dI cI cB cQ cJ aR aS aA aL aE pw tn P (nI d) ) (cwV 1 hts (gdV t_mX3_130 t_inst_X3_isDrive t_sel_X3_isDrive t_ini_X3 t_code_X3_isDrive) rfl rfl rfl (by decide +kernel) ⟨Nat.le_of_ble_eq_true rfl, Nat.le_of_ble_eq_true rfl⟩) hK hP hD hS hA [0, 1] [2, 3, 4, 5, 6] [0, 1, 2, 3, 4, 5, 6] rfl (by decide) (fun _ => rfl) (by decide) (ci := 3) rfl rfl rfl rfl hl.1 rfl (Nat.le_of_ble_eq_true rfl) dX3_word_2 ⟨Nat.zero_le _, Nat.zero_le _⟩ (fun r u H locs hu1 hP hD hS => ?_)
  have hr2 := hu1
  have hr2 : r = bI (dr_in (nI d) P) := hr2
  subst hr2
  have hP : va_P (dC, dI) vwCl ((aR, .inr (3, [.ref aS, .ref aA, .ref aL, .ref aE, .int (bI pw), .int tn])) :: (aS, .inr (0, [.int (nI P), .int (nI (P - 2)), .int (nI (P - 1)), .int (nI (P * (P - 2)))])) :: (aA, .inl (cQ, n, .inr (.inr (.inr (.inr (fun z8 => some (aTs z8))))))) :: (aL, .inl (cB, P, .inl (fun z9 => bI (lo z9)))) :: (aE, .inr (2, [.ref aS, .ref aEW, .ref aEK, .int un])) :: (aEW, .inl (cI, P * P, .inl tw)) :: (aEK, .inl (cB, P * P, .inl (fun z9 => bI (kn z9)))) :: (stW cI cB aS P aTs aWs aMs w ms mk n)) H := hP
  have hD : va_D A ((aR, .inr (3, [.ref aS, .ref aA, .ref aL, .ref aE, .int (bI pw), .int tn])) :: (aS, .inr (0, [.int (nI P), .int (nI (P - 2)), .int (nI (P - 1)), .int (nI (P * (P - 2)))])) :: (aA, .inl (cQ, n, .inr (.inr (.inr (.inr (fun z8 => some (aTs z8))))))) :: (aL, .inl (cB, P, .inl (fun z9 => bI (lo z9)))) :: (aE, .inr (2, [.ref aS, .ref aEW, .ref aEK, .int un])) :: (aEW, .inl (cI, P * P, .inl tw)) :: (aEK, .inl (cB, P * P, .inl (fun z9 => bI (kn z9)))) :: (stW cI cB aS P aTs aWs aMs w ms mk n)) := hD
  refine x_top (show bI (dr_in (nI d) P) = bI true from (congrArg bI (dr_in_of (by omega) hd))) ?_
  refine x_ifF (tgt := 31) hx hb dX3_word_5 (by decide) (fun z9 => by cases z9) (fun _ => ?_)
  refine lv_aload_n hx hb dX3_word_8 rfl (lv_at hl 0 rfl) ?_
  refine lv_iload_n hx hb dX3_word_9 rfl (lv_at hl 2 rfl) ?_
  refine gV (wr := [(aS, .inr (0, [.int (nI P), .int (nI (P - 2)), .int (nI (P - 1)), .int (nI (P * (P - 2)))])), (aL, .inl (cB, P, .inl (fun z9 => bI (lo z9)))), (aE, .inr (2, [.ref aS, .ref aEW, .ref aEK, .int un])), (aEW, .inl (cI, P * P, .inl tw)), (aEK, .inl (cB, P * P, .inl (fun z9 => bI (kn z9))))]) (pre := [(aR, .inr (3, [.ref aS, .ref aA, .ref aL, .ref aE, .int (bI pw), .int tn])), (aS, .inr (0, [.int (nI P), .int (nI (P - 2)), .int (nI (P - 1)), .int (nI (P * (P - 2)))])), (aA, .inl (cQ, n, .inr (.inr (.inr (.inr (fun z8 => some (aTs z8))))))), (aL, .inl (cB, P, .inl (fun z9 => bI (lo z9)))), (aE, .inr (2, [.ref aS, .ref aEW, .ref aEK, .int un])), (aEW, .inl (cI, P * P, .inl tw)), (aEK, .inl (cB, P * P, .inl (fun z9 => bI (kn z9))))]) (tl := (stW cI cB aS P aTs aWs aMs w ms mk n)) (G := fun (u : Unit) => [(aR, .inr (3, [.ref aS, .ref aA, .ref aL, .ref aE, .int (bI pw), .int tn])), (aS, .inr (0, [.int (nI P), .int (nI (P - 2)), .int (nI (P - 1)), .int (nI (P * (P - 2)))])), (aA, .inl (cQ, n, .inr (.inr (.inr (.inr (fun z8 => some (aTs z8))))))), (aL, .inl (cB, P, .inl (fun z9 => bI (lo z9)))), (aE, .inr (2, [.ref aS, .ref aEW, .ref aEK, .int un])), (aEW, .inl (cI, P * P, .inl tw)), (aEK, .inl (cB, P * P, .inl (fun z9 => bI (kn z9))))]) (b := aR) (As := [.int (nI q)]) (rst := []) ⟨hx, hb, hml, hown, hts⟩ (c_isStripe l dC dI cI cB cQ cJ aR aS aA aL aE pw tn n aTs (nI q) ) (cwV 1 hts (gdV t_mX3_149 t_inst_X3_isStripe t_sel_X3_isStripe t_ini_X3 t_code_X3_isStripe) rfl rfl rfl (by decide +kernel) ⟨Nat.le_of_ble_eq_true rfl, Nat.le_of_ble_eq_true rfl⟩) hK hP hD hS hA [0, 2] [1, 3, 4, 5, 6] [0, 2, 1, 3, 4, 5, 6] rfl (by decide) (fun _ => rfl) (by decide) (ci := 3) rfl rfl rfl rfl hl.1 rfl (Nat.le_of_ble_eq_true rfl) dX3_word_10 ⟨Nat.zero_le _, Nat.zero_le _⟩ (fun r u H locs hu2 hP hD hS => ?_)
  have hr10 := hu2
  have hr10 : r = bI (dr_in (nI q) n) := hr10
  subst hr10
  have hP : va_P (dC, dI) vwCl ((aR, .inr (3, [.ref aS, .ref aA, .ref aL, .ref aE, .int (bI pw), .int tn])) :: (aS, .inr (0, [.int (nI P), .int (nI (P - 2)), .int (nI (P - 1)), .int (nI (P * (P - 2)))])) :: (aA, .inl (cQ, n, .inr (.inr (.inr (.inr (fun z8 => some (aTs z8))))))) :: (aL, .inl (cB, P, .inl (fun z9 => bI (lo z9)))) :: (aE, .inr (2, [.ref aS, .ref aEW, .ref aEK, .int un])) :: (aEW, .inl (cI, P * P, .inl tw)) :: (aEK, .inl (cB, P * P, .inl (fun z9 => bI (kn z9)))) :: (stW cI cB aS P aTs aWs aMs w ms mk n)) H := hP
  have hD : va_D A ((aR, .inr (3, [.ref aS, .ref aA, .ref aL, .ref aE, .int (bI pw), .int tn])) :: (aS, .inr (0, [.int (nI P), .int (nI (P - 2)), .int (nI (P - 1)), .int (nI (P * (P - 2)))])) :: (aA, .inl (cQ, n, .inr (.inr (.inr (.inr (fun z8 => some (aTs z8))))))) :: (aL, .inl (cB, P, .inl (fun z9 => bI (lo z9)))) :: (aE, .inr (2, [.ref aS, .ref aEW, .ref aEK, .int un])) :: (aEW, .inl (cI, P * P, .inl tw)) :: (aEK, .inl (cB, P * P, .inl (fun z9 => bI (kn z9)))) :: (stW cI cB aS P aTs aWs aMs w ms mk n)) := hD
  refine x_top (show bI (dr_in (nI q) n) = bI true from (congrArg bI (dr_in_of (by omega) hq))) ?_
  refine x_ifF (tgt := 31) hx hb dX3_word_13 (by decide) (fun z9 => by cases z9) (fun _ => ?_)
  refine lv_iload_n hx hb dX3_word_16 rfl (lv_at hl 3 rfl) ?_
  refine lv_if_lt (tgt := 31) hx hb dX3_word_17 (by decide) (fun h17 => ?_) (fun h17 => ?_)
  · -- 17t
    exact absurd h17 (nI_pos (by omega))
  · -- 17f
    refine lv_iload_n hx hb dX3_word_20 rfl (lv_at hl 3 rfl) ?_
    refine lv_aload_n hx hb dX3_word_21 rfl (lv_at hl 0 rfl) ?_
    refine va_get (D := (dC, dI)) (ci := 3) (v := .ref aS) (C := RX3) (T := TX3) (N := 6) hx hb hts inX3 hown hK hP 0 rfl rfl 0 (by decide) (hts _ t_fX3_32) (fun _ h9 => h9) rfl dX3_word_22 ?_
    refine va_get (D := (dC, dI)) (ci := 0) (v := .int (nI P)) (C := RX0) (T := TX0) (N := 4) hx hb hts inX0 hown hK hP 1 rfl rfl 0 (by decide) (hts _ t_fX3_40) (fun _ h9 => h9) rfl dX3_word_25 ?_
    refine x_clt (tgt := 33) hx hb dX3_word_28 (by decide) (by omega) (by omega) (fun h28 => ?_) (fun h28 => ?_)
    · -- 28t
      refine lv_aload_n hx hb dX3_word_33 rfl (lv_at hl 0 rfl) ?_
      refine va_get (D := (dC, dI)) (ci := 3) (v := .ref aA) (C := RX3) (T := TX3) (N := 6) hx hb hts inX3 hown hK hP 0 rfl rfl 1 (by decide) (hts _ t_fX3_36) (fun _ h9 => h9) rfl dX3_word_34 ?_
      refine lv_iload_n hx hb dX3_word_37 rfl (lv_at hl 2 rfl) ?_
      refine x_aald (q := aTs q) hx hb hK hP 2 2 rfl rfl dX3_word_38 (by omega) (by omega) rfl ?_
      have hP := foc_P (pre := [(aR, .inr (3, [.ref aS, .ref aA, .ref aL, .ref aE, .int (bI pw), .int tn])), (aS, .inr (0, [.int (nI P), .int (nI (P - 2)), .int (nI (P - 1)), .int (nI (P * (P - 2)))])), (aA, .inl (cQ, n, .inr (.inr (.inr (.inr (fun z8 => some (aTs z8))))))), (aL, .inl (cB, P, .inl (fun z9 => bI (lo z9)))), (aE, .inr (2, [.ref aS, .ref aEW, .ref aEK, .int un])), (aEW, .inl (cI, P * P, .inl tw)), (aEK, .inl (cB, P * P, .inl (fun z9 => bI (kn z9))))]) (s := q) hP hq
      have hD := foc_D (pre := [(aR, .inr (3, [.ref aS, .ref aA, .ref aL, .ref aE, .int (bI pw), .int tn])), (aS, .inr (0, [.int (nI P), .int (nI (P - 2)), .int (nI (P - 1)), .int (nI (P * (P - 2)))])), (aA, .inl (cQ, n, .inr (.inr (.inr (.inr (fun z8 => some (aTs z8))))))), (aL, .inl (cB, P, .inl (fun z9 => bI (lo z9)))), (aE, .inr (2, [.ref aS, .ref aEW, .ref aEK, .int un])), (aEW, .inl (cI, P * P, .inl tw)), (aEK, .inl (cB, P * P, .inl (fun z9 => bI (kn z9))))]) (s := q) hD hq
      have hP : va_P (dC, dI) vwCl ((aR, .inr (3, [.ref aS, .ref aA, .ref aL, .ref aE, .int (bI pw), .int tn])) :: (aS, .inr (0, [.int (nI P), .int (nI (P - 2)), .int (nI (P - 1)), .int (nI (P * (P - 2)))])) :: (aA, .inl (cQ, n, .inr (.inr (.inr (.inr (fun z8 => some (aTs z8))))))) :: (aL, .inl (cB, P, .inl (fun z9 => bI (lo z9)))) :: (aE, .inr (2, [.ref aS, .ref aEW, .ref aEK, .int un])) :: (aEW, .inl (cI, P * P, .inl tw)) :: (aEK, .inl (cB, P * P, .inl (fun z9 => bI (kn z9)))) :: (aTs q, .inr (1, [.ref aS, .ref (aWs q), .ref (aMs q), .int (bI (mk q))])) :: (aWs q, .inl (cI, P * P, .inl (w q))) :: (aMs q, .inl (cB, P, .inl (fun z9 => bI ((ms q) z9)))) :: (stO cI cB aS P aTs aWs aMs w ms mk n q)) H := hP
      have hD : va_D A ((aR, .inr (3, [.ref aS, .ref aA, .ref aL, .ref aE, .int (bI pw), .int tn])) :: (aS, .inr (0, [.int (nI P), .int (nI (P - 2)), .int (nI (P - 1)), .int (nI (P * (P - 2)))])) :: (aA, .inl (cQ, n, .inr (.inr (.inr (.inr (fun z8 => some (aTs z8))))))) :: (aL, .inl (cB, P, .inl (fun z9 => bI (lo z9)))) :: (aE, .inr (2, [.ref aS, .ref aEW, .ref aEK, .int un])) :: (aEW, .inl (cI, P * P, .inl tw)) :: (aEK, .inl (cB, P * P, .inl (fun z9 => bI (kn z9)))) :: (aTs q, .inr (1, [.ref aS, .ref (aWs q), .ref (aMs q), .int (bI (mk q))])) :: (aWs q, .inl (cI, P * P, .inl (w q))) :: (aMs q, .inl (cB, P, .inl (fun z9 => bI ((ms q) z9)))) :: (stO cI cB aS P aTs aWs aMs w ms mk n q)) := hD
      refine va_get (D := (dC, dI)) (ci := 1) (v := .ref (aWs q)) (C := RX1) (T := TX1) (N := 4) hx hb hts inX1 hown hK hP 7 rfl rfl 1 (by decide) (hts _ t_fX3_152) (fun _ h9 => h9) rfl dX3_word_39 ?_
      refine lv_aload_n hx hb dX3_word_42 rfl (lv_at hl 0 rfl) ?_
      refine va_get (D := (dC, dI)) (ci := 3) (v := .ref aS) (C := RX3) (T := TX3) (N := 6) hx hb hts inX3 hown hK hP 0 rfl rfl 0 (by decide) (hts _ t_fX3_32) (fun _ h9 => h9) rfl dX3_word_43 ?_
      refine lv_iload_n hx hb dX3_word_46 rfl (lv_at hl 1 rfl) ?_
      refine lv_iload_n hx hb dX3_word_47 rfl (lv_at hl 3 rfl) ?_
      refine gV (wr := [(aR, .inr (3, [.ref aS, .ref aA, .ref aL, .ref aE, .int (bI pw), .int tn])), (aA, .inl (cQ, n, .inr (.inr (.inr (.inr (fun z8 => some (aTs z8))))))), (aL, .inl (cB, P, .inl (fun z9 => bI (lo z9)))), (aE, .inr (2, [.ref aS, .ref aEW, .ref aEK, .int un])), (aEW, .inl (cI, P * P, .inl tw)), (aEK, .inl (cB, P * P, .inl (fun z9 => bI (kn z9)))), (aTs q, .inr (1, [.ref aS, .ref (aWs q), .ref (aMs q), .int (bI (mk q))])), (aWs q, .inl (cI, P * P, .inl (w q))), (aMs q, .inl (cB, P, .inl (fun z9 => bI ((ms q) z9))))]) (pre := [(aR, .inr (3, [.ref aS, .ref aA, .ref aL, .ref aE, .int (bI pw), .int tn])), (aS, .inr (0, [.int (nI P), .int (nI (P - 2)), .int (nI (P - 1)), .int (nI (P * (P - 2)))])), (aA, .inl (cQ, n, .inr (.inr (.inr (.inr (fun z8 => some (aTs z8))))))), (aL, .inl (cB, P, .inl (fun z9 => bI (lo z9)))), (aE, .inr (2, [.ref aS, .ref aEW, .ref aEK, .int un])), (aEW, .inl (cI, P * P, .inl tw)), (aEK, .inl (cB, P * P, .inl (fun z9 => bI (kn z9)))), (aTs q, .inr (1, [.ref aS, .ref (aWs q), .ref (aMs q), .int (bI (mk q))])), (aWs q, .inl (cI, P * P, .inl (w q))), (aMs q, .inl (cB, P, .inl (fun z9 => bI ((ms q) z9))))]) (tl := (stO cI cB aS P aTs aWs aMs w ms mk n q)) (G := fun (u : Unit) => [(aR, .inr (3, [.ref aS, .ref aA, .ref aL, .ref aE, .int (bI pw), .int tn])), (aS, .inr (0, [.int (nI P), .int (nI (P - 2)), .int (nI (P - 1)), .int (nI (P * (P - 2)))])), (aA, .inl (cQ, n, .inr (.inr (.inr (.inr (fun z8 => some (aTs z8))))))), (aL, .inl (cB, P, .inl (fun z9 => bI (lo z9)))), (aE, .inr (2, [.ref aS, .ref aEW, .ref aEK, .int un])), (aEW, .inl (cI, P * P, .inl tw)), (aEK, .inl (cB, P * P, .inl (fun z9 => bI (kn z9)))), (aTs q, .inr (1, [.ref aS, .ref (aWs q), .ref (aMs q), .int (bI (mk q))])), (aWs q, .inl (cI, P * P, .inl (w q))), (aMs q, .inl (cB, P, .inl (fun z9 => bI ((ms q) z9))))]) (b := aS) (As := [.int (nI d), .int (nI k)]) (rst := [.ref (aWs q)]) ⟨hx, hb, hml, hown, hts⟩ (c_place l dC dI cI cB cQ cJ aS P d k ) (cwV 2 hts (gdV t_mX3_156 t_inst_X0_place t_sel_X0_place t_ini_X0 t_code_X0_place) rfl rfl rfl (by decide +kernel) ⟨Nat.le_of_ble_eq_true rfl, Nat.le_of_ble_eq_true rfl⟩) hK hP hD hS hA [1] [0, 2, 3, 4, 5, 6, 7, 8, 9] [1, 0, 2, 3, 4, 5, 6, 7, 8, 9] rfl (by decide) (fun _ => rfl) (by decide) (ci := 0) rfl rfl rfl rfl hl.1 rfl (Nat.le_of_ble_eq_true rfl) dX3_word_48 ⟨Nat.zero_le _, Nat.zero_le _⟩ (fun r u H locs hu3 hP hD hS => ?_)
      have hr48 := hu3
      have hr48 : r = nI (d * P + k) := hr48
      subst hr48
      have hP : va_P (dC, dI) vwCl ((aR, .inr (3, [.ref aS, .ref aA, .ref aL, .ref aE, .int (bI pw), .int tn])) :: (aS, .inr (0, [.int (nI P), .int (nI (P - 2)), .int (nI (P - 1)), .int (nI (P * (P - 2)))])) :: (aA, .inl (cQ, n, .inr (.inr (.inr (.inr (fun z8 => some (aTs z8))))))) :: (aL, .inl (cB, P, .inl (fun z9 => bI (lo z9)))) :: (aE, .inr (2, [.ref aS, .ref aEW, .ref aEK, .int un])) :: (aEW, .inl (cI, P * P, .inl tw)) :: (aEK, .inl (cB, P * P, .inl (fun z9 => bI (kn z9)))) :: (aTs q, .inr (1, [.ref aS, .ref (aWs q), .ref (aMs q), .int (bI (mk q))])) :: (aWs q, .inl (cI, P * P, .inl (w q))) :: (aMs q, .inl (cB, P, .inl (fun z9 => bI ((ms q) z9)))) :: (stO cI cB aS P aTs aWs aMs w ms mk n q)) H := hP
      have hD : va_D A ((aR, .inr (3, [.ref aS, .ref aA, .ref aL, .ref aE, .int (bI pw), .int tn])) :: (aS, .inr (0, [.int (nI P), .int (nI (P - 2)), .int (nI (P - 1)), .int (nI (P * (P - 2)))])) :: (aA, .inl (cQ, n, .inr (.inr (.inr (.inr (fun z8 => some (aTs z8))))))) :: (aL, .inl (cB, P, .inl (fun z9 => bI (lo z9)))) :: (aE, .inr (2, [.ref aS, .ref aEW, .ref aEK, .int un])) :: (aEW, .inl (cI, P * P, .inl tw)) :: (aEK, .inl (cB, P * P, .inl (fun z9 => bI (kn z9)))) :: (aTs q, .inr (1, [.ref aS, .ref (aWs q), .ref (aMs q), .int (bI (mk q))])) :: (aWs q, .inl (cI, P * P, .inl (w q))) :: (aMs q, .inl (cB, P, .inl (fun z9 => bI ((ms q) z9)))) :: (stO cI cB aS P aTs aWs aMs w ms mk n q)) := hD
      refine x_iald (f := w q) hx hb hK hP 8 0 rfl rfl dX3_word_51 (dr_pl hd hk) (by omega) ?_
      have hP := unf0_P (pre := [(aR, .inr (3, [.ref aS, .ref aA, .ref aL, .ref aE, .int (bI pw), .int tn])), (aS, .inr (0, [.int (nI P), .int (nI (P - 2)), .int (nI (P - 1)), .int (nI (P * (P - 2)))])), (aA, .inl (cQ, n, .inr (.inr (.inr (.inr (fun z8 => some (aTs z8))))))), (aL, .inl (cB, P, .inl (fun z9 => bI (lo z9)))), (aE, .inr (2, [.ref aS, .ref aEW, .ref aEK, .int un])), (aEW, .inl (cI, P * P, .inl tw)), (aEK, .inl (cB, P * P, .inl (fun z9 => bI (kn z9))))]) (s := q) hP hq
      have hD := unf0_D (pre := [(aR, .inr (3, [.ref aS, .ref aA, .ref aL, .ref aE, .int (bI pw), .int tn])), (aS, .inr (0, [.int (nI P), .int (nI (P - 2)), .int (nI (P - 1)), .int (nI (P * (P - 2)))])), (aA, .inl (cQ, n, .inr (.inr (.inr (.inr (fun z8 => some (aTs z8))))))), (aL, .inl (cB, P, .inl (fun z9 => bI (lo z9)))), (aE, .inr (2, [.ref aS, .ref aEW, .ref aEK, .int un])), (aEW, .inl (cI, P * P, .inl tw)), (aEK, .inl (cB, P * P, .inl (fun z9 => bI (kn z9))))]) (s := q) hD hq
      have hP : va_P (dC, dI) vwCl ((aR, .inr (3, [.ref aS, .ref aA, .ref aL, .ref aE, .int (bI pw), .int tn])) :: (aS, .inr (0, [.int (nI P), .int (nI (P - 2)), .int (nI (P - 1)), .int (nI (P * (P - 2)))])) :: (aA, .inl (cQ, n, .inr (.inr (.inr (.inr (fun z8 => some (aTs z8))))))) :: (aL, .inl (cB, P, .inl (fun z9 => bI (lo z9)))) :: (aE, .inr (2, [.ref aS, .ref aEW, .ref aEK, .int un])) :: (aEW, .inl (cI, P * P, .inl tw)) :: (aEK, .inl (cB, P * P, .inl (fun z9 => bI (kn z9)))) :: (stW cI cB aS P aTs aWs aMs w ms mk n)) H := hP
      have hD : va_D A ((aR, .inr (3, [.ref aS, .ref aA, .ref aL, .ref aE, .int (bI pw), .int tn])) :: (aS, .inr (0, [.int (nI P), .int (nI (P - 2)), .int (nI (P - 1)), .int (nI (P * (P - 2)))])) :: (aA, .inl (cQ, n, .inr (.inr (.inr (.inr (fun z8 => some (aTs z8))))))) :: (aL, .inl (cB, P, .inl (fun z9 => bI (lo z9)))) :: (aE, .inr (2, [.ref aS, .ref aEW, .ref aEK, .int un])) :: (aEW, .inl (cI, P * P, .inl tw)) :: (aEK, .inl (cB, P * P, .inl (fun z9 => bI (kn z9)))) :: (stW cI cB aS P aTs aWs aMs w ms mk n)) := hD
      exact x_iret (D := (dC, dI)) (cl := vwCl) (A := A) () hQ hx hb hr hlk hP hD hS dX3_word_52 (by first | rfl | (simp [h17, h28]; done) | (simp [h17, h28]; omega))
    · -- 28f
      omega

abbrev rm_c_lose0 : Room := { frames := 1, cells := 0, slots := 0, locals := 21 }
set_option maxHeartbeats 4000000 in
set_option maxRecDepth 100000 in
theorem c_lose0 (l : Launch) (dC : Nat → ClassId) (dI : Nat → Nat → Nat) (cI cB cQ cJ : ClassId) (aR : Nat) (aS : Nat) (aA : Nat) (aL : Nat) (aE : Nat) (pw : Bool) (tn : Int32) (P : Nat) (n : Nat) (aTs : Nat → Nat) (aWs : Nat → Nat) (aMs : Nat → Nat) (lo : Nat → Bool) (aEW : Nat) (aEK : Nat) (tw : Nat → Int32) (kn : Nat → Bool) (un : Int32) (w : Nat → Nat → Int32) (ms : Nat → Nat → Bool) (mk : Nat → Bool) (x : Int32) (hp5 : dr_P P) (hn : n < 5) (hc : dr_in x P = false) : MG l yX3_lose (Cond.code yX3_lose cX3_lose 3 (some .boolean) :: TB) rm_c_lose0 (dC, dI) vwCl (TY cI cB cQ cJ) [.ref aR, .int x] ((aR, .inr (3, [.ref aS, .ref aA, .ref aL, .ref aE, .int (bI pw), .int tn])) :: (aS, .inr (0, [.int (nI P), .int (nI (P - 2)), .int (nI (P - 1)), .int (nI (P * (P - 2)))])) :: (aA, .inl (cQ, n, .inr (.inr (.inr (.inr (fun z8 => some (aTs z8))))))) :: (aL, .inl (cB, P, .inl (fun z9 => bI (lo z9)))) :: (aE, .inr (2, [.ref aS, .ref aEW, .ref aEK, .int un])) :: (aEW, .inl (cI, P * P, .inl tw)) :: (aEK, .inl (cB, P * P, .inl (fun z9 => bI (kn z9)))) :: (stW cI cB aS P aTs aWs aMs w ms mk n)) (fun (r : Int32) (u : Unit) => r = bI false) (fun (u : Unit) => ((aR, .inr (3, [.ref aS, .ref aA, .ref aL, .ref aE, .int (bI pw), .int tn])) :: (aS, .inr (0, [.int (nI P), .int (nI (P - 2)), .int (nI (P - 1)), .int (nI (P * (P - 2)))])) :: (aA, .inl (cQ, n, .inr (.inr (.inr (.inr (fun z8 => some (aTs z8))))))) :: (aL, .inl (cB, P, .inl (fun z9 => bI (lo z9)))) :: (aE, .inr (2, [.ref aS, .ref aEW, .ref aEK, .int un])) :: (aEW, .inl (cI, P * P, .inl tw)) :: (aEK, .inl (cB, P * P, .inl (fun z9 => bI (kn z9)))) :: (stW cI cB aS P aTs aWs aMs w ms mk n))) := by
  refine MG.ofW (cc := cX3_lose) (maxL := 3) (rt := .boolean) (by decide +kernel) rfl (Nat.le_of_ble_eq_true rfl) ?_
  intro p e s m args below meth c A ls Q H locs hQ hx hb hml hr hlk hts hown hK hP hD hS hA hl
  have hts : ∀ w ∈ TB, w.before args s = true := fun w h => hts w (List.mem_cons_of_mem _ h)
  have hown : s.vm.findClass RX3 = some m.cls := hown
  have hl : lv_has ls 3 [(0, .ref aR), (1, .int x)] := hl
  have hP : va_P (dC, dI) vwCl ((aR, .inr (3, [.ref aS, .ref aA, .ref aL, .ref aE, .int (bI pw), .int tn])) :: (aS, .inr (0, [.int (nI P), .int (nI (P - 2)), .int (nI (P - 1)), .int (nI (P * (P - 2)))])) :: (aA, .inl (cQ, n, .inr (.inr (.inr (.inr (fun z8 => some (aTs z8))))))) :: (aL, .inl (cB, P, .inl (fun z9 => bI (lo z9)))) :: (aE, .inr (2, [.ref aS, .ref aEW, .ref aEK, .int un])) :: (aEW, .inl (cI, P * P, .inl tw)) :: (aEK, .inl (cB, P * P, .inl (fun z9 => bI (kn z9)))) :: (stW cI cB aS P aTs aWs aMs w ms mk n)) H := hP
  have hD : va_D A ((aR, .inr (3, [.ref aS, .ref aA, .ref aL, .ref aE, .int (bI pw), .int tn])) :: (aS, .inr (0, [.int (nI P), .int (nI (P - 2)), .int (nI (P - 1)), .int (nI (P * (P - 2)))])) :: (aA, .inl (cQ, n, .inr (.inr (.inr (.inr (fun z8 => some (aTs z8))))))) :: (aL, .inl (cB, P, .inl (fun z9 => bI (lo z9)))) :: (aE, .inr (2, [.ref aS, .ref aEW, .ref aEK, .int un])) :: (aEW, .inl (cI, P * P, .inl tw)) :: (aEK, .inl (cB, P * P, .inl (fun z9 => bI (kn z9)))) :: (stW cI cB aS P aTs aWs aMs w ms mk n)) := hD
  have hp := hp5.le
  have hpp := dr_PP hp5
  have hpq := dr_PP2 hp5
  refine lv_aload_n hx hb dX3_lose_0 rfl (lv_at hl 0 rfl) ?_
  refine lv_iload_n hx hb dX3_lose_1 rfl (lv_at hl 1 rfl) ?_
  refine gV (wr := [(aA, .inl (cQ, n, .inr (.inr (.inr (.inr (fun z8 => some (aTs z8))))))), (aL, .inl (cB, P, .inl (fun z9 => bI (lo z9)))), (aE, .inr (2, [.ref aS, .ref aEW, .ref aEK, .int un])), (aEW, .inl (cI, P * P, .inl tw)), (aEK, .inl (cB, P * P, .inl (fun z9 => bI (kn z9))))]) (pre := [(aR, .inr (3, [.ref aS, .ref aA, .ref aL, .ref aE, .int (bI pw), .int tn])), (aS, .inr (0, [.int (nI P), .int (nI (P - 2)), .int (nI (P - 1)), .int (nI (P * (P - 2)))])), (aA, .inl (cQ, n, .inr (.inr (.inr (.inr (fun z8 => some (aTs z8))))))), (aL, .inl (cB, P, .inl (fun z9 => bI (lo z9)))), (aE, .inr (2, [.ref aS, .ref aEW, .ref aEK, .int un])), (aEW, .inl (cI, P * P, .inl tw)), (aEK, .inl (cB, P * P, .inl (fun z9 => bI (kn z9))))]) (tl := (stW cI cB aS P aTs aWs aMs w ms mk n)) (G := fun (u : Unit) => [(aR, .inr (3, [.ref aS, .ref aA, .ref aL, .ref aE, .int (bI pw), .int tn])), (aS, .inr (0, [.int (nI P), .int (nI (P - 2)), .int (nI (P - 1)), .int (nI (P * (P - 2)))])), (aA, .inl (cQ, n, .inr (.inr (.inr (.inr (fun z8 => some (aTs z8))))))), (aL, .inl (cB, P, .inl (fun z9 => bI (lo z9)))), (aE, .inr (2, [.ref aS, .ref aEW, .ref aEK, .int un])), (aEW, .inl (cI, P * P, .inl tw)), (aEK, .inl (cB, P * P, .inl (fun z9 => bI (kn z9))))]) (b := aR) (As := [.int x]) (rst := []) ⟨hx, hb, hml, hown, hts⟩ (c_isDrive l dC dI cI cB cQ cJ aR aS aA aL aE pw tn P x ) (cwV 1 hts (gdV t_mX3_130 t_inst_X3_isDrive t_sel_X3_isDrive t_ini_X3 t_code_X3_isDrive) rfl rfl rfl (by decide +kernel) ⟨Nat.le_of_ble_eq_true rfl, Nat.le_of_ble_eq_true rfl⟩) hK hP hD hS hA [0, 1] [2, 3, 4, 5, 6] [0, 1, 2, 3, 4, 5, 6] rfl (by decide) (fun _ => rfl) (by decide) (ci := 3) rfl rfl rfl rfl hl.1 rfl (Nat.le_of_ble_eq_true rfl) dX3_lose_2 ⟨Nat.zero_le _, Nat.zero_le _⟩ (fun r u H locs hu1 hP hD hS => ?_)
  have hr2 := hu1
  have hr2 : r = bI (dr_in x P) := hr2
  subst hr2
  have hP : va_P (dC, dI) vwCl ((aR, .inr (3, [.ref aS, .ref aA, .ref aL, .ref aE, .int (bI pw), .int tn])) :: (aS, .inr (0, [.int (nI P), .int (nI (P - 2)), .int (nI (P - 1)), .int (nI (P * (P - 2)))])) :: (aA, .inl (cQ, n, .inr (.inr (.inr (.inr (fun z8 => some (aTs z8))))))) :: (aL, .inl (cB, P, .inl (fun z9 => bI (lo z9)))) :: (aE, .inr (2, [.ref aS, .ref aEW, .ref aEK, .int un])) :: (aEW, .inl (cI, P * P, .inl tw)) :: (aEK, .inl (cB, P * P, .inl (fun z9 => bI (kn z9)))) :: (stW cI cB aS P aTs aWs aMs w ms mk n)) H := hP
  have hD : va_D A ((aR, .inr (3, [.ref aS, .ref aA, .ref aL, .ref aE, .int (bI pw), .int tn])) :: (aS, .inr (0, [.int (nI P), .int (nI (P - 2)), .int (nI (P - 1)), .int (nI (P * (P - 2)))])) :: (aA, .inl (cQ, n, .inr (.inr (.inr (.inr (fun z8 => some (aTs z8))))))) :: (aL, .inl (cB, P, .inl (fun z9 => bI (lo z9)))) :: (aE, .inr (2, [.ref aS, .ref aEW, .ref aEK, .int un])) :: (aEW, .inl (cI, P * P, .inl tw)) :: (aEK, .inl (cB, P * P, .inl (fun z9 => bI (kn z9)))) :: (stW cI cB aS P aTs aWs aMs w ms mk n)) := hD
  refine x_top (show bI (dr_in x P) = bI false from (congrArg bI hc)) ?_
  refine x_ifF (tgt := 17) hx hb dX3_lose_5 (by decide) (fun _ => ?_) (fun z9 => by cases z9)
  refine lv_iconst (v := bI false) hx hb dX3_lose_17 (by decide) ?_
  exact x_zret (D := (dC, dI)) (cl := vwCl) (A := A) () hQ hx hb hr hlk hP hD hS dX3_lose_18 (by first | rfl | (simp []; done) | (simp []; omega))

abbrev rm_c_lose1 : Room := { frames := 1, cells := 0, slots := 0, locals := 21 }
set_option maxHeartbeats 4000000 in
set_option maxRecDepth 100000 in
theorem c_lose1 (l : Launch) (dC : Nat → ClassId) (dI : Nat → Nat → Nat) (cI cB cQ cJ : ClassId) (aR : Nat) (aS : Nat) (aA : Nat) (aL : Nat) (aE : Nat) (pw : Bool) (tn : Int32) (P : Nat) (n : Nat) (aTs : Nat → Nat) (aWs : Nat → Nat) (aMs : Nat → Nat) (lo : Nat → Bool) (aEW : Nat) (aEK : Nat) (tw : Nat → Int32) (kn : Nat → Bool) (un : Int32) (w : Nat → Nat → Int32) (ms : Nat → Nat → Bool) (mk : Nat → Bool) (d : Nat) (hp5 : dr_P P) (hn : n < 5) (hd : d < P) (hc : lo d = true) : MG l yX3_lose (Cond.code yX3_lose cX3_lose 3 (some .boolean) :: TB) rm_c_lose1 (dC, dI) vwCl (TY cI cB cQ cJ) [.ref aR, .int (nI d)] ((aR, .inr (3, [.ref aS, .ref aA, .ref aL, .ref aE, .int (bI pw), .int tn])) :: (aS, .inr (0, [.int (nI P), .int (nI (P - 2)), .int (nI (P - 1)), .int (nI (P * (P - 2)))])) :: (aA, .inl (cQ, n, .inr (.inr (.inr (.inr (fun z8 => some (aTs z8))))))) :: (aL, .inl (cB, P, .inl (fun z9 => bI (lo z9)))) :: (aE, .inr (2, [.ref aS, .ref aEW, .ref aEK, .int un])) :: (aEW, .inl (cI, P * P, .inl tw)) :: (aEK, .inl (cB, P * P, .inl (fun z9 => bI (kn z9)))) :: (stW cI cB aS P aTs aWs aMs w ms mk n)) (fun (r : Int32) (u : Unit) => r = bI false) (fun (u : Unit) => ((aR, .inr (3, [.ref aS, .ref aA, .ref aL, .ref aE, .int (bI pw), .int tn])) :: (aS, .inr (0, [.int (nI P), .int (nI (P - 2)), .int (nI (P - 1)), .int (nI (P * (P - 2)))])) :: (aA, .inl (cQ, n, .inr (.inr (.inr (.inr (fun z8 => some (aTs z8))))))) :: (aL, .inl (cB, P, .inl (fun z9 => bI (lo z9)))) :: (aE, .inr (2, [.ref aS, .ref aEW, .ref aEK, .int un])) :: (aEW, .inl (cI, P * P, .inl tw)) :: (aEK, .inl (cB, P * P, .inl (fun z9 => bI (kn z9)))) :: (stW cI cB aS P aTs aWs aMs w ms mk n))) := by
  refine MG.ofW (cc := cX3_lose) (maxL := 3) (rt := .boolean) (by decide +kernel) rfl (Nat.le_of_ble_eq_true rfl) ?_
  intro p e s m args below meth c A ls Q H locs hQ hx hb hml hr hlk hts hown hK hP hD hS hA hl
  have hts : ∀ w ∈ TB, w.before args s = true := fun w h => hts w (List.mem_cons_of_mem _ h)
  have hown : s.vm.findClass RX3 = some m.cls := hown
  have hl : lv_has ls 3 [(0, .ref aR), (1, .int (nI d))] := hl
  have hP : va_P (dC, dI) vwCl ((aR, .inr (3, [.ref aS, .ref aA, .ref aL, .ref aE, .int (bI pw), .int tn])) :: (aS, .inr (0, [.int (nI P), .int (nI (P - 2)), .int (nI (P - 1)), .int (nI (P * (P - 2)))])) :: (aA, .inl (cQ, n, .inr (.inr (.inr (.inr (fun z8 => some (aTs z8))))))) :: (aL, .inl (cB, P, .inl (fun z9 => bI (lo z9)))) :: (aE, .inr (2, [.ref aS, .ref aEW, .ref aEK, .int un])) :: (aEW, .inl (cI, P * P, .inl tw)) :: (aEK, .inl (cB, P * P, .inl (fun z9 => bI (kn z9)))) :: (stW cI cB aS P aTs aWs aMs w ms mk n)) H := hP
  have hD : va_D A ((aR, .inr (3, [.ref aS, .ref aA, .ref aL, .ref aE, .int (bI pw), .int tn])) :: (aS, .inr (0, [.int (nI P), .int (nI (P - 2)), .int (nI (P - 1)), .int (nI (P * (P - 2)))])) :: (aA, .inl (cQ, n, .inr (.inr (.inr (.inr (fun z8 => some (aTs z8))))))) :: (aL, .inl (cB, P, .inl (fun z9 => bI (lo z9)))) :: (aE, .inr (2, [.ref aS, .ref aEW, .ref aEK, .int un])) :: (aEW, .inl (cI, P * P, .inl tw)) :: (aEK, .inl (cB, P * P, .inl (fun z9 => bI (kn z9)))) :: (stW cI cB aS P aTs aWs aMs w ms mk n)) := hD
  have hp := hp5.le
  have hpp := dr_PP hp5
  have hpq := dr_PP2 hp5
  refine lv_aload_n hx hb dX3_lose_0 rfl (lv_at hl 0 rfl) ?_
  refine lv_iload_n hx hb dX3_lose_1 rfl (lv_at hl 1 rfl) ?_
  refine gV (wr := [(aA, .inl (cQ, n, .inr (.inr (.inr (.inr (fun z8 => some (aTs z8))))))), (aL, .inl (cB, P, .inl (fun z9 => bI (lo z9)))), (aE, .inr (2, [.ref aS, .ref aEW, .ref aEK, .int un])), (aEW, .inl (cI, P * P, .inl tw)), (aEK, .inl (cB, P * P, .inl (fun z9 => bI (kn z9))))]) (pre := [(aR, .inr (3, [.ref aS, .ref aA, .ref aL, .ref aE, .int (bI pw), .int tn])), (aS, .inr (0, [.int (nI P), .int (nI (P - 2)), .int (nI (P - 1)), .int (nI (P * (P - 2)))])), (aA, .inl (cQ, n, .inr (.inr (.inr (.inr (fun z8 => some (aTs z8))))))), (aL, .inl (cB, P, .inl (fun z9 => bI (lo z9)))), (aE, .inr (2, [.ref aS, .ref aEW, .ref aEK, .int un])), (aEW, .inl (cI, P * P, .inl tw)), (aEK, .inl (cB, P * P, .inl (fun z9 => bI (kn z9))))]) (tl := (stW cI cB aS P aTs aWs aMs w ms mk n)) (G := fun (u : Unit) => [(aR, .inr (3, [.ref aS, .ref aA, .ref aL, .ref aE, .int (bI pw), .int tn])), (aS, .inr (0, [.int (nI P), .int (nI (P - 2)), .int (nI (P - 1)), .int (nI (P * (P - 2)))])), (aA, .inl (cQ, n, .inr (.inr (.inr (.inr (fun z8 => some (aTs z8))))))), (aL, .inl (cB, P, .inl (fun z9 => bI (lo z9)))), (aE, .inr (2, [.ref aS, .ref aEW, .ref aEK, .int un])), (aEW, .inl (cI, P * P, .inl tw)), (aEK, .inl (cB, P * P, .inl (fun z9 => bI (kn z9))))]) (b := aR) (As := [.int (nI d)]) (rst := []) ⟨hx, hb, hml, hown, hts⟩ (c_isDrive l dC dI cI cB cQ cJ aR aS aA aL aE pw tn P (nI d) ) (cwV 1 hts (gdV t_mX3_130 t_inst_X3_isDrive t_sel_X3_isDrive t_ini_X3 t_code_X3_isDrive) rfl rfl rfl (by decide +kernel) ⟨Nat.le_of_ble_eq_true rfl, Nat.le_of_ble_eq_true rfl⟩) hK hP hD hS hA [0, 1] [2, 3, 4, 5, 6] [0, 1, 2, 3, 4, 5, 6] rfl (by decide) (fun _ => rfl) (by decide) (ci := 3) rfl rfl rfl rfl hl.1 rfl (Nat.le_of_ble_eq_true rfl) dX3_lose_2 ⟨Nat.zero_le _, Nat.zero_le _⟩ (fun r u H locs hu1 hP hD hS => ?_)
  have hr2 := hu1
  have hr2 : r = bI (dr_in (nI d) P) := hr2
  subst hr2
  have hP : va_P (dC, dI) vwCl ((aR, .inr (3, [.ref aS, .ref aA, .ref aL, .ref aE, .int (bI pw), .int tn])) :: (aS, .inr (0, [.int (nI P), .int (nI (P - 2)), .int (nI (P - 1)), .int (nI (P * (P - 2)))])) :: (aA, .inl (cQ, n, .inr (.inr (.inr (.inr (fun z8 => some (aTs z8))))))) :: (aL, .inl (cB, P, .inl (fun z9 => bI (lo z9)))) :: (aE, .inr (2, [.ref aS, .ref aEW, .ref aEK, .int un])) :: (aEW, .inl (cI, P * P, .inl tw)) :: (aEK, .inl (cB, P * P, .inl (fun z9 => bI (kn z9)))) :: (stW cI cB aS P aTs aWs aMs w ms mk n)) H := hP
  have hD : va_D A ((aR, .inr (3, [.ref aS, .ref aA, .ref aL, .ref aE, .int (bI pw), .int tn])) :: (aS, .inr (0, [.int (nI P), .int (nI (P - 2)), .int (nI (P - 1)), .int (nI (P * (P - 2)))])) :: (aA, .inl (cQ, n, .inr (.inr (.inr (.inr (fun z8 => some (aTs z8))))))) :: (aL, .inl (cB, P, .inl (fun z9 => bI (lo z9)))) :: (aE, .inr (2, [.ref aS, .ref aEW, .ref aEK, .int un])) :: (aEW, .inl (cI, P * P, .inl tw)) :: (aEK, .inl (cB, P * P, .inl (fun z9 => bI (kn z9)))) :: (stW cI cB aS P aTs aWs aMs w ms mk n)) := hD
  refine x_top (show bI (dr_in (nI d) P) = bI true from (congrArg bI (dr_in_of (by omega) hd))) ?_
  refine x_ifF (tgt := 17) hx hb dX3_lose_5 (by decide) (fun z9 => by cases z9) (fun _ => ?_)
  refine lv_aload_n hx hb dX3_lose_8 rfl (lv_at hl 0 rfl) ?_
  refine va_get (D := (dC, dI)) (ci := 3) (v := .ref aL) (C := RX3) (T := TX3) (N := 6) hx hb hts inX3 hown hK hP 0 rfl rfl 2 (by decide) (hts _ t_fX3_44) (fun _ h9 => h9) rfl dX3_lose_9 ?_
  refine lv_iload_n hx hb dX3_lose_12 rfl (lv_at hl 1 rfl) ?_
  refine x_zald (g := lo) hx hb hK hP 3 1 rfl rfl dX3_lose_13 (by omega) (by omega) ?_
  refine x_top (show bI (lo d) = bI true from (congrArg bI hc)) ?_
  refine x_ifF (tgt := 19) hx hb dX3_lose_14 (by decide) (fun z9 => by cases z9) (fun _ => ?_)
  refine lv_iconst (v := bI false) hx hb dX3_lose_17 (by decide) ?_
  exact x_zret (D := (dC, dI)) (cl := vwCl) (A := A) () hQ hx hb hr hlk hP hD hS dX3_lose_18 (by first | rfl | (simp []; done) | (simp []; omega))

abbrev rm_c_lose2 : Room := { frames := 2, cells := 0, slots := 0, locals := 44 }
set_option maxHeartbeats 4000000 in
set_option maxRecDepth 100000 in
theorem c_lose2 (l : Launch) (dC : Nat → ClassId) (dI : Nat → Nat → Nat) (cI cB cQ cJ : ClassId) (aR : Nat) (aS : Nat) (aA : Nat) (aL : Nat) (aE : Nat) (pw : Bool) (tn : Int32) (P : Nat) (n : Nat) (aTs : Nat → Nat) (aWs : Nat → Nat) (aMs : Nat → Nat) (lo : Nat → Bool) (aEW : Nat) (aEK : Nat) (tw : Nat → Int32) (kn : Nat → Bool) (un : Int32) (w : Nat → Nat → Int32) (ms : Nat → Nat → Bool) (mk : Nat → Bool) (d : Nat) (hp5 : dr_P P) (hn : n < 5) (hd : d < P) (hc : lo d = false) : MG l yX3_lose (Cond.code yX3_lose cX3_lose 3 (some .boolean) :: TB) rm_c_lose2 (dC, dI) vwCl (TY cI cB cQ cJ) [.ref aR, .int (nI d)] ((aR, .inr (3, [.ref aS, .ref aA, .ref aL, .ref aE, .int (bI pw), .int tn])) :: (aS, .inr (0, [.int (nI P), .int (nI (P - 2)), .int (nI (P - 1)), .int (nI (P * (P - 2)))])) :: (aA, .inl (cQ, n, .inr (.inr (.inr (.inr (fun z8 => some (aTs z8))))))) :: (aL, .inl (cB, P, .inl (fun z9 => bI (lo z9)))) :: (aE, .inr (2, [.ref aS, .ref aEW, .ref aEK, .int un])) :: (aEW, .inl (cI, P * P, .inl tw)) :: (aEK, .inl (cB, P * P, .inl (fun z9 => bI (kn z9)))) :: (stW cI cB aS P aTs aWs aMs w ms mk n)) (fun (r : Int32) (u : Unit) => r = bI true) (fun (u : Unit) => ((aR, .inr (3, [.ref aS, .ref aA, .ref aL, .ref aE, .int (bI pw), .int tn])) :: (aS, .inr (0, [.int (nI P), .int (nI (P - 2)), .int (nI (P - 1)), .int (nI (P * (P - 2)))])) :: (aA, .inl (cQ, n, .inr (.inr (.inr (.inr (fun z8 => some (aTs z8))))))) :: (aL, .inl (cB, P, .inl (fun z9 => bI ((va_up lo d true) z9)))) :: (aE, .inr (2, [.ref aS, .ref aEW, .ref aEK, .int un])) :: (aEW, .inl (cI, P * P, .inl tw)) :: (aEK, .inl (cB, P * P, .inl (fun z9 => bI (kn z9)))) :: (stW cI cB aS P aTs aWs aMs (dr_loW P w d n) (dr_loM ms d n) mk n))) := by
  refine MG.ofW (cc := cX3_lose) (maxL := 3) (rt := .boolean) (by decide +kernel) rfl (Nat.le_of_ble_eq_true rfl) ?_
  intro p e s m args below meth c A ls Q H locs hQ hx hb hml hr hlk hts hown hK hP hD hS hA hl
  have hts : ∀ w ∈ TB, w.before args s = true := fun w h => hts w (List.mem_cons_of_mem _ h)
  have hown : s.vm.findClass RX3 = some m.cls := hown
  have hl : lv_has ls 3 [(0, .ref aR), (1, .int (nI d))] := hl
  have hP : va_P (dC, dI) vwCl ((aR, .inr (3, [.ref aS, .ref aA, .ref aL, .ref aE, .int (bI pw), .int tn])) :: (aS, .inr (0, [.int (nI P), .int (nI (P - 2)), .int (nI (P - 1)), .int (nI (P * (P - 2)))])) :: (aA, .inl (cQ, n, .inr (.inr (.inr (.inr (fun z8 => some (aTs z8))))))) :: (aL, .inl (cB, P, .inl (fun z9 => bI (lo z9)))) :: (aE, .inr (2, [.ref aS, .ref aEW, .ref aEK, .int un])) :: (aEW, .inl (cI, P * P, .inl tw)) :: (aEK, .inl (cB, P * P, .inl (fun z9 => bI (kn z9)))) :: (stW cI cB aS P aTs aWs aMs w ms mk n)) H := hP
  have hD : va_D A ((aR, .inr (3, [.ref aS, .ref aA, .ref aL, .ref aE, .int (bI pw), .int tn])) :: (aS, .inr (0, [.int (nI P), .int (nI (P - 2)), .int (nI (P - 1)), .int (nI (P * (P - 2)))])) :: (aA, .inl (cQ, n, .inr (.inr (.inr (.inr (fun z8 => some (aTs z8))))))) :: (aL, .inl (cB, P, .inl (fun z9 => bI (lo z9)))) :: (aE, .inr (2, [.ref aS, .ref aEW, .ref aEK, .int un])) :: (aEW, .inl (cI, P * P, .inl tw)) :: (aEK, .inl (cB, P * P, .inl (fun z9 => bI (kn z9)))) :: (stW cI cB aS P aTs aWs aMs w ms mk n)) := hD
  have hp := hp5.le
  have hpp := dr_PP hp5
  have hpq := dr_PP2 hp5
  refine lv_aload_n hx hb dX3_lose_0 rfl (lv_at hl 0 rfl) ?_
  refine lv_iload_n hx hb dX3_lose_1 rfl (lv_at hl 1 rfl) ?_
  refine gV (wr := [(aA, .inl (cQ, n, .inr (.inr (.inr (.inr (fun z8 => some (aTs z8))))))), (aL, .inl (cB, P, .inl (fun z9 => bI (lo z9)))), (aE, .inr (2, [.ref aS, .ref aEW, .ref aEK, .int un])), (aEW, .inl (cI, P * P, .inl tw)), (aEK, .inl (cB, P * P, .inl (fun z9 => bI (kn z9))))]) (pre := [(aR, .inr (3, [.ref aS, .ref aA, .ref aL, .ref aE, .int (bI pw), .int tn])), (aS, .inr (0, [.int (nI P), .int (nI (P - 2)), .int (nI (P - 1)), .int (nI (P * (P - 2)))])), (aA, .inl (cQ, n, .inr (.inr (.inr (.inr (fun z8 => some (aTs z8))))))), (aL, .inl (cB, P, .inl (fun z9 => bI (lo z9)))), (aE, .inr (2, [.ref aS, .ref aEW, .ref aEK, .int un])), (aEW, .inl (cI, P * P, .inl tw)), (aEK, .inl (cB, P * P, .inl (fun z9 => bI (kn z9))))]) (tl := (stW cI cB aS P aTs aWs aMs w ms mk n)) (G := fun (u : Unit) => [(aR, .inr (3, [.ref aS, .ref aA, .ref aL, .ref aE, .int (bI pw), .int tn])), (aS, .inr (0, [.int (nI P), .int (nI (P - 2)), .int (nI (P - 1)), .int (nI (P * (P - 2)))])), (aA, .inl (cQ, n, .inr (.inr (.inr (.inr (fun z8 => some (aTs z8))))))), (aL, .inl (cB, P, .inl (fun z9 => bI (lo z9)))), (aE, .inr (2, [.ref aS, .ref aEW, .ref aEK, .int un])), (aEW, .inl (cI, P * P, .inl tw)), (aEK, .inl (cB, P * P, .inl (fun z9 => bI (kn z9))))]) (b := aR) (As := [.int (nI d)]) (rst := []) ⟨hx, hb, hml, hown, hts⟩ (c_isDrive l dC dI cI cB cQ cJ aR aS aA aL aE pw tn P (nI d) ) (cwV 1 hts (gdV t_mX3_130 t_inst_X3_isDrive t_sel_X3_isDrive t_ini_X3 t_code_X3_isDrive) rfl rfl rfl (by decide +kernel) ⟨Nat.le_of_ble_eq_true rfl, Nat.le_of_ble_eq_true rfl⟩) hK hP hD hS hA [0, 1] [2, 3, 4, 5, 6] [0, 1, 2, 3, 4, 5, 6] rfl (by decide) (fun _ => rfl) (by decide) (ci := 3) rfl rfl rfl rfl hl.1 rfl (Nat.le_of_ble_eq_true rfl) dX3_lose_2 ⟨Nat.zero_le _, Nat.zero_le _⟩ (fun r u H locs hu1 hP hD hS => ?_)
  have hr2 := hu1
  have hr2 : r = bI (dr_in (nI d) P) := hr2
  subst hr2
  have hP : va_P (dC, dI) vwCl ((aR, .inr (3, [.ref aS, .ref aA, .ref aL, .ref aE, .int (bI pw), .int tn])) :: (aS, .inr (0, [.int (nI P), .int (nI (P - 2)), .int (nI (P - 1)), .int (nI (P * (P - 2)))])) :: (aA, .inl (cQ, n, .inr (.inr (.inr (.inr (fun z8 => some (aTs z8))))))) :: (aL, .inl (cB, P, .inl (fun z9 => bI (lo z9)))) :: (aE, .inr (2, [.ref aS, .ref aEW, .ref aEK, .int un])) :: (aEW, .inl (cI, P * P, .inl tw)) :: (aEK, .inl (cB, P * P, .inl (fun z9 => bI (kn z9)))) :: (stW cI cB aS P aTs aWs aMs w ms mk n)) H := hP
  have hD : va_D A ((aR, .inr (3, [.ref aS, .ref aA, .ref aL, .ref aE, .int (bI pw), .int tn])) :: (aS, .inr (0, [.int (nI P), .int (nI (P - 2)), .int (nI (P - 1)), .int (nI (P * (P - 2)))])) :: (aA, .inl (cQ, n, .inr (.inr (.inr (.inr (fun z8 => some (aTs z8))))))) :: (aL, .inl (cB, P, .inl (fun z9 => bI (lo z9)))) :: (aE, .inr (2, [.ref aS, .ref aEW, .ref aEK, .int un])) :: (aEW, .inl (cI, P * P, .inl tw)) :: (aEK, .inl (cB, P * P, .inl (fun z9 => bI (kn z9)))) :: (stW cI cB aS P aTs aWs aMs w ms mk n)) := hD
  refine x_top (show bI (dr_in (nI d) P) = bI true from (congrArg bI (dr_in_of (by omega) hd))) ?_
  refine x_ifF (tgt := 17) hx hb dX3_lose_5 (by decide) (fun z9 => by cases z9) (fun _ => ?_)
  refine lv_aload_n hx hb dX3_lose_8 rfl (lv_at hl 0 rfl) ?_
  refine va_get (D := (dC, dI)) (ci := 3) (v := .ref aL) (C := RX3) (T := TX3) (N := 6) hx hb hts inX3 hown hK hP 0 rfl rfl 2 (by decide) (hts _ t_fX3_44) (fun _ h9 => h9) rfl dX3_lose_9 ?_
  refine lv_iload_n hx hb dX3_lose_12 rfl (lv_at hl 1 rfl) ?_
  refine x_zald (g := lo) hx hb hK hP 3 1 rfl rfl dX3_lose_13 (by omega) (by omega) ?_
  refine x_top (show bI (lo d) = bI false from (congrArg bI hc)) ?_
  refine x_ifF (tgt := 19) hx hb dX3_lose_14 (by decide) (fun _ => ?_) (fun z9 => by cases z9)
  refine lv_aload_n hx hb dX3_lose_19 rfl (lv_at hl 0 rfl) ?_
  refine va_get (D := (dC, dI)) (ci := 3) (v := .ref aL) (C := RX3) (T := TX3) (N := 6) hx hb hts inX3 hown hK hP 0 rfl rfl 2 (by decide) (hts _ t_fX3_44) (fun _ h9 => h9) rfl dX3_lose_20 ?_
  refine lv_iload_n hx hb dX3_lose_23 rfl (lv_at hl 1 rfl) ?_
  refine lv_iconst (v := bI true) hx hb dX3_lose_24 (by decide) ?_
  refine x_zast (g := lo) hx hb hK hP hD hS 3 1 rfl rfl dX3_lose_25 (by omega) (by omega) (fun H locs hP hD hS => ?_)
  have hP : va_P (dC, dI) vwCl ((aR, .inr (3, [.ref aS, .ref aA, .ref aL, .ref aE, .int (bI pw), .int tn])) :: (aS, .inr (0, [.int (nI P), .int (nI (P - 2)), .int (nI (P - 1)), .int (nI (P * (P - 2)))])) :: (aA, .inl (cQ, n, .inr (.inr (.inr (.inr (fun z8 => some (aTs z8))))))) :: (aL, .inl (cB, P, .inl (fun z9 => bI ((va_up lo d true) z9)))) :: (aE, .inr (2, [.ref aS, .ref aEW, .ref aEK, .int un])) :: (aEW, .inl (cI, P * P, .inl tw)) :: (aEK, .inl (cB, P * P, .inl (fun z9 => bI (kn z9)))) :: (stW cI cB aS P aTs aWs aMs w ms mk n)) H := hP
  have hD : va_D A ((aR, .inr (3, [.ref aS, .ref aA, .ref aL, .ref aE, .int (bI pw), .int tn])) :: (aS, .inr (0, [.int (nI P), .int (nI (P - 2)), .int (nI (P - 1)), .int (nI (P * (P - 2)))])) :: (aA, .inl (cQ, n, .inr (.inr (.inr (.inr (fun z8 => some (aTs z8))))))) :: (aL, .inl (cB, P, .inl (fun z9 => bI ((va_up lo d true) z9)))) :: (aE, .inr (2, [.ref aS, .ref aEW, .ref aEK, .int un])) :: (aEW, .inl (cI, P * P, .inl tw)) :: (aEK, .inl (cB, P * P, .inl (fun z9 => bI (kn z9)))) :: (stW cI cB aS P aTs aWs aMs w ms mk n)) := hD
  refine lv_iconst (v := nI 0) hx hb dX3_lose_26 (by decide) ?_
  refine lv_istore_n hx hb dX3_lose_27 rfl hl (by decide) rfl (fun ls hl => ?_)
  have hl : lv_has ls 3 [(2, .int (nI 0)), (0, .ref aR), (1, .int (nI d))] := hl
  have lp28 : ∀ (n9 : Nat) (i : Nat) (ls : Array Slot) (H : Heap) (locs : List Loc), n - i < n9 → (i ≤ n) → lv_has ls 3 [(2, .int (nI i)), (1, .int (nI d)), (0, .ref aR)] → va_P (dC, dI) vwCl ((aR, .inr (3, [.ref aS, .ref aA, .ref aL, .ref aE, .int (bI pw), .int tn])) :: (aS, .inr (0, [.int (nI P), .int (nI (P - 2)), .int (nI (P - 1)), .int (nI (P * (P - 2)))])) :: (aA, .inl (cQ, n, .inr (.inr (.inr (.inr (fun z8 => some (aTs z8))))))) :: (aL, .inl (cB, P, .inl (fun z9 => bI ((va_up lo d true) z9)))) :: (aE, .inr (2, [.ref aS, .ref aEW, .ref aEK, .int un])) :: (aEW, .inl (cI, P * P, .inl tw)) :: (aEK, .inl (cB, P * P, .inl (fun z9 => bI (kn z9)))) :: (stW cI cB aS P aTs aWs aMs (dr_loW P w d i) (dr_loM ms d i) mk n)) H → va_D A ((aR, .inr (3, [.ref aS, .ref aA, .ref aL, .ref aE, .int (bI pw), .int tn])) :: (aS, .inr (0, [.int (nI P), .int (nI (P - 2)), .int (nI (P - 1)), .int (nI (P * (P - 2)))])) :: (aA, .inl (cQ, n, .inr (.inr (.inr (.inr (fun z8 => some (aTs z8))))))) :: (aL, .inl (cB, P, .inl (fun z9 => bI ((va_up lo d true) z9)))) :: (aE, .inr (2, [.ref aS, .ref aEW, .ref aEK, .int un])) :: (aEW, .inl (cI, P * P, .inl tw)) :: (aEK, .inl (cB, P * P, .inl (fun z9 => bI (kn z9)))) :: (stW cI cB aS P aTs aWs aMs (dr_loW P w d i) (dr_loM ms d i) mk n)) → va_S A s.heap H locs → W p l e rm_c_lose2 s m args below meth c H locs 0 0 Q (F0 m 28 ls []) := by
    intro n9
    induction n9 with
    | zero => intro i ls H locs hn9; omega
    | succ n9 ih28 =>
      intro i ls H locs hn9 hi hl hP hD hS
      refine lv_iload_n hx hb dX3_lose_28 rfl (lv_at hl 0 rfl) ?_
      refine lv_aload_n hx hb dX3_lose_29 rfl (lv_at hl 2 rfl) ?_
      refine va_get (D := (dC, dI)) (ci := 3) (v := .ref aA) (C := RX3) (T := TX3) (N := 6) hx hb hts inX3 hown hK hP 0 rfl rfl 1 (by decide) (hts _ t_fX3_36) (fun _ h9 => h9) rfl dX3_lose_30 ?_
      refine va_alen (v := nI n) hx hb hK hP 2 2 rfl rfl rfl dX3_lose_33 ?_
      refine x_cge (tgt := 53) hx hb dX3_lose_34 (by decide) (by omega) (by omega) (fun h34 => ?_) (fun h34 => ?_)
      · -- 34t
        have hie34 : i = n := by omega
        try rw [hie34] at hl
        try rw [hie34] at hP
        try rw [hie34] at hD
        have hl : lv_has ls 3 [(2, .int (nI n)), (1, .int (nI d)), (0, .ref aR)] := hl
        have hP : va_P (dC, dI) vwCl ((aR, .inr (3, [.ref aS, .ref aA, .ref aL, .ref aE, .int (bI pw), .int tn])) :: (aS, .inr (0, [.int (nI P), .int (nI (P - 2)), .int (nI (P - 1)), .int (nI (P * (P - 2)))])) :: (aA, .inl (cQ, n, .inr (.inr (.inr (.inr (fun z8 => some (aTs z8))))))) :: (aL, .inl (cB, P, .inl (fun z9 => bI ((va_up lo d true) z9)))) :: (aE, .inr (2, [.ref aS, .ref aEW, .ref aEK, .int un])) :: (aEW, .inl (cI, P * P, .inl tw)) :: (aEK, .inl (cB, P * P, .inl (fun z9 => bI (kn z9)))) :: (stW cI cB aS P aTs aWs aMs (dr_loW P w d n) (dr_loM ms d n) mk n)) H := hP
        have hD : va_D A ((aR, .inr (3, [.ref aS, .ref aA, .ref aL, .ref aE, .int (bI pw), .int tn])) :: (aS, .inr (0, [.int (nI P), .int (nI (P - 2)), .int (nI (P - 1)), .int (nI (P * (P - 2)))])) :: (aA, .inl (cQ, n, .inr (.inr (.inr (.inr (fun z8 => some (aTs z8))))))) :: (aL, .inl (cB, P, .inl (fun z9 => bI ((va_up lo d true) z9)))) :: (aE, .inr (2, [.ref aS, .ref aEW, .ref aEK, .int un])) :: (aEW, .inl (cI, P * P, .inl tw)) :: (aEK, .inl (cB, P * P, .inl (fun z9 => bI (kn z9)))) :: (stW cI cB aS P aTs aWs aMs (dr_loW P w d n) (dr_loM ms d n) mk n)) := hD
        refine lv_iconst (v := bI true) hx hb dX3_lose_53 (by decide) ?_
        exact x_zret (D := (dC, dI)) (cl := vwCl) (A := A) () hQ hx hb hr hlk hP hD hS dX3_lose_54 (by first | rfl | (simp [h34]; done) | (simp [h34]; omega))
      · -- 34f
        refine lv_aload_n hx hb dX3_lose_37 rfl (lv_at hl 2 rfl) ?_
        refine va_get (D := (dC, dI)) (ci := 3) (v := .ref aA) (C := RX3) (T := TX3) (N := 6) hx hb hts inX3 hown hK hP 0 rfl rfl 1 (by decide) (hts _ t_fX3_36) (fun _ h9 => h9) rfl dX3_lose_38 ?_
        refine lv_iload_n hx hb dX3_lose_41 rfl (lv_at hl 0 rfl) ?_
        refine x_aald (q := aTs i) hx hb hK hP 2 2 rfl rfl dX3_lose_42 (by omega) (by omega) rfl ?_
        have hP := foc_P (pre := [(aR, .inr (3, [.ref aS, .ref aA, .ref aL, .ref aE, .int (bI pw), .int tn])), (aS, .inr (0, [.int (nI P), .int (nI (P - 2)), .int (nI (P - 1)), .int (nI (P * (P - 2)))])), (aA, .inl (cQ, n, .inr (.inr (.inr (.inr (fun z8 => some (aTs z8))))))), (aL, .inl (cB, P, .inl (fun z9 => bI ((va_up lo d true) z9)))), (aE, .inr (2, [.ref aS, .ref aEW, .ref aEK, .int un])), (aEW, .inl (cI, P * P, .inl tw)), (aEK, .inl (cB, P * P, .inl (fun z9 => bI (kn z9))))]) (s := i) hP (by omega)
        have hD := foc_D (pre := [(aR, .inr (3, [.ref aS, .ref aA, .ref aL, .ref aE, .int (bI pw), .int tn])), (aS, .inr (0, [.int (nI P), .int (nI (P - 2)), .int (nI (P - 1)), .int (nI (P * (P - 2)))])), (aA, .inl (cQ, n, .inr (.inr (.inr (.inr (fun z8 => some (aTs z8))))))), (aL, .inl (cB, P, .inl (fun z9 => bI ((va_up lo d true) z9)))), (aE, .inr (2, [.ref aS, .ref aEW, .ref aEK, .int un])), (aEW, .inl (cI, P * P, .inl tw)), (aEK, .inl (cB, P * P, .inl (fun z9 => bI (kn z9))))]) (s := i) hD (by omega)
        have hP : va_P (dC, dI) vwCl ((aR, .inr (3, [.ref aS, .ref aA, .ref aL, .ref aE, .int (bI pw), .int tn])) :: (aS, .inr (0, [.int (nI P), .int (nI (P - 2)), .int (nI (P - 1)), .int (nI (P * (P - 2)))])) :: (aA, .inl (cQ, n, .inr (.inr (.inr (.inr (fun z8 => some (aTs z8))))))) :: (aL, .inl (cB, P, .inl (fun z9 => bI ((va_up lo d true) z9)))) :: (aE, .inr (2, [.ref aS, .ref aEW, .ref aEK, .int un])) :: (aEW, .inl (cI, P * P, .inl tw)) :: (aEK, .inl (cB, P * P, .inl (fun z9 => bI (kn z9)))) :: (aTs i, .inr (1, [.ref aS, .ref (aWs i), .ref (aMs i), .int (bI (mk i))])) :: (aWs i, .inl (cI, P * P, .inl ((dr_loW P w d i) i))) :: (aMs i, .inl (cB, P, .inl (fun z9 => bI (((dr_loM ms d i) i) z9)))) :: (stO cI cB aS P aTs aWs aMs (dr_loW P w d i) (dr_loM ms d i) mk n i)) H := hP
        have hD : va_D A ((aR, .inr (3, [.ref aS, .ref aA, .ref aL, .ref aE, .int (bI pw), .int tn])) :: (aS, .inr (0, [.int (nI P), .int (nI (P - 2)), .int (nI (P - 1)), .int (nI (P * (P - 2)))])) :: (aA, .inl (cQ, n, .inr (.inr (.inr (.inr (fun z8 => some (aTs z8))))))) :: (aL, .inl (cB, P, .inl (fun z9 => bI ((va_up lo d true) z9)))) :: (aE, .inr (2, [.ref aS, .ref aEW, .ref aEK, .int un])) :: (aEW, .inl (cI, P * P, .inl tw)) :: (aEK, .inl (cB, P * P, .inl (fun z9 => bI (kn z9)))) :: (aTs i, .inr (1, [.ref aS, .ref (aWs i), .ref (aMs i), .int (bI (mk i))])) :: (aWs i, .inl (cI, P * P, .inl ((dr_loW P w d i) i))) :: (aMs i, .inl (cB, P, .inl (fun z9 => bI (((dr_loM ms d i) i) z9)))) :: (stO cI cB aS P aTs aWs aMs (dr_loW P w d i) (dr_loM ms d i) mk n i)) := hD
        refine lv_iload_n hx hb dX3_lose_43 rfl (lv_at hl 1 rfl) ?_
        refine gVv (wr := [(aR, .inr (3, [.ref aS, .ref aA, .ref aL, .ref aE, .int (bI pw), .int tn])), (aA, .inl (cQ, n, .inr (.inr (.inr (.inr (fun z8 => some (aTs z8))))))), (aL, .inl (cB, P, .inl (fun z9 => bI ((va_up lo d true) z9)))), (aE, .inr (2, [.ref aS, .ref aEW, .ref aEK, .int un])), (aEW, .inl (cI, P * P, .inl tw)), (aEK, .inl (cB, P * P, .inl (fun z9 => bI (kn z9))))]) (pre := [(aR, .inr (3, [.ref aS, .ref aA, .ref aL, .ref aE, .int (bI pw), .int tn])), (aS, .inr (0, [.int (nI P), .int (nI (P - 2)), .int (nI (P - 1)), .int (nI (P * (P - 2)))])), (aA, .inl (cQ, n, .inr (.inr (.inr (.inr (fun z8 => some (aTs z8))))))), (aL, .inl (cB, P, .inl (fun z9 => bI ((va_up lo d true) z9)))), (aE, .inr (2, [.ref aS, .ref aEW, .ref aEK, .int un])), (aEW, .inl (cI, P * P, .inl tw)), (aEK, .inl (cB, P * P, .inl (fun z9 => bI (kn z9)))), (aTs i, .inr (1, [.ref aS, .ref (aWs i), .ref (aMs i), .int (bI (mk i))])), (aWs i, .inl (cI, P * P, .inl ((dr_loW P w d i) i))), (aMs i, .inl (cB, P, .inl (fun z9 => bI (((dr_loM ms d i) i) z9))))]) (tl := (stO cI cB aS P aTs aWs aMs (dr_loW P w d i) (dr_loM ms d i) mk n i)) (G := fun (u : Unit) => [(aR, .inr (3, [.ref aS, .ref aA, .ref aL, .ref aE, .int (bI pw), .int tn])), (aS, .inr (0, [.int (nI P), .int (nI (P - 2)), .int (nI (P - 1)), .int (nI (P * (P - 2)))])), (aA, .inl (cQ, n, .inr (.inr (.inr (.inr (fun z8 => some (aTs z8))))))), (aL, .inl (cB, P, .inl (fun z9 => bI ((va_up lo d true) z9)))), (aE, .inr (2, [.ref aS, .ref aEW, .ref aEK, .int un])), (aEW, .inl (cI, P * P, .inl tw)), (aEK, .inl (cB, P * P, .inl (fun z9 => bI (kn z9)))), (aTs i, .inr (1, [.ref aS, .ref (aWs i), .ref (aMs i), .int (bI (mk i))])), (aWs i, .inl (cI, P * P, .inl (dr_zr P ((dr_loW P w d i) i) d P))), (aMs i, .inl (cB, P, .inl (fun z9 => bI ((va_up ((dr_loM ms d i) i) d true) z9))))]) (b := aTs i) (As := [.int (nI d)]) (rst := []) ⟨hx, hb, hml, hown, hts⟩ (c_drop l dC dI cI cB cQ cJ (aTs i) aS (aWs i) (aMs i) P ((dr_loW P w d i) i) ((dr_loM ms d i) i) (mk i) d hp5 (by omega)) (cwV 1 hts (gdV t_mX3_133 t_inst_X1_drop t_sel_X1_drop t_ini_X1 t_code_X1_drop) rfl rfl rfl (by decide +kernel) ⟨Nat.le_of_ble_eq_true rfl, Nat.le_of_ble_eq_true rfl⟩) hK hP hD hS hA [7, 8, 9, 1] [0, 2, 3, 4, 5, 6] [4, 3, 5, 6, 7, 8, 9, 0, 1, 2] rfl (by decide) (fun _ => rfl) (by decide) (ci := 1) rfl rfl rfl rfl hl.1 rfl (Nat.le_of_ble_eq_true rfl) dX3_lose_44 ⟨Nat.zero_le _, Nat.zero_le _⟩ (fun u H locs hu2 hP hD hS => ?_)
        have hP : va_P (dC, dI) vwCl ((aR, .inr (3, [.ref aS, .ref aA, .ref aL, .ref aE, .int (bI pw), .int tn])) :: (aS, .inr (0, [.int (nI P), .int (nI (P - 2)), .int (nI (P - 1)), .int (nI (P * (P - 2)))])) :: (aA, .inl (cQ, n, .inr (.inr (.inr (.inr (fun z8 => some (aTs z8))))))) :: (aL, .inl (cB, P, .inl (fun z9 => bI ((va_up lo d true) z9)))) :: (aE, .inr (2, [.ref aS, .ref aEW, .ref aEK, .int un])) :: (aEW, .inl (cI, P * P, .inl tw)) :: (aEK, .inl (cB, P * P, .inl (fun z9 => bI (kn z9)))) :: (aTs i, .inr (1, [.ref aS, .ref (aWs i), .ref (aMs i), .int (bI (mk i))])) :: (aWs i, .inl (cI, P * P, .inl (dr_zr P ((dr_loW P w d i) i) d P))) :: (aMs i, .inl (cB, P, .inl (fun z9 => bI ((va_up ((dr_loM ms d i) i) d true) z9)))) :: (stO cI cB aS P aTs aWs aMs (dr_loW P w d i) (dr_loM ms d i) mk n i)) H := hP
        have hD : va_D A ((aR, .inr (3, [.ref aS, .ref aA, .ref aL, .ref aE, .int (bI pw), .int tn])) :: (aS, .inr (0, [.int (nI P), .int (nI (P - 2)), .int (nI (P - 1)), .int (nI (P * (P - 2)))])) :: (aA, .inl (cQ, n, .inr (.inr (.inr (.inr (fun z8 => some (aTs z8))))))) :: (aL, .inl (cB, P, .inl (fun z9 => bI ((va_up lo d true) z9)))) :: (aE, .inr (2, [.ref aS, .ref aEW, .ref aEK, .int un])) :: (aEW, .inl (cI, P * P, .inl tw)) :: (aEK, .inl (cB, P * P, .inl (fun z9 => bI (kn z9)))) :: (aTs i, .inr (1, [.ref aS, .ref (aWs i), .ref (aMs i), .int (bI (mk i))])) :: (aWs i, .inl (cI, P * P, .inl (dr_zr P ((dr_loW P w d i) i) d P))) :: (aMs i, .inl (cB, P, .inl (fun z9 => bI ((va_up ((dr_loM ms d i) i) d true) z9)))) :: (stO cI cB aS P aTs aWs aMs (dr_loW P w d i) (dr_loM ms d i) mk n i)) := hD
        have hP := unf_P (pre := [(aR, .inr (3, [.ref aS, .ref aA, .ref aL, .ref aE, .int (bI pw), .int tn])), (aS, .inr (0, [.int (nI P), .int (nI (P - 2)), .int (nI (P - 1)), .int (nI (P * (P - 2)))])), (aA, .inl (cQ, n, .inr (.inr (.inr (.inr (fun z8 => some (aTs z8))))))), (aL, .inl (cB, P, .inl (fun z9 => bI ((va_up lo d true) z9)))), (aE, .inr (2, [.ref aS, .ref aEW, .ref aEK, .int un])), (aEW, .inl (cI, P * P, .inl tw)), (aEK, .inl (cB, P * P, .inl (fun z9 => bI (kn z9))))]) (s := i) (wn := dr_zr P ((dr_loW P w d i) i) d P) (mn := va_up ((dr_loM ms d i) i) d true) (kn := mk i) hP (by omega)
        have hD := unf_D (pre := [(aR, .inr (3, [.ref aS, .ref aA, .ref aL, .ref aE, .int (bI pw), .int tn])), (aS, .inr (0, [.int (nI P), .int (nI (P - 2)), .int (nI (P - 1)), .int (nI (P * (P - 2)))])), (aA, .inl (cQ, n, .inr (.inr (.inr (.inr (fun z8 => some (aTs z8))))))), (aL, .inl (cB, P, .inl (fun z9 => bI ((va_up lo d true) z9)))), (aE, .inr (2, [.ref aS, .ref aEW, .ref aEK, .int un])), (aEW, .inl (cI, P * P, .inl tw)), (aEK, .inl (cB, P * P, .inl (fun z9 => bI (kn z9))))]) (s := i) (wn := dr_zr P ((dr_loW P w d i) i) d P) (mn := va_up ((dr_loM ms d i) i) d true) (kn := mk i) hD (by omega)
        rw [va_up_id mk i] at hP hD
        have hP : va_P (dC, dI) vwCl ((aR, .inr (3, [.ref aS, .ref aA, .ref aL, .ref aE, .int (bI pw), .int tn])) :: (aS, .inr (0, [.int (nI P), .int (nI (P - 2)), .int (nI (P - 1)), .int (nI (P * (P - 2)))])) :: (aA, .inl (cQ, n, .inr (.inr (.inr (.inr (fun z8 => some (aTs z8))))))) :: (aL, .inl (cB, P, .inl (fun z9 => bI ((va_up lo d true) z9)))) :: (aE, .inr (2, [.ref aS, .ref aEW, .ref aEK, .int un])) :: (aEW, .inl (cI, P * P, .inl tw)) :: (aEK, .inl (cB, P * P, .inl (fun z9 => bI (kn z9)))) :: (stW cI cB aS P aTs aWs aMs (va_up (dr_loW P w d i) i (dr_zr P ((dr_loW P w d i) i) d P)) (va_up (dr_loM ms d i) i (va_up ((dr_loM ms d i) i) d true)) mk n)) H := hP
        have hD : va_D A ((aR, .inr (3, [.ref aS, .ref aA, .ref aL, .ref aE, .int (bI pw), .int tn])) :: (aS, .inr (0, [.int (nI P), .int (nI (P - 2)), .int (nI (P - 1)), .int (nI (P * (P - 2)))])) :: (aA, .inl (cQ, n, .inr (.inr (.inr (.inr (fun z8 => some (aTs z8))))))) :: (aL, .inl (cB, P, .inl (fun z9 => bI ((va_up lo d true) z9)))) :: (aE, .inr (2, [.ref aS, .ref aEW, .ref aEK, .int un])) :: (aEW, .inl (cI, P * P, .inl tw)) :: (aEK, .inl (cB, P * P, .inl (fun z9 => bI (kn z9)))) :: (stW cI cB aS P aTs aWs aMs (va_up (dr_loW P w d i) i (dr_zr P ((dr_loW P w d i) i) d P)) (va_up (dr_loM ms d i) i (va_up ((dr_loM ms d i) i) d true)) mk n)) := hD
        refine lv_iinc (v := nI (i + 1)) hx hb dX3_lose_47 hl (k := 0) rfl (x_inc _) (by decide) rfl (fun ls hl => ?_)
        have hl : lv_has ls 3 [(2, .int (nI (i + 1))), (1, .int (nI d)), (0, .ref aR)] := hl
        refine lv_goto (tgt := 28) hx hb dX3_lose_50 (by decide) ?_
        have e3 : (stW cI cB aS P aTs aWs aMs (dr_loW P w d (i + 1)) (dr_loM ms d (i + 1)) mk n) = (stW cI cB aS P aTs aWs aMs (va_up (dr_loW P w d i) i (dr_zr P ((dr_loW P w d i) i) d P)) (va_up (dr_loM ms d i) i (va_up ((dr_loM ms d i) i) d true)) mk n) := by first | rfl | (simp [h34]; done) | (simp [h34]; omega)
        exact ih28 (i + 1) ls H locs (by omega) (by omega) (lv_sub hl [0, 1, 2] rfl) (by rw [e3]; exact hP) (by rw [e3]; exact hD) hS
  have e4 : (stW cI cB aS P aTs aWs aMs (dr_loW P w d 0) (dr_loM ms d 0) mk n) = (stW cI cB aS P aTs aWs aMs w ms mk n) := by first | rfl | (simp []; done) | (simp []; omega)
  exact lp28 (n - 0 + 1) 0 ls H locs (by omega) (by omega) (lv_sub hl [0, 2, 1] rfl) (by rw [e4]; exact hP) (by rw [e4]; exact hD) hS

abbrev rm_c_rep0 : Room := { frames := 1, cells := 0, slots := 0, locals := 21 }
set_option maxHeartbeats 4000000 in
set_option maxRecDepth 100000 in
theorem c_rep0 (l : Launch) (dC : Nat → ClassId) (dI : Nat → Nat → Nat) (cI cB cQ cJ : ClassId) (aR : Nat) (aS : Nat) (aA : Nat) (aL : Nat) (aE : Nat) (pw : Bool) (tn : Int32) (P : Nat) (n : Nat) (aTs : Nat → Nat) (aWs : Nat → Nat) (aMs : Nat → Nat) (lo : Nat → Bool) (aEW : Nat) (aEK : Nat) (tw : Nat → Int32) (kn : Nat → Bool) (un : Int32) (w : Nat → Nat → Int32) (ms : Nat → Nat → Bool) (mk : Nat → Bool) (x : Int32) (hp5 : dr_P P) (hn : n < 5) (hc : pw = false ∨ dr_in x P = false) : MG l yX3_replace (Cond.code yX3_replace cX3_replace 2 (some .boolean) :: TB) rm_c_rep0 (dC, dI) vwCl (TY cI cB cQ cJ) [.ref aR, .int x] ((aR, .inr (3, [.ref aS, .ref aA, .ref aL, .ref aE, .int (bI pw), .int tn])) :: (aS, .inr (0, [.int (nI P), .int (nI (P - 2)), .int (nI (P - 1)), .int (nI (P * (P - 2)))])) :: (aA, .inl (cQ, n, .inr (.inr (.inr (.inr (fun z8 => some (aTs z8))))))) :: (aL, .inl (cB, P, .inl (fun z9 => bI (lo z9)))) :: (aE, .inr (2, [.ref aS, .ref aEW, .ref aEK, .int un])) :: (aEW, .inl (cI, P * P, .inl tw)) :: (aEK, .inl (cB, P * P, .inl (fun z9 => bI (kn z9)))) :: (stW cI cB aS P aTs aWs aMs w ms mk n)) (fun (r : Int32) (u : Unit) => r = bI false) (fun (u : Unit) => ((aR, .inr (3, [.ref aS, .ref aA, .ref aL, .ref aE, .int (bI pw), .int tn])) :: (aS, .inr (0, [.int (nI P), .int (nI (P - 2)), .int (nI (P - 1)), .int (nI (P * (P - 2)))])) :: (aA, .inl (cQ, n, .inr (.inr (.inr (.inr (fun z8 => some (aTs z8))))))) :: (aL, .inl (cB, P, .inl (fun z9 => bI (lo z9)))) :: (aE, .inr (2, [.ref aS, .ref aEW, .ref aEK, .int un])) :: (aEW, .inl (cI, P * P, .inl tw)) :: (aEK, .inl (cB, P * P, .inl (fun z9 => bI (kn z9)))) :: (stW cI cB aS P aTs aWs aMs w ms mk n))) := by
  refine MG.ofW (cc := cX3_replace) (maxL := 2) (rt := .boolean) (by decide +kernel) rfl (Nat.le_of_ble_eq_true rfl) ?_
  intro p e s m args below meth c A ls Q H locs hQ hx hb hml hr hlk hts hown hK hP hD hS hA hl
  have hts : ∀ w ∈ TB, w.before args s = true := fun w h => hts w (List.mem_cons_of_mem _ h)
  have hown : s.vm.findClass RX3 = some m.cls := hown
  have hl : lv_has ls 2 [(0, .ref aR), (1, .int x)] := hl
  have hP : va_P (dC, dI) vwCl ((aR, .inr (3, [.ref aS, .ref aA, .ref aL, .ref aE, .int (bI pw), .int tn])) :: (aS, .inr (0, [.int (nI P), .int (nI (P - 2)), .int (nI (P - 1)), .int (nI (P * (P - 2)))])) :: (aA, .inl (cQ, n, .inr (.inr (.inr (.inr (fun z8 => some (aTs z8))))))) :: (aL, .inl (cB, P, .inl (fun z9 => bI (lo z9)))) :: (aE, .inr (2, [.ref aS, .ref aEW, .ref aEK, .int un])) :: (aEW, .inl (cI, P * P, .inl tw)) :: (aEK, .inl (cB, P * P, .inl (fun z9 => bI (kn z9)))) :: (stW cI cB aS P aTs aWs aMs w ms mk n)) H := hP
  have hD : va_D A ((aR, .inr (3, [.ref aS, .ref aA, .ref aL, .ref aE, .int (bI pw), .int tn])) :: (aS, .inr (0, [.int (nI P), .int (nI (P - 2)), .int (nI (P - 1)), .int (nI (P * (P - 2)))])) :: (aA, .inl (cQ, n, .inr (.inr (.inr (.inr (fun z8 => some (aTs z8))))))) :: (aL, .inl (cB, P, .inl (fun z9 => bI (lo z9)))) :: (aE, .inr (2, [.ref aS, .ref aEW, .ref aEK, .int un])) :: (aEW, .inl (cI, P * P, .inl tw)) :: (aEK, .inl (cB, P * P, .inl (fun z9 => bI (kn z9)))) :: (stW cI cB aS P aTs aWs aMs w ms mk n)) := hD
  have hp := hp5.le
  have hpp := dr_PP hp5
  have hpq := dr_PP2 hp5
  refine lv_aload_n hx hb dX3_replace_0 rfl (lv_at hl 0 rfl) ?_
  refine va_get (D := (dC, dI)) (ci := 3) (v := .int (bI pw)) (C := RX3) (T := TX3) (N := 6) hx hb hts inX3 hown hK hP 0 rfl rfl 4 (by decide) (hts _ t_fX3_55) (fun _ h9 => h9) rfl dX3_replace_1 ?_
  refine x_ifF (tgt := 24) hx hb dX3_replace_4 (by decide) (fun h4 => ?_) (fun h4 => ?_)
  · -- 4t
    refine lv_iconst (v := bI false) hx hb dX3_replace_24 (by decide) ?_
    exact x_zret (D := (dC, dI)) (cl := vwCl) (A := A) () hQ hx hb hr hlk hP hD hS dX3_replace_25 (by first | rfl | (simp [h4]; done) | (simp [h4]; omega))
  · -- 4f
    refine lv_aload_n hx hb dX3_replace_7 rfl (lv_at hl 0 rfl) ?_
    refine lv_iload_n hx hb dX3_replace_8 rfl (lv_at hl 1 rfl) ?_
    refine gV (wr := [(aA, .inl (cQ, n, .inr (.inr (.inr (.inr (fun z8 => some (aTs z8))))))), (aL, .inl (cB, P, .inl (fun z9 => bI (lo z9)))), (aE, .inr (2, [.ref aS, .ref aEW, .ref aEK, .int un])), (aEW, .inl (cI, P * P, .inl tw)), (aEK, .inl (cB, P * P, .inl (fun z9 => bI (kn z9))))]) (pre := [(aR, .inr (3, [.ref aS, .ref aA, .ref aL, .ref aE, .int (bI pw), .int tn])), (aS, .inr (0, [.int (nI P), .int (nI (P - 2)), .int (nI (P - 1)), .int (nI (P * (P - 2)))])), (aA, .inl (cQ, n, .inr (.inr (.inr (.inr (fun z8 => some (aTs z8))))))), (aL, .inl (cB, P, .inl (fun z9 => bI (lo z9)))), (aE, .inr (2, [.ref aS, .ref aEW, .ref aEK, .int un])), (aEW, .inl (cI, P * P, .inl tw)), (aEK, .inl (cB, P * P, .inl (fun z9 => bI (kn z9))))]) (tl := (stW cI cB aS P aTs aWs aMs w ms mk n)) (G := fun (u : Unit) => [(aR, .inr (3, [.ref aS, .ref aA, .ref aL, .ref aE, .int (bI pw), .int tn])), (aS, .inr (0, [.int (nI P), .int (nI (P - 2)), .int (nI (P - 1)), .int (nI (P * (P - 2)))])), (aA, .inl (cQ, n, .inr (.inr (.inr (.inr (fun z8 => some (aTs z8))))))), (aL, .inl (cB, P, .inl (fun z9 => bI (lo z9)))), (aE, .inr (2, [.ref aS, .ref aEW, .ref aEK, .int un])), (aEW, .inl (cI, P * P, .inl tw)), (aEK, .inl (cB, P * P, .inl (fun z9 => bI (kn z9))))]) (b := aR) (As := [.int x]) (rst := []) ⟨hx, hb, hml, hown, hts⟩ (c_isDrive l dC dI cI cB cQ cJ aR aS aA aL aE pw tn P x ) (cwV 1 hts (gdV t_mX3_130 t_inst_X3_isDrive t_sel_X3_isDrive t_ini_X3 t_code_X3_isDrive) rfl rfl rfl (by decide +kernel) ⟨Nat.le_of_ble_eq_true rfl, Nat.le_of_ble_eq_true rfl⟩) hK hP hD hS hA [0, 1] [2, 3, 4, 5, 6] [0, 1, 2, 3, 4, 5, 6] rfl (by decide) (fun _ => rfl) (by decide) (ci := 3) rfl rfl rfl rfl hl.1 rfl (Nat.le_of_ble_eq_true rfl) dX3_replace_9 ⟨Nat.zero_le _, Nat.zero_le _⟩ (fun r u H locs hu1 hP hD hS => ?_)
    have hr9 := hu1
    have hr9 : r = bI (dr_in x P) := hr9
    subst hr9
    have hP : va_P (dC, dI) vwCl ((aR, .inr (3, [.ref aS, .ref aA, .ref aL, .ref aE, .int (bI pw), .int tn])) :: (aS, .inr (0, [.int (nI P), .int (nI (P - 2)), .int (nI (P - 1)), .int (nI (P * (P - 2)))])) :: (aA, .inl (cQ, n, .inr (.inr (.inr (.inr (fun z8 => some (aTs z8))))))) :: (aL, .inl (cB, P, .inl (fun z9 => bI (lo z9)))) :: (aE, .inr (2, [.ref aS, .ref aEW, .ref aEK, .int un])) :: (aEW, .inl (cI, P * P, .inl tw)) :: (aEK, .inl (cB, P * P, .inl (fun z9 => bI (kn z9)))) :: (stW cI cB aS P aTs aWs aMs w ms mk n)) H := hP
    have hD : va_D A ((aR, .inr (3, [.ref aS, .ref aA, .ref aL, .ref aE, .int (bI pw), .int tn])) :: (aS, .inr (0, [.int (nI P), .int (nI (P - 2)), .int (nI (P - 1)), .int (nI (P * (P - 2)))])) :: (aA, .inl (cQ, n, .inr (.inr (.inr (.inr (fun z8 => some (aTs z8))))))) :: (aL, .inl (cB, P, .inl (fun z9 => bI (lo z9)))) :: (aE, .inr (2, [.ref aS, .ref aEW, .ref aEK, .int un])) :: (aEW, .inl (cI, P * P, .inl tw)) :: (aEK, .inl (cB, P * P, .inl (fun z9 => bI (kn z9)))) :: (stW cI cB aS P aTs aWs aMs w ms mk n)) := hD
    refine x_ifF (tgt := 24) hx hb dX3_replace_12 (by decide) (fun h12 => ?_) (fun h12 => ?_)
    · -- 12t
      refine lv_iconst (v := bI false) hx hb dX3_replace_24 (by decide) ?_
      exact x_zret (D := (dC, dI)) (cl := vwCl) (A := A) () hQ hx hb hr hlk hP hD hS dX3_replace_25 (by first | rfl | (simp [h4, h12]; done) | (simp [h4, h12]; omega))
    · -- 12f
      rcases hc with z | z <;> first | (rw [z] at h4; cases h4) | (rw [z] at h12; cases h12)

abbrev rm_c_rep1 : Room := { frames := 1, cells := 0, slots := 0, locals := 21 }
set_option maxHeartbeats 4000000 in
set_option maxRecDepth 100000 in
theorem c_rep1 (l : Launch) (dC : Nat → ClassId) (dI : Nat → Nat → Nat) (cI cB cQ cJ : ClassId) (aR : Nat) (aS : Nat) (aA : Nat) (aL : Nat) (aE : Nat) (pw : Bool) (tn : Int32) (P : Nat) (n : Nat) (aTs : Nat → Nat) (aWs : Nat → Nat) (aMs : Nat → Nat) (lo : Nat → Bool) (aEW : Nat) (aEK : Nat) (tw : Nat → Int32) (kn : Nat → Bool) (un : Int32) (w : Nat → Nat → Int32) (ms : Nat → Nat → Bool) (mk : Nat → Bool) (d : Nat) (hp5 : dr_P P) (hn : n < 5) (hd : d < P) (hc : lo d = false) : MG l yX3_replace (Cond.code yX3_replace cX3_replace 2 (some .boolean) :: TB) rm_c_rep1 (dC, dI) vwCl (TY cI cB cQ cJ) [.ref aR, .int (nI d)] ((aR, .inr (3, [.ref aS, .ref aA, .ref aL, .ref aE, .int (bI true), .int tn])) :: (aS, .inr (0, [.int (nI P), .int (nI (P - 2)), .int (nI (P - 1)), .int (nI (P * (P - 2)))])) :: (aA, .inl (cQ, n, .inr (.inr (.inr (.inr (fun z8 => some (aTs z8))))))) :: (aL, .inl (cB, P, .inl (fun z9 => bI (lo z9)))) :: (aE, .inr (2, [.ref aS, .ref aEW, .ref aEK, .int un])) :: (aEW, .inl (cI, P * P, .inl tw)) :: (aEK, .inl (cB, P * P, .inl (fun z9 => bI (kn z9)))) :: (stW cI cB aS P aTs aWs aMs w ms mk n)) (fun (r : Int32) (u : Unit) => r = bI false) (fun (u : Unit) => ((aR, .inr (3, [.ref aS, .ref aA, .ref aL, .ref aE, .int (bI true), .int tn])) :: (aS, .inr (0, [.int (nI P), .int (nI (P - 2)), .int (nI (P - 1)), .int (nI (P * (P - 2)))])) :: (aA, .inl (cQ, n, .inr (.inr (.inr (.inr (fun z8 => some (aTs z8))))))) :: (aL, .inl (cB, P, .inl (fun z9 => bI (lo z9)))) :: (aE, .inr (2, [.ref aS, .ref aEW, .ref aEK, .int un])) :: (aEW, .inl (cI, P * P, .inl tw)) :: (aEK, .inl (cB, P * P, .inl (fun z9 => bI (kn z9)))) :: (stW cI cB aS P aTs aWs aMs w ms mk n))) := by
  refine MG.ofW (cc := cX3_replace) (maxL := 2) (rt := .boolean) (by decide +kernel) rfl (Nat.le_of_ble_eq_true rfl) ?_
  intro p e s m args below meth c A ls Q H locs hQ hx hb hml hr hlk hts hown hK hP hD hS hA hl
  have hts : ∀ w ∈ TB, w.before args s = true := fun w h => hts w (List.mem_cons_of_mem _ h)
  have hown : s.vm.findClass RX3 = some m.cls := hown
  have hl : lv_has ls 2 [(0, .ref aR), (1, .int (nI d))] := hl
  have hP : va_P (dC, dI) vwCl ((aR, .inr (3, [.ref aS, .ref aA, .ref aL, .ref aE, .int (bI true), .int tn])) :: (aS, .inr (0, [.int (nI P), .int (nI (P - 2)), .int (nI (P - 1)), .int (nI (P * (P - 2)))])) :: (aA, .inl (cQ, n, .inr (.inr (.inr (.inr (fun z8 => some (aTs z8))))))) :: (aL, .inl (cB, P, .inl (fun z9 => bI (lo z9)))) :: (aE, .inr (2, [.ref aS, .ref aEW, .ref aEK, .int un])) :: (aEW, .inl (cI, P * P, .inl tw)) :: (aEK, .inl (cB, P * P, .inl (fun z9 => bI (kn z9)))) :: (stW cI cB aS P aTs aWs aMs w ms mk n)) H := hP
  have hD : va_D A ((aR, .inr (3, [.ref aS, .ref aA, .ref aL, .ref aE, .int (bI true), .int tn])) :: (aS, .inr (0, [.int (nI P), .int (nI (P - 2)), .int (nI (P - 1)), .int (nI (P * (P - 2)))])) :: (aA, .inl (cQ, n, .inr (.inr (.inr (.inr (fun z8 => some (aTs z8))))))) :: (aL, .inl (cB, P, .inl (fun z9 => bI (lo z9)))) :: (aE, .inr (2, [.ref aS, .ref aEW, .ref aEK, .int un])) :: (aEW, .inl (cI, P * P, .inl tw)) :: (aEK, .inl (cB, P * P, .inl (fun z9 => bI (kn z9)))) :: (stW cI cB aS P aTs aWs aMs w ms mk n)) := hD
  have hp := hp5.le
  have hpp := dr_PP hp5
  have hpq := dr_PP2 hp5
  refine lv_aload_n hx hb dX3_replace_0 rfl (lv_at hl 0 rfl) ?_
  refine va_get (D := (dC, dI)) (ci := 3) (v := .int (bI true)) (C := RX3) (T := TX3) (N := 6) hx hb hts inX3 hown hK hP 0 rfl rfl 4 (by decide) (hts _ t_fX3_55) (fun _ h9 => h9) rfl dX3_replace_1 ?_
  refine x_ifF (tgt := 24) hx hb dX3_replace_4 (by decide) (fun z9 => by cases z9) (fun _ => ?_)
  refine lv_aload_n hx hb dX3_replace_7 rfl (lv_at hl 0 rfl) ?_
  refine lv_iload_n hx hb dX3_replace_8 rfl (lv_at hl 1 rfl) ?_
  refine gV (wr := [(aA, .inl (cQ, n, .inr (.inr (.inr (.inr (fun z8 => some (aTs z8))))))), (aL, .inl (cB, P, .inl (fun z9 => bI (lo z9)))), (aE, .inr (2, [.ref aS, .ref aEW, .ref aEK, .int un])), (aEW, .inl (cI, P * P, .inl tw)), (aEK, .inl (cB, P * P, .inl (fun z9 => bI (kn z9))))]) (pre := [(aR, .inr (3, [.ref aS, .ref aA, .ref aL, .ref aE, .int (bI true), .int tn])), (aS, .inr (0, [.int (nI P), .int (nI (P - 2)), .int (nI (P - 1)), .int (nI (P * (P - 2)))])), (aA, .inl (cQ, n, .inr (.inr (.inr (.inr (fun z8 => some (aTs z8))))))), (aL, .inl (cB, P, .inl (fun z9 => bI (lo z9)))), (aE, .inr (2, [.ref aS, .ref aEW, .ref aEK, .int un])), (aEW, .inl (cI, P * P, .inl tw)), (aEK, .inl (cB, P * P, .inl (fun z9 => bI (kn z9))))]) (tl := (stW cI cB aS P aTs aWs aMs w ms mk n)) (G := fun (u : Unit) => [(aR, .inr (3, [.ref aS, .ref aA, .ref aL, .ref aE, .int (bI true), .int tn])), (aS, .inr (0, [.int (nI P), .int (nI (P - 2)), .int (nI (P - 1)), .int (nI (P * (P - 2)))])), (aA, .inl (cQ, n, .inr (.inr (.inr (.inr (fun z8 => some (aTs z8))))))), (aL, .inl (cB, P, .inl (fun z9 => bI (lo z9)))), (aE, .inr (2, [.ref aS, .ref aEW, .ref aEK, .int un])), (aEW, .inl (cI, P * P, .inl tw)), (aEK, .inl (cB, P * P, .inl (fun z9 => bI (kn z9))))]) (b := aR) (As := [.int (nI d)]) (rst := []) ⟨hx, hb, hml, hown, hts⟩ (c_isDrive l dC dI cI cB cQ cJ aR aS aA aL aE true tn P (nI d) ) (cwV 1 hts (gdV t_mX3_130 t_inst_X3_isDrive t_sel_X3_isDrive t_ini_X3 t_code_X3_isDrive) rfl rfl rfl (by decide +kernel) ⟨Nat.le_of_ble_eq_true rfl, Nat.le_of_ble_eq_true rfl⟩) hK hP hD hS hA [0, 1] [2, 3, 4, 5, 6] [0, 1, 2, 3, 4, 5, 6] rfl (by decide) (fun _ => rfl) (by decide) (ci := 3) rfl rfl rfl rfl hl.1 rfl (Nat.le_of_ble_eq_true rfl) dX3_replace_9 ⟨Nat.zero_le _, Nat.zero_le _⟩ (fun r u H locs hu1 hP hD hS => ?_)
  have hr9 := hu1
  have hr9 : r = bI (dr_in (nI d) P) := hr9
  subst hr9
  have hP : va_P (dC, dI) vwCl ((aR, .inr (3, [.ref aS, .ref aA, .ref aL, .ref aE, .int (bI true), .int tn])) :: (aS, .inr (0, [.int (nI P), .int (nI (P - 2)), .int (nI (P - 1)), .int (nI (P * (P - 2)))])) :: (aA, .inl (cQ, n, .inr (.inr (.inr (.inr (fun z8 => some (aTs z8))))))) :: (aL, .inl (cB, P, .inl (fun z9 => bI (lo z9)))) :: (aE, .inr (2, [.ref aS, .ref aEW, .ref aEK, .int un])) :: (aEW, .inl (cI, P * P, .inl tw)) :: (aEK, .inl (cB, P * P, .inl (fun z9 => bI (kn z9)))) :: (stW cI cB aS P aTs aWs aMs w ms mk n)) H := hP
  have hD : va_D A ((aR, .inr (3, [.ref aS, .ref aA, .ref aL, .ref aE, .int (bI true), .int tn])) :: (aS, .inr (0, [.int (nI P), .int (nI (P - 2)), .int (nI (P - 1)), .int (nI (P * (P - 2)))])) :: (aA, .inl (cQ, n, .inr (.inr (.inr (.inr (fun z8 => some (aTs z8))))))) :: (aL, .inl (cB, P, .inl (fun z9 => bI (lo z9)))) :: (aE, .inr (2, [.ref aS, .ref aEW, .ref aEK, .int un])) :: (aEW, .inl (cI, P * P, .inl tw)) :: (aEK, .inl (cB, P * P, .inl (fun z9 => bI (kn z9)))) :: (stW cI cB aS P aTs aWs aMs w ms mk n)) := hD
  refine x_top (show bI (dr_in (nI d) P) = bI true from (congrArg bI (dr_in_of (by omega) hd))) ?_
  refine x_ifF (tgt := 24) hx hb dX3_replace_12 (by decide) (fun z9 => by cases z9) (fun _ => ?_)
  refine lv_aload_n hx hb dX3_replace_15 rfl (lv_at hl 0 rfl) ?_
  refine va_get (D := (dC, dI)) (ci := 3) (v := .ref aL) (C := RX3) (T := TX3) (N := 6) hx hb hts inX3 hown hK hP 0 rfl rfl 2 (by decide) (hts _ t_fX3_44) (fun _ h9 => h9) rfl dX3_replace_16 ?_
  refine lv_iload_n hx hb dX3_replace_19 rfl (lv_at hl 1 rfl) ?_
  refine x_zald (g := lo) hx hb hK hP 3 1 rfl rfl dX3_replace_20 (by omega) (by omega) ?_
  refine x_top (show bI (lo d) = bI false from (congrArg bI hc)) ?_
  refine x_ifT (tgt := 26) hx hb dX3_replace_21 (by decide) (fun z9 => by cases z9) (fun _ => ?_)
  refine lv_iconst (v := bI false) hx hb dX3_replace_24 (by decide) ?_
  exact x_zret (D := (dC, dI)) (cl := vwCl) (A := A) () hQ hx hb hr hlk hP hD hS dX3_replace_25 (by first | rfl | (simp []; done) | (simp []; omega))

abbrev rm_c_rep2 : Room := { frames := 1, cells := 0, slots := 0, locals := 21 }
set_option maxHeartbeats 4000000 in
set_option maxRecDepth 100000 in
theorem c_rep2 (l : Launch) (dC : Nat → ClassId) (dI : Nat → Nat → Nat) (cI cB cQ cJ : ClassId) (aR : Nat) (aS : Nat) (aA : Nat) (aL : Nat) (aE : Nat) (pw : Bool) (tn : Int32) (P : Nat) (n : Nat) (aTs : Nat → Nat) (aWs : Nat → Nat) (aMs : Nat → Nat) (lo : Nat → Bool) (aEW : Nat) (aEK : Nat) (tw : Nat → Int32) (kn : Nat → Bool) (un : Int32) (w : Nat → Nat → Int32) (ms : Nat → Nat → Bool) (mk : Nat → Bool) (d : Nat) (hp5 : dr_P P) (hn : n < 5) (hd : d < P) (hc : lo d = true) : MG l yX3_replace (Cond.code yX3_replace cX3_replace 2 (some .boolean) :: TB) rm_c_rep2 (dC, dI) vwCl (TY cI cB cQ cJ) [.ref aR, .int (nI d)] ((aR, .inr (3, [.ref aS, .ref aA, .ref aL, .ref aE, .int (bI true), .int tn])) :: (aS, .inr (0, [.int (nI P), .int (nI (P - 2)), .int (nI (P - 1)), .int (nI (P * (P - 2)))])) :: (aA, .inl (cQ, n, .inr (.inr (.inr (.inr (fun z8 => some (aTs z8))))))) :: (aL, .inl (cB, P, .inl (fun z9 => bI (lo z9)))) :: (aE, .inr (2, [.ref aS, .ref aEW, .ref aEK, .int un])) :: (aEW, .inl (cI, P * P, .inl tw)) :: (aEK, .inl (cB, P * P, .inl (fun z9 => bI (kn z9)))) :: (stW cI cB aS P aTs aWs aMs w ms mk n)) (fun (r : Int32) (u : Unit) => r = bI true) (fun (u : Unit) => ((aR, .inr (3, [.ref aS, .ref aA, .ref aL, .ref aE, .int (bI true), .int tn])) :: (aS, .inr (0, [.int (nI P), .int (nI (P - 2)), .int (nI (P - 1)), .int (nI (P * (P - 2)))])) :: (aA, .inl (cQ, n, .inr (.inr (.inr (.inr (fun z8 => some (aTs z8))))))) :: (aL, .inl (cB, P, .inl (fun z9 => bI ((va_up lo d false) z9)))) :: (aE, .inr (2, [.ref aS, .ref aEW, .ref aEK, .int un])) :: (aEW, .inl (cI, P * P, .inl tw)) :: (aEK, .inl (cB, P * P, .inl (fun z9 => bI (kn z9)))) :: (stW cI cB aS P aTs aWs aMs w ms mk n))) := by
  refine MG.ofW (cc := cX3_replace) (maxL := 2) (rt := .boolean) (by decide +kernel) rfl (Nat.le_of_ble_eq_true rfl) ?_
  intro p e s m args below meth c A ls Q H locs hQ hx hb hml hr hlk hts hown hK hP hD hS hA hl
  have hts : ∀ w ∈ TB, w.before args s = true := fun w h => hts w (List.mem_cons_of_mem _ h)
  have hown : s.vm.findClass RX3 = some m.cls := hown
  have hl : lv_has ls 2 [(0, .ref aR), (1, .int (nI d))] := hl
  have hP : va_P (dC, dI) vwCl ((aR, .inr (3, [.ref aS, .ref aA, .ref aL, .ref aE, .int (bI true), .int tn])) :: (aS, .inr (0, [.int (nI P), .int (nI (P - 2)), .int (nI (P - 1)), .int (nI (P * (P - 2)))])) :: (aA, .inl (cQ, n, .inr (.inr (.inr (.inr (fun z8 => some (aTs z8))))))) :: (aL, .inl (cB, P, .inl (fun z9 => bI (lo z9)))) :: (aE, .inr (2, [.ref aS, .ref aEW, .ref aEK, .int un])) :: (aEW, .inl (cI, P * P, .inl tw)) :: (aEK, .inl (cB, P * P, .inl (fun z9 => bI (kn z9)))) :: (stW cI cB aS P aTs aWs aMs w ms mk n)) H := hP
  have hD : va_D A ((aR, .inr (3, [.ref aS, .ref aA, .ref aL, .ref aE, .int (bI true), .int tn])) :: (aS, .inr (0, [.int (nI P), .int (nI (P - 2)), .int (nI (P - 1)), .int (nI (P * (P - 2)))])) :: (aA, .inl (cQ, n, .inr (.inr (.inr (.inr (fun z8 => some (aTs z8))))))) :: (aL, .inl (cB, P, .inl (fun z9 => bI (lo z9)))) :: (aE, .inr (2, [.ref aS, .ref aEW, .ref aEK, .int un])) :: (aEW, .inl (cI, P * P, .inl tw)) :: (aEK, .inl (cB, P * P, .inl (fun z9 => bI (kn z9)))) :: (stW cI cB aS P aTs aWs aMs w ms mk n)) := hD
  have hp := hp5.le
  have hpp := dr_PP hp5
  have hpq := dr_PP2 hp5
  refine lv_aload_n hx hb dX3_replace_0 rfl (lv_at hl 0 rfl) ?_
  refine va_get (D := (dC, dI)) (ci := 3) (v := .int (bI true)) (C := RX3) (T := TX3) (N := 6) hx hb hts inX3 hown hK hP 0 rfl rfl 4 (by decide) (hts _ t_fX3_55) (fun _ h9 => h9) rfl dX3_replace_1 ?_
  refine x_ifF (tgt := 24) hx hb dX3_replace_4 (by decide) (fun z9 => by cases z9) (fun _ => ?_)
  refine lv_aload_n hx hb dX3_replace_7 rfl (lv_at hl 0 rfl) ?_
  refine lv_iload_n hx hb dX3_replace_8 rfl (lv_at hl 1 rfl) ?_
  refine gV (wr := [(aA, .inl (cQ, n, .inr (.inr (.inr (.inr (fun z8 => some (aTs z8))))))), (aL, .inl (cB, P, .inl (fun z9 => bI (lo z9)))), (aE, .inr (2, [.ref aS, .ref aEW, .ref aEK, .int un])), (aEW, .inl (cI, P * P, .inl tw)), (aEK, .inl (cB, P * P, .inl (fun z9 => bI (kn z9))))]) (pre := [(aR, .inr (3, [.ref aS, .ref aA, .ref aL, .ref aE, .int (bI true), .int tn])), (aS, .inr (0, [.int (nI P), .int (nI (P - 2)), .int (nI (P - 1)), .int (nI (P * (P - 2)))])), (aA, .inl (cQ, n, .inr (.inr (.inr (.inr (fun z8 => some (aTs z8))))))), (aL, .inl (cB, P, .inl (fun z9 => bI (lo z9)))), (aE, .inr (2, [.ref aS, .ref aEW, .ref aEK, .int un])), (aEW, .inl (cI, P * P, .inl tw)), (aEK, .inl (cB, P * P, .inl (fun z9 => bI (kn z9))))]) (tl := (stW cI cB aS P aTs aWs aMs w ms mk n)) (G := fun (u : Unit) => [(aR, .inr (3, [.ref aS, .ref aA, .ref aL, .ref aE, .int (bI true), .int tn])), (aS, .inr (0, [.int (nI P), .int (nI (P - 2)), .int (nI (P - 1)), .int (nI (P * (P - 2)))])), (aA, .inl (cQ, n, .inr (.inr (.inr (.inr (fun z8 => some (aTs z8))))))), (aL, .inl (cB, P, .inl (fun z9 => bI (lo z9)))), (aE, .inr (2, [.ref aS, .ref aEW, .ref aEK, .int un])), (aEW, .inl (cI, P * P, .inl tw)), (aEK, .inl (cB, P * P, .inl (fun z9 => bI (kn z9))))]) (b := aR) (As := [.int (nI d)]) (rst := []) ⟨hx, hb, hml, hown, hts⟩ (c_isDrive l dC dI cI cB cQ cJ aR aS aA aL aE true tn P (nI d) ) (cwV 1 hts (gdV t_mX3_130 t_inst_X3_isDrive t_sel_X3_isDrive t_ini_X3 t_code_X3_isDrive) rfl rfl rfl (by decide +kernel) ⟨Nat.le_of_ble_eq_true rfl, Nat.le_of_ble_eq_true rfl⟩) hK hP hD hS hA [0, 1] [2, 3, 4, 5, 6] [0, 1, 2, 3, 4, 5, 6] rfl (by decide) (fun _ => rfl) (by decide) (ci := 3) rfl rfl rfl rfl hl.1 rfl (Nat.le_of_ble_eq_true rfl) dX3_replace_9 ⟨Nat.zero_le _, Nat.zero_le _⟩ (fun r u H locs hu1 hP hD hS => ?_)
  have hr9 := hu1
  have hr9 : r = bI (dr_in (nI d) P) := hr9
  subst hr9
  have hP : va_P (dC, dI) vwCl ((aR, .inr (3, [.ref aS, .ref aA, .ref aL, .ref aE, .int (bI true), .int tn])) :: (aS, .inr (0, [.int (nI P), .int (nI (P - 2)), .int (nI (P - 1)), .int (nI (P * (P - 2)))])) :: (aA, .inl (cQ, n, .inr (.inr (.inr (.inr (fun z8 => some (aTs z8))))))) :: (aL, .inl (cB, P, .inl (fun z9 => bI (lo z9)))) :: (aE, .inr (2, [.ref aS, .ref aEW, .ref aEK, .int un])) :: (aEW, .inl (cI, P * P, .inl tw)) :: (aEK, .inl (cB, P * P, .inl (fun z9 => bI (kn z9)))) :: (stW cI cB aS P aTs aWs aMs w ms mk n)) H := hP
  have hD : va_D A ((aR, .inr (3, [.ref aS, .ref aA, .ref aL, .ref aE, .int (bI true), .int tn])) :: (aS, .inr (0, [.int (nI P), .int (nI (P - 2)), .int (nI (P - 1)), .int (nI (P * (P - 2)))])) :: (aA, .inl (cQ, n, .inr (.inr (.inr (.inr (fun z8 => some (aTs z8))))))) :: (aL, .inl (cB, P, .inl (fun z9 => bI (lo z9)))) :: (aE, .inr (2, [.ref aS, .ref aEW, .ref aEK, .int un])) :: (aEW, .inl (cI, P * P, .inl tw)) :: (aEK, .inl (cB, P * P, .inl (fun z9 => bI (kn z9)))) :: (stW cI cB aS P aTs aWs aMs w ms mk n)) := hD
  refine x_top (show bI (dr_in (nI d) P) = bI true from (congrArg bI (dr_in_of (by omega) hd))) ?_
  refine x_ifF (tgt := 24) hx hb dX3_replace_12 (by decide) (fun z9 => by cases z9) (fun _ => ?_)
  refine lv_aload_n hx hb dX3_replace_15 rfl (lv_at hl 0 rfl) ?_
  refine va_get (D := (dC, dI)) (ci := 3) (v := .ref aL) (C := RX3) (T := TX3) (N := 6) hx hb hts inX3 hown hK hP 0 rfl rfl 2 (by decide) (hts _ t_fX3_44) (fun _ h9 => h9) rfl dX3_replace_16 ?_
  refine lv_iload_n hx hb dX3_replace_19 rfl (lv_at hl 1 rfl) ?_
  refine x_zald (g := lo) hx hb hK hP 3 1 rfl rfl dX3_replace_20 (by omega) (by omega) ?_
  refine x_top (show bI (lo d) = bI true from (congrArg bI hc)) ?_
  refine x_ifT (tgt := 26) hx hb dX3_replace_21 (by decide) (fun _ => ?_) (fun z9 => by cases z9)
  refine lv_aload_n hx hb dX3_replace_26 rfl (lv_at hl 0 rfl) ?_
  refine va_get (D := (dC, dI)) (ci := 3) (v := .ref aL) (C := RX3) (T := TX3) (N := 6) hx hb hts inX3 hown hK hP 0 rfl rfl 2 (by decide) (hts _ t_fX3_44) (fun _ h9 => h9) rfl dX3_replace_27 ?_
  refine lv_iload_n hx hb dX3_replace_30 rfl (lv_at hl 1 rfl) ?_
  refine lv_iconst (v := bI false) hx hb dX3_replace_31 (by decide) ?_
  refine x_zast (g := lo) hx hb hK hP hD hS 3 1 rfl rfl dX3_replace_32 (by omega) (by omega) (fun H locs hP hD hS => ?_)
  have hP : va_P (dC, dI) vwCl ((aR, .inr (3, [.ref aS, .ref aA, .ref aL, .ref aE, .int (bI true), .int tn])) :: (aS, .inr (0, [.int (nI P), .int (nI (P - 2)), .int (nI (P - 1)), .int (nI (P * (P - 2)))])) :: (aA, .inl (cQ, n, .inr (.inr (.inr (.inr (fun z8 => some (aTs z8))))))) :: (aL, .inl (cB, P, .inl (fun z9 => bI ((va_up lo d false) z9)))) :: (aE, .inr (2, [.ref aS, .ref aEW, .ref aEK, .int un])) :: (aEW, .inl (cI, P * P, .inl tw)) :: (aEK, .inl (cB, P * P, .inl (fun z9 => bI (kn z9)))) :: (stW cI cB aS P aTs aWs aMs w ms mk n)) H := hP
  have hD : va_D A ((aR, .inr (3, [.ref aS, .ref aA, .ref aL, .ref aE, .int (bI true), .int tn])) :: (aS, .inr (0, [.int (nI P), .int (nI (P - 2)), .int (nI (P - 1)), .int (nI (P * (P - 2)))])) :: (aA, .inl (cQ, n, .inr (.inr (.inr (.inr (fun z8 => some (aTs z8))))))) :: (aL, .inl (cB, P, .inl (fun z9 => bI ((va_up lo d false) z9)))) :: (aE, .inr (2, [.ref aS, .ref aEW, .ref aEK, .int un])) :: (aEW, .inl (cI, P * P, .inl tw)) :: (aEK, .inl (cB, P * P, .inl (fun z9 => bI (kn z9)))) :: (stW cI cB aS P aTs aWs aMs w ms mk n)) := hD
  refine lv_iconst (v := bI true) hx hb dX3_replace_33 (by decide) ?_
  exact x_zret (D := (dC, dI)) (cl := vwCl) (A := A) () hQ hx hb hr hlk hP hD hS dX3_replace_34 (by first | rfl | (simp []; done) | (simp []; omega))

abbrev rm_c_start0 : Room := { frames := 0, cells := 0, slots := 0, locals := 0 }
set_option maxHeartbeats 4000000 in
set_option maxRecDepth 100000 in
theorem c_start0 (l : Launch) (dC : Nat → ClassId) (dI : Nat → Nat → Nat) (cI cB cQ cJ : ClassId) (aR : Nat) (aS : Nat) (aA : Nat) (aL : Nat) (aE : Nat) (pw : Bool) (tn : Int32) (P : Nat) (n : Nat) (aTs : Nat → Nat) (aWs : Nat → Nat) (aMs : Nat → Nat) (lo : Nat → Bool) (aEW : Nat) (aEK : Nat) (tw : Nat → Int32) (kn : Nat → Bool) (un : Int32) (w : Nat → Nat → Int32) (ms : Nat → Nat → Bool) (mk : Nat → Bool) (hp5 : dr_P P) (hn : n < 5) : MG l yX3_start (Cond.code yX3_start cX3_start 4 (some .int) :: TB) rm_c_start0 (dC, dI) vwCl (TY cI cB cQ cJ) [.ref aR] ((aR, .inr (3, [.ref aS, .ref aA, .ref aL, .ref aE, .int (bI true), .int tn])) :: (aS, .inr (0, [.int (nI P), .int (nI (P - 2)), .int (nI (P - 1)), .int (nI (P * (P - 2)))])) :: (aA, .inl (cQ, n, .inr (.inr (.inr (.inr (fun z8 => some (aTs z8))))))) :: (aL, .inl (cB, P, .inl (fun z9 => bI (lo z9)))) :: (aE, .inr (2, [.ref aS, .ref aEW, .ref aEK, .int un])) :: (aEW, .inl (cI, P * P, .inl tw)) :: (aEK, .inl (cB, P * P, .inl (fun z9 => bI (kn z9)))) :: (stW cI cB aS P aTs aWs aMs w ms mk n)) (fun (r : Int32) (u : Unit) => r = (-1)) (fun (u : Unit) => ((aR, .inr (3, [.ref aS, .ref aA, .ref aL, .ref aE, .int (bI true), .int tn])) :: (aS, .inr (0, [.int (nI P), .int (nI (P - 2)), .int (nI (P - 1)), .int (nI (P * (P - 2)))])) :: (aA, .inl (cQ, n, .inr (.inr (.inr (.inr (fun z8 => some (aTs z8))))))) :: (aL, .inl (cB, P, .inl (fun z9 => bI (lo z9)))) :: (aE, .inr (2, [.ref aS, .ref aEW, .ref aEK, .int un])) :: (aEW, .inl (cI, P * P, .inl tw)) :: (aEK, .inl (cB, P * P, .inl (fun z9 => bI (kn z9)))) :: (stW cI cB aS P aTs aWs aMs w ms mk n))) := by
  refine MG.ofW (cc := cX3_start) (maxL := 4) (rt := .int) (by decide +kernel) rfl (Nat.le_of_ble_eq_true rfl) ?_
  intro p e s m args below meth c A ls Q H locs hQ hx hb hml hr hlk hts hown hK hP hD hS hA hl
  have hts : ∀ w ∈ TB, w.before args s = true := fun w h => hts w (List.mem_cons_of_mem _ h)
  have hown : s.vm.findClass RX3 = some m.cls := hown
  have hl : lv_has ls 4 [(0, .ref aR)] := hl
  have hP : va_P (dC, dI) vwCl ((aR, .inr (3, [.ref aS, .ref aA, .ref aL, .ref aE, .int (bI true), .int tn])) :: (aS, .inr (0, [.int (nI P), .int (nI (P - 2)), .int (nI (P - 1)), .int (nI (P * (P - 2)))])) :: (aA, .inl (cQ, n, .inr (.inr (.inr (.inr (fun z8 => some (aTs z8))))))) :: (aL, .inl (cB, P, .inl (fun z9 => bI (lo z9)))) :: (aE, .inr (2, [.ref aS, .ref aEW, .ref aEK, .int un])) :: (aEW, .inl (cI, P * P, .inl tw)) :: (aEK, .inl (cB, P * P, .inl (fun z9 => bI (kn z9)))) :: (stW cI cB aS P aTs aWs aMs w ms mk n)) H := hP
  have hD : va_D A ((aR, .inr (3, [.ref aS, .ref aA, .ref aL, .ref aE, .int (bI true), .int tn])) :: (aS, .inr (0, [.int (nI P), .int (nI (P - 2)), .int (nI (P - 1)), .int (nI (P * (P - 2)))])) :: (aA, .inl (cQ, n, .inr (.inr (.inr (.inr (fun z8 => some (aTs z8))))))) :: (aL, .inl (cB, P, .inl (fun z9 => bI (lo z9)))) :: (aE, .inr (2, [.ref aS, .ref aEW, .ref aEK, .int un])) :: (aEW, .inl (cI, P * P, .inl tw)) :: (aEK, .inl (cB, P * P, .inl (fun z9 => bI (kn z9)))) :: (stW cI cB aS P aTs aWs aMs w ms mk n)) := hD
  have hp := hp5.le
  have hpp := dr_PP hp5
  have hpq := dr_PP2 hp5
  refine lv_aload_n hx hb dX3_start_0 rfl (lv_at hl 0 rfl) ?_
  refine va_get (D := (dC, dI)) (ci := 3) (v := .int (bI true)) (C := RX3) (T := TX3) (N := 6) hx hb hts inX3 hown hK hP 0 rfl rfl 4 (by decide) (hts _ t_fX3_55) (fun _ h9 => h9) rfl dX3_start_1 ?_
  refine x_ifF (tgt := 9) hx hb dX3_start_4 (by decide) (fun z9 => by cases z9) (fun _ => ?_)
  refine lv_iconst (v := (-1)) hx hb dX3_start_7 (by decide) ?_
  exact x_iret (D := (dC, dI)) (cl := vwCl) (A := A) () hQ hx hb hr hlk hP hD hS dX3_start_8 (by first | rfl | (simp []; done) | (simp []; omega))

abbrev rm_c_start1 : Room := { frames := 4, cells := 0, slots := 0, locals := 90 }
set_option maxHeartbeats 4000000 in
set_option maxRecDepth 100000 in
theorem c_start1 (l : Launch) (dC : Nat → ClassId) (dI : Nat → Nat → Nat) (cI cB cQ cJ : ClassId) (aR : Nat) (aS : Nat) (aA : Nat) (aL : Nat) (aE : Nat) (pw : Bool) (tn : Int32) (P : Nat) (n : Nat) (aTs : Nat → Nat) (aWs : Nat → Nat) (aMs : Nat → Nat) (lo : Nat → Bool) (aEW : Nat) (aEK : Nat) (tw : Nat → Int32) (kn : Nat → Bool) (un : Int32) (w : Nat → Nat → Int32) (ms : Nat → Nat → Bool) (mk : Nat → Bool) (hp5 : dr_P P) (hn : n < 5) : MG l yX3_start (Cond.code yX3_start cX3_start 4 (some .int) :: TB) rm_c_start1 (dC, dI) vwCl (TY cI cB cQ cJ) [.ref aR] ((aR, .inr (3, [.ref aS, .ref aA, .ref aL, .ref aE, .int (bI false), .int tn])) :: (aS, .inr (0, [.int (nI P), .int (nI (P - 2)), .int (nI (P - 1)), .int (nI (P * (P - 2)))])) :: (aA, .inl (cQ, n, .inr (.inr (.inr (.inr (fun z8 => some (aTs z8))))))) :: (aL, .inl (cB, P, .inl (fun z9 => bI (lo z9)))) :: (aE, .inr (2, [.ref aS, .ref aEW, .ref aEK, .int un])) :: (aEW, .inl (cI, P * P, .inl tw)) :: (aEK, .inl (cB, P * P, .inl (fun z9 => bI (kn z9)))) :: (stW cI cB aS P aTs aWs aMs w ms mk n)) (fun (r : Int32) (u : Unit) => r = nI ((dr_sta P ms w mk n).1)) (fun (u : Unit) => ((aR, .inr (3, [.ref aS, .ref aA, .ref aL, .ref aE, .int (bI true), .int (-1)])) :: (aS, .inr (0, [.int (nI P), .int (nI (P - 2)), .int (nI (P - 1)), .int (nI (P * (P - 2)))])) :: (aA, .inl (cQ, n, .inr (.inr (.inr (.inr (fun z8 => some (aTs z8))))))) :: (aL, .inl (cB, P, .inl (fun z9 => bI (lo z9)))) :: (aE, .inr (2, [.ref aS, .ref aEW, .ref aEK, .int un])) :: (aEW, .inl (cI, P * P, .inl tw)) :: (aEK, .inl (cB, P * P, .inl (fun z9 => bI (kn z9)))) :: (stW cI cB aS P aTs aWs aMs ((dr_sta P ms w mk n).2.1) ms ((dr_sta P ms w mk n).2.2) n))) := by
  refine MG.ofW (cc := cX3_start) (maxL := 4) (rt := .int) (by decide +kernel) rfl (Nat.le_of_ble_eq_true rfl) ?_
  intro p e s m args below meth c A ls Q H locs hQ hx hb hml hr hlk hts hown hK hP hD hS hA hl
  have hts : ∀ w ∈ TB, w.before args s = true := fun w h => hts w (List.mem_cons_of_mem _ h)
  have hown : s.vm.findClass RX3 = some m.cls := hown
  have hl : lv_has ls 4 [(0, .ref aR)] := hl
  have hP : va_P (dC, dI) vwCl ((aR, .inr (3, [.ref aS, .ref aA, .ref aL, .ref aE, .int (bI false), .int tn])) :: (aS, .inr (0, [.int (nI P), .int (nI (P - 2)), .int (nI (P - 1)), .int (nI (P * (P - 2)))])) :: (aA, .inl (cQ, n, .inr (.inr (.inr (.inr (fun z8 => some (aTs z8))))))) :: (aL, .inl (cB, P, .inl (fun z9 => bI (lo z9)))) :: (aE, .inr (2, [.ref aS, .ref aEW, .ref aEK, .int un])) :: (aEW, .inl (cI, P * P, .inl tw)) :: (aEK, .inl (cB, P * P, .inl (fun z9 => bI (kn z9)))) :: (stW cI cB aS P aTs aWs aMs w ms mk n)) H := hP
  have hD : va_D A ((aR, .inr (3, [.ref aS, .ref aA, .ref aL, .ref aE, .int (bI false), .int tn])) :: (aS, .inr (0, [.int (nI P), .int (nI (P - 2)), .int (nI (P - 1)), .int (nI (P * (P - 2)))])) :: (aA, .inl (cQ, n, .inr (.inr (.inr (.inr (fun z8 => some (aTs z8))))))) :: (aL, .inl (cB, P, .inl (fun z9 => bI (lo z9)))) :: (aE, .inr (2, [.ref aS, .ref aEW, .ref aEK, .int un])) :: (aEW, .inl (cI, P * P, .inl tw)) :: (aEK, .inl (cB, P * P, .inl (fun z9 => bI (kn z9)))) :: (stW cI cB aS P aTs aWs aMs w ms mk n)) := hD
  have hp := hp5.le
  have hpp := dr_PP hp5
  have hpq := dr_PP2 hp5
  refine lv_aload_n hx hb dX3_start_0 rfl (lv_at hl 0 rfl) ?_
  refine va_get (D := (dC, dI)) (ci := 3) (v := .int (bI false)) (C := RX3) (T := TX3) (N := 6) hx hb hts inX3 hown hK hP 0 rfl rfl 4 (by decide) (hts _ t_fX3_55) (fun _ h9 => h9) rfl dX3_start_1 ?_
  refine x_ifF (tgt := 9) hx hb dX3_start_4 (by decide) (fun _ => ?_) (fun z9 => by cases z9)
  refine lv_aload_n hx hb dX3_start_9 rfl (lv_at hl 0 rfl) ?_
  refine lv_iconst (v := bI true) hx hb dX3_start_10 (by decide) ?_
  refine va_put (D := (dC, dI)) (ci := 3) (v := .int (bI true)) (ty := .boolean) (C := RX3) (T := TX3) (N := 6) hx hb hts inX3 tyX3 tyX3_ok nmX3 hown hK hP hD hS 0 rfl rfl 4 (by decide) (hts _ t_fX3_55) (fun _ h9 => h9) rfl (by decide +kernel) (bI_narrow _) (bI_fits _) (Nat.le_of_ble_eq_true rfl) dX3_start_11 (fun H locs hP hD hS => ?_)
  have hP : va_P (dC, dI) vwCl ((aR, .inr (3, [.ref aS, .ref aA, .ref aL, .ref aE, .int (bI true), .int tn])) :: (aS, .inr (0, [.int (nI P), .int (nI (P - 2)), .int (nI (P - 1)), .int (nI (P * (P - 2)))])) :: (aA, .inl (cQ, n, .inr (.inr (.inr (.inr (fun z8 => some (aTs z8))))))) :: (aL, .inl (cB, P, .inl (fun z9 => bI (lo z9)))) :: (aE, .inr (2, [.ref aS, .ref aEW, .ref aEK, .int un])) :: (aEW, .inl (cI, P * P, .inl tw)) :: (aEK, .inl (cB, P * P, .inl (fun z9 => bI (kn z9)))) :: (stW cI cB aS P aTs aWs aMs w ms mk n)) H := hP
  have hD : va_D A ((aR, .inr (3, [.ref aS, .ref aA, .ref aL, .ref aE, .int (bI true), .int tn])) :: (aS, .inr (0, [.int (nI P), .int (nI (P - 2)), .int (nI (P - 1)), .int (nI (P * (P - 2)))])) :: (aA, .inl (cQ, n, .inr (.inr (.inr (.inr (fun z8 => some (aTs z8))))))) :: (aL, .inl (cB, P, .inl (fun z9 => bI (lo z9)))) :: (aE, .inr (2, [.ref aS, .ref aEW, .ref aEK, .int un])) :: (aEW, .inl (cI, P * P, .inl tw)) :: (aEK, .inl (cB, P * P, .inl (fun z9 => bI (kn z9)))) :: (stW cI cB aS P aTs aWs aMs w ms mk n)) := hD
  refine lv_aload_n hx hb dX3_start_14 rfl (lv_at hl 0 rfl) ?_
  refine lv_iconst (v := (-1)) hx hb dX3_start_15 (by decide) ?_
  refine va_put (D := (dC, dI)) (ci := 3) (v := .int (-1)) (ty := .int) (C := RX3) (T := TX3) (N := 6) hx hb hts inX3 tyX3 tyX3_ok nmX3 hown hK hP hD hS 0 rfl rfl 5 (by decide) (hts _ t_fX3_59) (fun _ h9 => h9) rfl (by decide +kernel) rfl rfl (Nat.le_of_ble_eq_true rfl) dX3_start_16 (fun H locs hP hD hS => ?_)
  have hP : va_P (dC, dI) vwCl ((aR, .inr (3, [.ref aS, .ref aA, .ref aL, .ref aE, .int (bI true), .int (-1)])) :: (aS, .inr (0, [.int (nI P), .int (nI (P - 2)), .int (nI (P - 1)), .int (nI (P * (P - 2)))])) :: (aA, .inl (cQ, n, .inr (.inr (.inr (.inr (fun z8 => some (aTs z8))))))) :: (aL, .inl (cB, P, .inl (fun z9 => bI (lo z9)))) :: (aE, .inr (2, [.ref aS, .ref aEW, .ref aEK, .int un])) :: (aEW, .inl (cI, P * P, .inl tw)) :: (aEK, .inl (cB, P * P, .inl (fun z9 => bI (kn z9)))) :: (stW cI cB aS P aTs aWs aMs w ms mk n)) H := hP
  have hD : va_D A ((aR, .inr (3, [.ref aS, .ref aA, .ref aL, .ref aE, .int (bI true), .int (-1)])) :: (aS, .inr (0, [.int (nI P), .int (nI (P - 2)), .int (nI (P - 1)), .int (nI (P * (P - 2)))])) :: (aA, .inl (cQ, n, .inr (.inr (.inr (.inr (fun z8 => some (aTs z8))))))) :: (aL, .inl (cB, P, .inl (fun z9 => bI (lo z9)))) :: (aE, .inr (2, [.ref aS, .ref aEW, .ref aEK, .int un])) :: (aEW, .inl (cI, P * P, .inl tw)) :: (aEK, .inl (cB, P * P, .inl (fun z9 => bI (kn z9)))) :: (stW cI cB aS P aTs aWs aMs w ms mk n)) := hD
  refine lv_iconst (v := nI 0) hx hb dX3_start_19 (by decide) ?_
  refine lv_istore_n hx hb dX3_start_20 rfl hl (by decide) rfl (fun ls hl => ?_)
  have hl : lv_has ls 4 [(1, .int (nI 0)), (0, .ref aR)] := hl
  refine lv_iconst (v := nI 0) hx hb dX3_start_21 (by decide) ?_
  refine lv_istore_n hx hb dX3_start_22 rfl hl (by decide) rfl (fun ls hl => ?_)
  have hl : lv_has ls 4 [(2, .int (nI 0)), (1, .int (nI 0)), (0, .ref aR)] := hl
  have lp23 : ∀ (n9 : Nat) (i : Nat) (ls : Array Slot) (H : Heap) (locs : List Loc), n - i < n9 → (i ≤ n) → lv_has ls 4 [(2, .int (nI i)), (1, .int (nI ((dr_sta P ms w mk i).1))), (0, .ref aR)] → va_P (dC, dI) vwCl ((aR, .inr (3, [.ref aS, .ref aA, .ref aL, .ref aE, .int (bI true), .int (-1)])) :: (aS, .inr (0, [.int (nI P), .int (nI (P - 2)), .int (nI (P - 1)), .int (nI (P * (P - 2)))])) :: (aA, .inl (cQ, n, .inr (.inr (.inr (.inr (fun z8 => some (aTs z8))))))) :: (aL, .inl (cB, P, .inl (fun z9 => bI (lo z9)))) :: (aE, .inr (2, [.ref aS, .ref aEW, .ref aEK, .int un])) :: (aEW, .inl (cI, P * P, .inl tw)) :: (aEK, .inl (cB, P * P, .inl (fun z9 => bI (kn z9)))) :: (stW cI cB aS P aTs aWs aMs ((dr_sta P ms w mk i).2.1) ms ((dr_sta P ms w mk i).2.2) n)) H → va_D A ((aR, .inr (3, [.ref aS, .ref aA, .ref aL, .ref aE, .int (bI true), .int (-1)])) :: (aS, .inr (0, [.int (nI P), .int (nI (P - 2)), .int (nI (P - 1)), .int (nI (P * (P - 2)))])) :: (aA, .inl (cQ, n, .inr (.inr (.inr (.inr (fun z8 => some (aTs z8))))))) :: (aL, .inl (cB, P, .inl (fun z9 => bI (lo z9)))) :: (aE, .inr (2, [.ref aS, .ref aEW, .ref aEK, .int un])) :: (aEW, .inl (cI, P * P, .inl tw)) :: (aEK, .inl (cB, P * P, .inl (fun z9 => bI (kn z9)))) :: (stW cI cB aS P aTs aWs aMs ((dr_sta P ms w mk i).2.1) ms ((dr_sta P ms w mk i).2.2) n)) → va_S A s.heap H locs → W p l e rm_c_start1 s m args below meth c H locs 0 0 Q (F0 m 23 ls []) := by
    intro n9
    induction n9 with
    | zero => intro i ls H locs hn9; omega
    | succ n9 ih23 =>
      intro i ls H locs hn9 hi hl hP hD hS
      refine lv_iload_n hx hb dX3_start_23 rfl (lv_at hl 0 rfl) ?_
      refine lv_aload_n hx hb dX3_start_24 rfl (lv_at hl 2 rfl) ?_
      refine va_get (D := (dC, dI)) (ci := 3) (v := .ref aA) (C := RX3) (T := TX3) (N := 6) hx hb hts inX3 hown hK hP 0 rfl rfl 1 (by decide) (hts _ t_fX3_36) (fun _ h9 => h9) rfl dX3_start_25 ?_
      refine va_alen (v := nI n) hx hb hK hP 2 2 rfl rfl rfl dX3_start_28 ?_
      refine x_cge (tgt := 71) hx hb dX3_start_29 (by decide) (by omega) (by omega) (fun h29 => ?_) (fun h29 => ?_)
      · -- 29t
        have hie29 : i = n := by omega
        try rw [hie29] at hl
        try rw [hie29] at hP
        try rw [hie29] at hD
        have hl : lv_has ls 4 [(2, .int (nI n)), (1, .int (nI ((dr_sta P ms w mk n).1))), (0, .ref aR)] := hl
        have hP : va_P (dC, dI) vwCl ((aR, .inr (3, [.ref aS, .ref aA, .ref aL, .ref aE, .int (bI true), .int (-1)])) :: (aS, .inr (0, [.int (nI P), .int (nI (P - 2)), .int (nI (P - 1)), .int (nI (P * (P - 2)))])) :: (aA, .inl (cQ, n, .inr (.inr (.inr (.inr (fun z8 => some (aTs z8))))))) :: (aL, .inl (cB, P, .inl (fun z9 => bI (lo z9)))) :: (aE, .inr (2, [.ref aS, .ref aEW, .ref aEK, .int un])) :: (aEW, .inl (cI, P * P, .inl tw)) :: (aEK, .inl (cB, P * P, .inl (fun z9 => bI (kn z9)))) :: (stW cI cB aS P aTs aWs aMs ((dr_sta P ms w mk n).2.1) ms ((dr_sta P ms w mk n).2.2) n)) H := hP
        have hD : va_D A ((aR, .inr (3, [.ref aS, .ref aA, .ref aL, .ref aE, .int (bI true), .int (-1)])) :: (aS, .inr (0, [.int (nI P), .int (nI (P - 2)), .int (nI (P - 1)), .int (nI (P * (P - 2)))])) :: (aA, .inl (cQ, n, .inr (.inr (.inr (.inr (fun z8 => some (aTs z8))))))) :: (aL, .inl (cB, P, .inl (fun z9 => bI (lo z9)))) :: (aE, .inr (2, [.ref aS, .ref aEW, .ref aEK, .int un])) :: (aEW, .inl (cI, P * P, .inl tw)) :: (aEK, .inl (cB, P * P, .inl (fun z9 => bI (kn z9)))) :: (stW cI cB aS P aTs aWs aMs ((dr_sta P ms w mk n).2.1) ms ((dr_sta P ms w mk n).2.2) n)) := hD
        refine lv_iload_n hx hb dX3_start_71 rfl (lv_at hl 1 rfl) ?_
        exact x_iret (D := (dC, dI)) (cl := vwCl) (A := A) () hQ hx hb hr hlk hP hD hS dX3_start_72 (by first | rfl | (simp [h29]; done) | (simp [h29]; omega))
      · -- 29f
        refine lv_aload_n hx hb dX3_start_32 rfl (lv_at hl 2 rfl) ?_
        refine va_get (D := (dC, dI)) (ci := 3) (v := .ref aA) (C := RX3) (T := TX3) (N := 6) hx hb hts inX3 hown hK hP 0 rfl rfl 1 (by decide) (hts _ t_fX3_36) (fun _ h9 => h9) rfl dX3_start_33 ?_
        refine lv_iload_n hx hb dX3_start_36 rfl (lv_at hl 0 rfl) ?_
        refine x_aald (q := aTs i) hx hb hK hP 2 2 rfl rfl dX3_start_37 (by omega) (by omega) rfl ?_
        have hP := foc_P (pre := [(aR, .inr (3, [.ref aS, .ref aA, .ref aL, .ref aE, .int (bI true), .int (-1)])), (aS, .inr (0, [.int (nI P), .int (nI (P - 2)), .int (nI (P - 1)), .int (nI (P * (P - 2)))])), (aA, .inl (cQ, n, .inr (.inr (.inr (.inr (fun z8 => some (aTs z8))))))), (aL, .inl (cB, P, .inl (fun z9 => bI (lo z9)))), (aE, .inr (2, [.ref aS, .ref aEW, .ref aEK, .int un])), (aEW, .inl (cI, P * P, .inl tw)), (aEK, .inl (cB, P * P, .inl (fun z9 => bI (kn z9))))]) (s := i) hP (by omega)
        have hD := foc_D (pre := [(aR, .inr (3, [.ref aS, .ref aA, .ref aL, .ref aE, .int (bI true), .int (-1)])), (aS, .inr (0, [.int (nI P), .int (nI (P - 2)), .int (nI (P - 1)), .int (nI (P * (P - 2)))])), (aA, .inl (cQ, n, .inr (.inr (.inr (.inr (fun z8 => some (aTs z8))))))), (aL, .inl (cB, P, .inl (fun z9 => bI (lo z9)))), (aE, .inr (2, [.ref aS, .ref aEW, .ref aEK, .int un])), (aEW, .inl (cI, P * P, .inl tw)), (aEK, .inl (cB, P * P, .inl (fun z9 => bI (kn z9))))]) (s := i) hD (by omega)
        have hP : va_P (dC, dI) vwCl ((aR, .inr (3, [.ref aS, .ref aA, .ref aL, .ref aE, .int (bI true), .int (-1)])) :: (aS, .inr (0, [.int (nI P), .int (nI (P - 2)), .int (nI (P - 1)), .int (nI (P * (P - 2)))])) :: (aA, .inl (cQ, n, .inr (.inr (.inr (.inr (fun z8 => some (aTs z8))))))) :: (aL, .inl (cB, P, .inl (fun z9 => bI (lo z9)))) :: (aE, .inr (2, [.ref aS, .ref aEW, .ref aEK, .int un])) :: (aEW, .inl (cI, P * P, .inl tw)) :: (aEK, .inl (cB, P * P, .inl (fun z9 => bI (kn z9)))) :: (aTs i, .inr (1, [.ref aS, .ref (aWs i), .ref (aMs i), .int (bI (((dr_sta P ms w mk i).2.2) i))])) :: (aWs i, .inl (cI, P * P, .inl (((dr_sta P ms w mk i).2.1) i))) :: (aMs i, .inl (cB, P, .inl (fun z9 => bI ((ms i) z9)))) :: (stO cI cB aS P aTs aWs aMs ((dr_sta P ms w mk i).2.1) ms ((dr_sta P ms w mk i).2.2) n i)) H := hP
        have hD : va_D A ((aR, .inr (3, [.ref aS, .ref aA, .ref aL, .ref aE, .int (bI true), .int (-1)])) :: (aS, .inr (0, [.int (nI P), .int (nI (P - 2)), .int (nI (P - 1)), .int (nI (P * (P - 2)))])) :: (aA, .inl (cQ, n, .inr (.inr (.inr (.inr (fun z8 => some (aTs z8))))))) :: (aL, .inl (cB, P, .inl (fun z9 => bI (lo z9)))) :: (aE, .inr (2, [.ref aS, .ref aEW, .ref aEK, .int un])) :: (aEW, .inl (cI, P * P, .inl tw)) :: (aEK, .inl (cB, P * P, .inl (fun z9 => bI (kn z9)))) :: (aTs i, .inr (1, [.ref aS, .ref (aWs i), .ref (aMs i), .int (bI (((dr_sta P ms w mk i).2.2) i))])) :: (aWs i, .inl (cI, P * P, .inl (((dr_sta P ms w mk i).2.1) i))) :: (aMs i, .inl (cB, P, .inl (fun z9 => bI ((ms i) z9)))) :: (stO cI cB aS P aTs aWs aMs ((dr_sta P ms w mk i).2.1) ms ((dr_sta P ms w mk i).2.2) n i)) := hD
        refine lv_astore_n hx hb dX3_start_38 rfl hl (by decide) rfl (fun ls hl => ?_)
        have hl : lv_has ls 4 [(3, .ref (aTs i)), (2, .int (nI i)), (1, .int (nI ((dr_sta P ms w mk i).1))), (0, .ref aR)] := hl
        refine lv_aload_n hx hb dX3_start_39 rfl (lv_at hl 0 rfl) ?_
        refine va_get (D := (dC, dI)) (ci := 1) (v := .int (bI (((dr_sta P ms w mk i).2.2) i))) (C := RX1) (T := TX1) (N := 4) hx hb hts inX1 hown hK hP 7 rfl rfl 3 (by decide) (hts _ t_fX3_93) (fun _ h9 => h9) rfl dX3_start_40 ?_
        refine x_ifF (tgt := 65) hx hb dX3_start_43 (by decide) (fun h43 => ?_) (fun h43 => ?_)
        · -- 43t
          have hP := unf0_P (pre := [(aR, .inr (3, [.ref aS, .ref aA, .ref aL, .ref aE, .int (bI true), .int (-1)])), (aS, .inr (0, [.int (nI P), .int (nI (P - 2)), .int (nI (P - 1)), .int (nI (P * (P - 2)))])), (aA, .inl (cQ, n, .inr (.inr (.inr (.inr (fun z8 => some (aTs z8))))))), (aL, .inl (cB, P, .inl (fun z9 => bI (lo z9)))), (aE, .inr (2, [.ref aS, .ref aEW, .ref aEK, .int un])), (aEW, .inl (cI, P * P, .inl tw)), (aEK, .inl (cB, P * P, .inl (fun z9 => bI (kn z9))))]) (s := i) hP (by omega)
          have hD := unf0_D (pre := [(aR, .inr (3, [.ref aS, .ref aA, .ref aL, .ref aE, .int (bI true), .int (-1)])), (aS, .inr (0, [.int (nI P), .int (nI (P - 2)), .int (nI (P - 1)), .int (nI (P * (P - 2)))])), (aA, .inl (cQ, n, .inr (.inr (.inr (.inr (fun z8 => some (aTs z8))))))), (aL, .inl (cB, P, .inl (fun z9 => bI (lo z9)))), (aE, .inr (2, [.ref aS, .ref aEW, .ref aEK, .int un])), (aEW, .inl (cI, P * P, .inl tw)), (aEK, .inl (cB, P * P, .inl (fun z9 => bI (kn z9))))]) (s := i) hD (by omega)
          have hP : va_P (dC, dI) vwCl ((aR, .inr (3, [.ref aS, .ref aA, .ref aL, .ref aE, .int (bI true), .int (-1)])) :: (aS, .inr (0, [.int (nI P), .int (nI (P - 2)), .int (nI (P - 1)), .int (nI (P * (P - 2)))])) :: (aA, .inl (cQ, n, .inr (.inr (.inr (.inr (fun z8 => some (aTs z8))))))) :: (aL, .inl (cB, P, .inl (fun z9 => bI (lo z9)))) :: (aE, .inr (2, [.ref aS, .ref aEW, .ref aEK, .int un])) :: (aEW, .inl (cI, P * P, .inl tw)) :: (aEK, .inl (cB, P * P, .inl (fun z9 => bI (kn z9)))) :: (stW cI cB aS P aTs aWs aMs ((dr_sta P ms w mk i).2.1) ms ((dr_sta P ms w mk i).2.2) n)) H := hP
          have hD : va_D A ((aR, .inr (3, [.ref aS, .ref aA, .ref aL, .ref aE, .int (bI true), .int (-1)])) :: (aS, .inr (0, [.int (nI P), .int (nI (P - 2)), .int (nI (P - 1)), .int (nI (P * (P - 2)))])) :: (aA, .inl (cQ, n, .inr (.inr (.inr (.inr (fun z8 => some (aTs z8))))))) :: (aL, .inl (cB, P, .inl (fun z9 => bI (lo z9)))) :: (aE, .inr (2, [.ref aS, .ref aEW, .ref aEK, .int un])) :: (aEW, .inl (cI, P * P, .inl tw)) :: (aEK, .inl (cB, P * P, .inl (fun z9 => bI (kn z9)))) :: (stW cI cB aS P aTs aWs aMs ((dr_sta P ms w mk i).2.1) ms ((dr_sta P ms w mk i).2.2) n)) := hD
          refine lv_iinc (v := nI (i + 1)) hx hb dX3_start_65 hl (k := 1) rfl (x_inc _) (by decide) rfl (fun ls hl => ?_)
          have hl : lv_has ls 4 [(2, .int (nI (i + 1))), (3, .ref (aTs i)), (1, .int (nI ((dr_sta P ms w mk i).1))), (0, .ref aR)] := hl
          refine lv_goto (tgt := 23) hx hb dX3_start_68 (by decide) ?_
          have e1 : ((dr_sta P ms w mk (i + 1)).1) = ((dr_sta P ms w mk i).1) := by first | rfl | (rw [dr_sta_a h43]; done) | (rw [dr_sta_b h50]; done) | (rw [dr_sta_c h43 h50]; done)
          have e2 : (stW cI cB aS P aTs aWs aMs ((dr_sta P ms w mk (i + 1)).2.1) ms ((dr_sta P ms w mk (i + 1)).2.2) n) = (stW cI cB aS P aTs aWs aMs ((dr_sta P ms w mk i).2.1) ms ((dr_sta P ms w mk i).2.2) n) := by first | rfl | (rw [dr_sta_a h43]; done) | (rw [dr_sta_b h50]; done) | (rw [dr_sta_c h43 h50]; done)
          exact ih23 (i + 1) ls H locs (by omega) (by omega) (by rw [e1]; exact lv_sub hl [0, 2, 3] rfl) (by rw [e2]; exact hP) (by rw [e2]; exact hD) hS
        · -- 43f
          refine lv_aload_n hx hb dX3_start_46 rfl (lv_at hl 0 rfl) ?_
          refine gV (wr := [(aR, .inr (3, [.ref aS, .ref aA, .ref aL, .ref aE, .int (bI true), .int (-1)])), (aA, .inl (cQ, n, .inr (.inr (.inr (.inr (fun z8 => some (aTs z8))))))), (aL, .inl (cB, P, .inl (fun z9 => bI (lo z9)))), (aE, .inr (2, [.ref aS, .ref aEW, .ref aEK, .int un])), (aEW, .inl (cI, P * P, .inl tw)), (aEK, .inl (cB, P * P, .inl (fun z9 => bI (kn z9))))]) (pre := [(aR, .inr (3, [.ref aS, .ref aA, .ref aL, .ref aE, .int (bI true), .int (-1)])), (aS, .inr (0, [.int (nI P), .int (nI (P - 2)), .int (nI (P - 1)), .int (nI (P * (P - 2)))])), (aA, .inl (cQ, n, .inr (.inr (.inr (.inr (fun z8 => some (aTs z8))))))), (aL, .inl (cB, P, .inl (fun z9 => bI (lo z9)))), (aE, .inr (2, [.ref aS, .ref aEW, .ref aEK, .int un])), (aEW, .inl (cI, P * P, .inl tw)), (aEK, .inl (cB, P * P, .inl (fun z9 => bI (kn z9)))), (aTs i, .inr (1, [.ref aS, .ref (aWs i), .ref (aMs i), .int (bI (((dr_sta P ms w mk i).2.2) i))])), (aWs i, .inl (cI, P * P, .inl (((dr_sta P ms w mk i).2.1) i))), (aMs i, .inl (cB, P, .inl (fun z9 => bI ((ms i) z9))))]) (tl := (stO cI cB aS P aTs aWs aMs ((dr_sta P ms w mk i).2.1) ms ((dr_sta P ms w mk i).2.2) n i)) (G := fun (u : Unit) => [(aR, .inr (3, [.ref aS, .ref aA, .ref aL, .ref aE, .int (bI true), .int (-1)])), (aS, .inr (0, [.int (nI P), .int (nI (P - 2)), .int (nI (P - 1)), .int (nI (P * (P - 2)))])), (aA, .inl (cQ, n, .inr (.inr (.inr (.inr (fun z8 => some (aTs z8))))))), (aL, .inl (cB, P, .inl (fun z9 => bI (lo z9)))), (aE, .inr (2, [.ref aS, .ref aEW, .ref aEK, .int un])), (aEW, .inl (cI, P * P, .inl tw)), (aEK, .inl (cB, P * P, .inl (fun z9 => bI (kn z9)))), (aTs i, .inr (1, [.ref aS, .ref (aWs i), .ref (aMs i), .int (bI (((dr_sta P ms w mk i).2.2) i))])), (aWs i, .inl (cI, P * P, .inl (((dr_sta P ms w mk i).2.1) i))), (aMs i, .inl (cB, P, .inl (fun z9 => bI ((ms i) z9))))]) (b := aTs i) (As := []) (rst := []) ⟨hx, hb, hml, hown, hts⟩ (c_unsure l dC dI cI cB cQ cJ (aTs i) aS (aWs i) (aMs i) P (((dr_sta P ms w mk i).2.1) i) (ms i) (((dr_sta P ms w mk i).2.2) i) hp5) (cwV 0 hts (gdV t_mX3_76 t_inst_X1_isUnsure t_sel_X1_isUnsure t_ini_X1 t_code_X1_isUnsure) rfl rfl rfl (by decide +kernel) ⟨Nat.le_of_ble_eq_true rfl, Nat.le_of_ble_eq_true rfl⟩) hK hP hD hS hA [7, 8, 9, 1] [0, 2, 3, 4, 5, 6] [4, 3, 5, 6, 7, 8, 9, 0, 1, 2] rfl (by decide) (fun _ => rfl) (by decide) (ci := 1) rfl rfl rfl rfl hl.1 rfl (Nat.le_of_ble_eq_true rfl) dX3_start_47 ⟨Nat.zero_le _, Nat.zero_le _⟩ (fun r u H locs hu3 hP hD hS => ?_)
          have hr47 := hu3
          have hr47 : r = bI ((((dr_sta P ms w mk i).2.2) i) && decide (0 < dr_cnt (ms i) P)) := hr47
          subst hr47
          have hP : va_P (dC, dI) vwCl ((aR, .inr (3, [.ref aS, .ref aA, .ref aL, .ref aE, .int (bI true), .int (-1)])) :: (aS, .inr (0, [.int (nI P), .int (nI (P - 2)), .int (nI (P - 1)), .int (nI (P * (P - 2)))])) :: (aA, .inl (cQ, n, .inr (.inr (.inr (.inr (fun z8 => some (aTs z8))))))) :: (aL, .inl (cB, P, .inl (fun z9 => bI (lo z9)))) :: (aE, .inr (2, [.ref aS, .ref aEW, .ref aEK, .int un])) :: (aEW, .inl (cI, P * P, .inl tw)) :: (aEK, .inl (cB, P * P, .inl (fun z9 => bI (kn z9)))) :: (aTs i, .inr (1, [.ref aS, .ref (aWs i), .ref (aMs i), .int (bI (((dr_sta P ms w mk i).2.2) i))])) :: (aWs i, .inl (cI, P * P, .inl (((dr_sta P ms w mk i).2.1) i))) :: (aMs i, .inl (cB, P, .inl (fun z9 => bI ((ms i) z9)))) :: (stO cI cB aS P aTs aWs aMs ((dr_sta P ms w mk i).2.1) ms ((dr_sta P ms w mk i).2.2) n i)) H := hP
          have hD : va_D A ((aR, .inr (3, [.ref aS, .ref aA, .ref aL, .ref aE, .int (bI true), .int (-1)])) :: (aS, .inr (0, [.int (nI P), .int (nI (P - 2)), .int (nI (P - 1)), .int (nI (P * (P - 2)))])) :: (aA, .inl (cQ, n, .inr (.inr (.inr (.inr (fun z8 => some (aTs z8))))))) :: (aL, .inl (cB, P, .inl (fun z9 => bI (lo z9)))) :: (aE, .inr (2, [.ref aS, .ref aEW, .ref aEK, .int un])) :: (aEW, .inl (cI, P * P, .inl tw)) :: (aEK, .inl (cB, P * P, .inl (fun z9 => bI (kn z9)))) :: (aTs i, .inr (1, [.ref aS, .ref (aWs i), .ref (aMs i), .int (bI (((dr_sta P ms w mk i).2.2) i))])) :: (aWs i, .inl (cI, P * P, .inl (((dr_sta P ms w mk i).2.1) i))) :: (aMs i, .inl (cB, P, .inl (fun z9 => bI ((ms i) z9)))) :: (stO cI cB aS P aTs aWs aMs ((dr_sta P ms w mk i).2.1) ms ((dr_sta P ms w mk i).2.2) n i)) := hD
          refine x_ifT (tgt := 65) hx hb dX3_start_50 (by decide) (fun h50 => ?_) (fun h50 => ?_)
          · -- 50t
            have hP := unf0_P (pre := [(aR, .inr (3, [.ref aS, .ref aA, .ref aL, .ref aE, .int (bI true), .int (-1)])), (aS, .inr (0, [.int (nI P), .int (nI (P - 2)), .int (nI (P - 1)), .int (nI (P * (P - 2)))])), (aA, .inl (cQ, n, .inr (.inr (.inr (.inr (fun z8 => some (aTs z8))))))), (aL, .inl (cB, P, .inl (fun z9 => bI (lo z9)))), (aE, .inr (2, [.ref aS, .ref aEW, .ref aEK, .int un])), (aEW, .inl (cI, P * P, .inl tw)), (aEK, .inl (cB, P * P, .inl (fun z9 => bI (kn z9))))]) (s := i) hP (by omega)
            have hD := unf0_D (pre := [(aR, .inr (3, [.ref aS, .ref aA, .ref aL, .ref aE, .int (bI true), .int (-1)])), (aS, .inr (0, [.int (nI P), .int (nI (P - 2)), .int (nI (P - 1)), .int (nI (P * (P - 2)))])), (aA, .inl (cQ, n, .inr (.inr (.inr (.inr (fun z8 => some (aTs z8))))))), (aL, .inl (cB, P, .inl (fun z9 => bI (lo z9)))), (aE, .inr (2, [.ref aS, .ref aEW, .ref aEK, .int un])), (aEW, .inl (cI, P * P, .inl tw)), (aEK, .inl (cB, P * P, .inl (fun z9 => bI (kn z9))))]) (s := i) hD (by omega)
            have hP : va_P (dC, dI) vwCl ((aR, .inr (3, [.ref aS, .ref aA, .ref aL, .ref aE, .int (bI true), .int (-1)])) :: (aS, .inr (0, [.int (nI P), .int (nI (P - 2)), .int (nI (P - 1)), .int (nI (P * (P - 2)))])) :: (aA, .inl (cQ, n, .inr (.inr (.inr (.inr (fun z8 => some (aTs z8))))))) :: (aL, .inl (cB, P, .inl (fun z9 => bI (lo z9)))) :: (aE, .inr (2, [.ref aS, .ref aEW, .ref aEK, .int un])) :: (aEW, .inl (cI, P * P, .inl tw)) :: (aEK, .inl (cB, P * P, .inl (fun z9 => bI (kn z9)))) :: (stW cI cB aS P aTs aWs aMs ((dr_sta P ms w mk i).2.1) ms ((dr_sta P ms w mk i).2.2) n)) H := hP
            have hD : va_D A ((aR, .inr (3, [.ref aS, .ref aA, .ref aL, .ref aE, .int (bI true), .int (-1)])) :: (aS, .inr (0, [.int (nI P), .int (nI (P - 2)), .int (nI (P - 1)), .int (nI (P * (P - 2)))])) :: (aA, .inl (cQ, n, .inr (.inr (.inr (.inr (fun z8 => some (aTs z8))))))) :: (aL, .inl (cB, P, .inl (fun z9 => bI (lo z9)))) :: (aE, .inr (2, [.ref aS, .ref aEW, .ref aEK, .int un])) :: (aEW, .inl (cI, P * P, .inl tw)) :: (aEK, .inl (cB, P * P, .inl (fun z9 => bI (kn z9)))) :: (stW cI cB aS P aTs aWs aMs ((dr_sta P ms w mk i).2.1) ms ((dr_sta P ms w mk i).2.2) n)) := hD
            refine lv_iinc (v := nI (i + 1)) hx hb dX3_start_65 hl (k := 1) rfl (x_inc _) (by decide) rfl (fun ls hl => ?_)
            have hl : lv_has ls 4 [(2, .int (nI (i + 1))), (3, .ref (aTs i)), (1, .int (nI ((dr_sta P ms w mk i).1))), (0, .ref aR)] := hl
            refine lv_goto (tgt := 23) hx hb dX3_start_68 (by decide) ?_
            have e4 : ((dr_sta P ms w mk (i + 1)).1) = ((dr_sta P ms w mk i).1) := by first | rfl | (rw [dr_sta_a h43]; done) | (rw [dr_sta_b h50]; done) | (rw [dr_sta_c h43 h50]; done)
            have e5 : (stW cI cB aS P aTs aWs aMs ((dr_sta P ms w mk (i + 1)).2.1) ms ((dr_sta P ms w mk (i + 1)).2.2) n) = (stW cI cB aS P aTs aWs aMs ((dr_sta P ms w mk i).2.1) ms ((dr_sta P ms w mk i).2.2) n) := by first | rfl | (rw [dr_sta_a h43]; done) | (rw [dr_sta_b h50]; done) | (rw [dr_sta_c h43 h50]; done)
            exact ih23 (i + 1) ls H locs (by omega) (by omega) (by rw [e4]; exact lv_sub hl [0, 2, 3] rfl) (by rw [e5]; exact hP) (by rw [e5]; exact hD) hS
          · -- 50f
            refine lv_aload_n hx hb dX3_start_53 rfl (lv_at hl 0 rfl) ?_
            refine gVv (wr := [(aR, .inr (3, [.ref aS, .ref aA, .ref aL, .ref aE, .int (bI true), .int (-1)])), (aA, .inl (cQ, n, .inr (.inr (.inr (.inr (fun z8 => some (aTs z8))))))), (aL, .inl (cB, P, .inl (fun z9 => bI (lo z9)))), (aE, .inr (2, [.ref aS, .ref aEW, .ref aEK, .int un])), (aEW, .inl (cI, P * P, .inl tw)), (aEK, .inl (cB, P * P, .inl (fun z9 => bI (kn z9))))]) (pre := [(aR, .inr (3, [.ref aS, .ref aA, .ref aL, .ref aE, .int (bI true), .int (-1)])), (aS, .inr (0, [.int (nI P), .int (nI (P - 2)), .int (nI (P - 1)), .int (nI (P * (P - 2)))])), (aA, .inl (cQ, n, .inr (.inr (.inr (.inr (fun z8 => some (aTs z8))))))), (aL, .inl (cB, P, .inl (fun z9 => bI (lo z9)))), (aE, .inr (2, [.ref aS, .ref aEW, .ref aEK, .int un])), (aEW, .inl (cI, P * P, .inl tw)), (aEK, .inl (cB, P * P, .inl (fun z9 => bI (kn z9)))), (aTs i, .inr (1, [.ref aS, .ref (aWs i), .ref (aMs i), .int (bI (((dr_sta P ms w mk i).2.2) i))])), (aWs i, .inl (cI, P * P, .inl (((dr_sta P ms w mk i).2.1) i))), (aMs i, .inl (cB, P, .inl (fun z9 => bI ((ms i) z9))))]) (tl := (stO cI cB aS P aTs aWs aMs ((dr_sta P ms w mk i).2.1) ms ((dr_sta P ms w mk i).2.2) n i)) (G := fun (u : Unit) => [(aR, .inr (3, [.ref aS, .ref aA, .ref aL, .ref aE, .int (bI true), .int (-1)])), (aS, .inr (0, [.int (nI P), .int (nI (P - 2)), .int (nI (P - 1)), .int (nI (P * (P - 2)))])), (aA, .inl (cQ, n, .inr (.inr (.inr (.inr (fun z8 => some (aTs z8))))))), (aL, .inl (cB, P, .inl (fun z9 => bI (lo z9)))), (aE, .inr (2, [.ref aS, .ref aEW, .ref aEK, .int un])), (aEW, .inl (cI, P * P, .inl tw)), (aEK, .inl (cB, P * P, .inl (fun z9 => bI (kn z9)))), (aTs i, .inr (1, [.ref aS, .ref (aWs i), .ref (aMs i), .int (bI (((dr_sta P ms w mk i).2.2) i))])), (aWs i, .inl (cI, P * P, .inl (dr_rn P (((dr_sta P ms w mk i).2.1) i) P))), (aMs i, .inl (cB, P, .inl (fun z9 => bI ((ms i) z9))))]) (b := aTs i) (As := []) (rst := []) ⟨hx, hb, hml, hown, hts⟩ (c_renew l dC dI cI cB cQ cJ (aTs i) aS (aWs i) (aMs i) P (((dr_sta P ms w mk i).2.1) i) (ms i) (((dr_sta P ms w mk i).2.2) i) hp5) (cwV 0 hts (gdV t_mX3_143 t_inst_X1_renewParities t_sel_X1_renewParities t_ini_X1 t_code_X1_renewParities) rfl rfl rfl (by decide +kernel) ⟨Nat.le_of_ble_eq_true rfl, Nat.le_of_ble_eq_true rfl⟩) hK hP hD hS hA [7, 8, 9, 1] [0, 2, 3, 4, 5, 6] [4, 3, 5, 6, 7, 8, 9, 0, 1, 2] rfl (by decide) (fun _ => rfl) (by decide) (ci := 1) rfl rfl rfl rfl hl.1 rfl (Nat.le_of_ble_eq_true rfl) dX3_start_54 ⟨Nat.zero_le _, Nat.zero_le _⟩ (fun u H locs hu6 hP hD hS => ?_)
            have hP : va_P (dC, dI) vwCl ((aR, .inr (3, [.ref aS, .ref aA, .ref aL, .ref aE, .int (bI true), .int (-1)])) :: (aS, .inr (0, [.int (nI P), .int (nI (P - 2)), .int (nI (P - 1)), .int (nI (P * (P - 2)))])) :: (aA, .inl (cQ, n, .inr (.inr (.inr (.inr (fun z8 => some (aTs z8))))))) :: (aL, .inl (cB, P, .inl (fun z9 => bI (lo z9)))) :: (aE, .inr (2, [.ref aS, .ref aEW, .ref aEK, .int un])) :: (aEW, .inl (cI, P * P, .inl tw)) :: (aEK, .inl (cB, P * P, .inl (fun z9 => bI (kn z9)))) :: (aTs i, .inr (1, [.ref aS, .ref (aWs i), .ref (aMs i), .int (bI (((dr_sta P ms w mk i).2.2) i))])) :: (aWs i, .inl (cI, P * P, .inl (dr_rn P (((dr_sta P ms w mk i).2.1) i) P))) :: (aMs i, .inl (cB, P, .inl (fun z9 => bI ((ms i) z9)))) :: (stO cI cB aS P aTs aWs aMs ((dr_sta P ms w mk i).2.1) ms ((dr_sta P ms w mk i).2.2) n i)) H := hP
            have hD : va_D A ((aR, .inr (3, [.ref aS, .ref aA, .ref aL, .ref aE, .int (bI true), .int (-1)])) :: (aS, .inr (0, [.int (nI P), .int (nI (P - 2)), .int (nI (P - 1)), .int (nI (P * (P - 2)))])) :: (aA, .inl (cQ, n, .inr (.inr (.inr (.inr (fun z8 => some (aTs z8))))))) :: (aL, .inl (cB, P, .inl (fun z9 => bI (lo z9)))) :: (aE, .inr (2, [.ref aS, .ref aEW, .ref aEK, .int un])) :: (aEW, .inl (cI, P * P, .inl tw)) :: (aEK, .inl (cB, P * P, .inl (fun z9 => bI (kn z9)))) :: (aTs i, .inr (1, [.ref aS, .ref (aWs i), .ref (aMs i), .int (bI (((dr_sta P ms w mk i).2.2) i))])) :: (aWs i, .inl (cI, P * P, .inl (dr_rn P (((dr_sta P ms w mk i).2.1) i) P))) :: (aMs i, .inl (cB, P, .inl (fun z9 => bI ((ms i) z9)))) :: (stO cI cB aS P aTs aWs aMs ((dr_sta P ms w mk i).2.1) ms ((dr_sta P ms w mk i).2.2) n i)) := hD
            refine lv_aload_n hx hb dX3_start_57 rfl (lv_at hl 0 rfl) ?_
            refine lv_iconst (v := bI false) hx hb dX3_start_58 (by decide) ?_
            refine va_put (D := (dC, dI)) (ci := 1) (v := .int (bI false)) (ty := .boolean) (C := RX1) (T := TX1) (N := 4) hx hb hts inX1 tyX1 tyX1_ok nmX1 hown hK hP hD hS 7 rfl rfl 3 (by decide) (hts _ t_fX3_93) (fun _ h9 => h9) rfl (by decide +kernel) (bI_narrow _) (bI_fits _) (Nat.le_of_ble_eq_true rfl) dX3_start_59 (fun H locs hP hD hS => ?_)
            have hP : va_P (dC, dI) vwCl ((aR, .inr (3, [.ref aS, .ref aA, .ref aL, .ref aE, .int (bI true), .int (-1)])) :: (aS, .inr (0, [.int (nI P), .int (nI (P - 2)), .int (nI (P - 1)), .int (nI (P * (P - 2)))])) :: (aA, .inl (cQ, n, .inr (.inr (.inr (.inr (fun z8 => some (aTs z8))))))) :: (aL, .inl (cB, P, .inl (fun z9 => bI (lo z9)))) :: (aE, .inr (2, [.ref aS, .ref aEW, .ref aEK, .int un])) :: (aEW, .inl (cI, P * P, .inl tw)) :: (aEK, .inl (cB, P * P, .inl (fun z9 => bI (kn z9)))) :: (aTs i, .inr (1, [.ref aS, .ref (aWs i), .ref (aMs i), .int (bI false)])) :: (aWs i, .inl (cI, P * P, .inl (dr_rn P (((dr_sta P ms w mk i).2.1) i) P))) :: (aMs i, .inl (cB, P, .inl (fun z9 => bI ((ms i) z9)))) :: (stO cI cB aS P aTs aWs aMs ((dr_sta P ms w mk i).2.1) ms ((dr_sta P ms w mk i).2.2) n i)) H := hP
            have hD : va_D A ((aR, .inr (3, [.ref aS, .ref aA, .ref aL, .ref aE, .int (bI true), .int (-1)])) :: (aS, .inr (0, [.int (nI P), .int (nI (P - 2)), .int (nI (P - 1)), .int (nI (P * (P - 2)))])) :: (aA, .inl (cQ, n, .inr (.inr (.inr (.inr (fun z8 => some (aTs z8))))))) :: (aL, .inl (cB, P, .inl (fun z9 => bI (lo z9)))) :: (aE, .inr (2, [.ref aS, .ref aEW, .ref aEK, .int un])) :: (aEW, .inl (cI, P * P, .inl tw)) :: (aEK, .inl (cB, P * P, .inl (fun z9 => bI (kn z9)))) :: (aTs i, .inr (1, [.ref aS, .ref (aWs i), .ref (aMs i), .int (bI false)])) :: (aWs i, .inl (cI, P * P, .inl (dr_rn P (((dr_sta P ms w mk i).2.1) i) P))) :: (aMs i, .inl (cB, P, .inl (fun z9 => bI ((ms i) z9)))) :: (stO cI cB aS P aTs aWs aMs ((dr_sta P ms w mk i).2.1) ms ((dr_sta P ms w mk i).2.2) n i)) := hD
            refine lv_iinc (v := nI ((dr_sta P ms w mk i).1 + 1)) hx hb dX3_start_62 hl (k := 2) rfl (x_inc _) (by decide) rfl (fun ls hl => ?_)
            have hl : lv_has ls 4 [(1, .int (nI ((dr_sta P ms w mk i).1 + 1))), (3, .ref (aTs i)), (2, .int (nI i)), (0, .ref aR)] := hl
            have hP := unf_P (pre := [(aR, .inr (3, [.ref aS, .ref aA, .ref aL, .ref aE, .int (bI true), .int (-1)])), (aS, .inr (0, [.int (nI P), .int (nI (P - 2)), .int (nI (P - 1)), .int (nI (P * (P - 2)))])), (aA, .inl (cQ, n, .inr (.inr (.inr (.inr (fun z8 => some (aTs z8))))))), (aL, .inl (cB, P, .inl (fun z9 => bI (lo z9)))), (aE, .inr (2, [.ref aS, .ref aEW, .ref aEK, .int un])), (aEW, .inl (cI, P * P, .inl tw)), (aEK, .inl (cB, P * P, .inl (fun z9 => bI (kn z9))))]) (s := i) (wn := dr_rn P (((dr_sta P ms w mk i).2.1) i) P) (mn := ms i) (kn := false) hP (by omega)
            have hD := unf_D (pre := [(aR, .inr (3, [.ref aS, .ref aA, .ref aL, .ref aE, .int (bI true), .int (-1)])), (aS, .inr (0, [.int (nI P), .int (nI (P - 2)), .int (nI (P - 1)), .int (nI (P * (P - 2)))])), (aA, .inl (cQ, n, .inr (.inr (.inr (.inr (fun z8 => some (aTs z8))))))), (aL, .inl (cB, P, .inl (fun z9 => bI (lo z9)))), (aE, .inr (2, [.ref aS, .ref aEW, .ref aEK, .int un])), (aEW, .inl (cI, P * P, .inl tw)), (aEK, .inl (cB, P * P, .inl (fun z9 => bI (kn z9))))]) (s := i) (wn := dr_rn P (((dr_sta P ms w mk i).2.1) i) P) (mn := ms i) (kn := false) hD (by omega)
            rw [va_up_id ms i] at hP hD
            have hP : va_P (dC, dI) vwCl ((aR, .inr (3, [.ref aS, .ref aA, .ref aL, .ref aE, .int (bI true), .int (-1)])) :: (aS, .inr (0, [.int (nI P), .int (nI (P - 2)), .int (nI (P - 1)), .int (nI (P * (P - 2)))])) :: (aA, .inl (cQ, n, .inr (.inr (.inr (.inr (fun z8 => some (aTs z8))))))) :: (aL, .inl (cB, P, .inl (fun z9 => bI (lo z9)))) :: (aE, .inr (2, [.ref aS, .ref aEW, .ref aEK, .int un])) :: (aEW, .inl (cI, P * P, .inl tw)) :: (aEK, .inl (cB, P * P, .inl (fun z9 => bI (kn z9)))) :: (stW cI cB aS P aTs aWs aMs (va_up ((dr_sta P ms w mk i).2.1) i (dr_rn P (((dr_sta P ms w mk i).2.1) i) P)) ms (va_up ((dr_sta P ms w mk i).2.2) i false) n)) H := hP
            have hD : va_D A ((aR, .inr (3, [.ref aS, .ref aA, .ref aL, .ref aE, .int (bI true), .int (-1)])) :: (aS, .inr (0, [.int (nI P), .int (nI (P - 2)), .int (nI (P - 1)), .int (nI (P * (P - 2)))])) :: (aA, .inl (cQ, n, .inr (.inr (.inr (.inr (fun z8 => some (aTs z8))))))) :: (aL, .inl (cB, P, .inl (fun z9 => bI (lo z9)))) :: (aE, .inr (2, [.ref aS, .ref aEW, .ref aEK, .int un])) :: (aEW, .inl (cI, P * P, .inl tw)) :: (aEK, .inl (cB, P * P, .inl (fun z9 => bI (kn z9)))) :: (stW cI cB aS P aTs aWs aMs (va_up ((dr_sta P ms w mk i).2.1) i (dr_rn P (((dr_sta P ms w mk i).2.1) i) P)) ms (va_up ((dr_sta P ms w mk i).2.2) i false) n)) := hD
            refine lv_iinc (v := nI (i + 1)) hx hb dX3_start_65 hl (k := 2) rfl (x_inc _) (by decide) rfl (fun ls hl => ?_)
            have hl : lv_has ls 4 [(2, .int (nI (i + 1))), (1, .int (nI ((dr_sta P ms w mk i).1 + 1))), (3, .ref (aTs i)), (0, .ref aR)] := hl
            refine lv_goto (tgt := 23) hx hb dX3_start_68 (by decide) ?_
            have e7 : ((dr_sta P ms w mk (i + 1)).1) = ((dr_sta P ms w mk i).1 + 1) := by first | rfl | (rw [dr_sta_a h43]; done) | (rw [dr_sta_b h50]; done) | (rw [dr_sta_c h43 h50]; done)
            have e8 : (stW cI cB aS P aTs aWs aMs ((dr_sta P ms w mk (i + 1)).2.1) ms ((dr_sta P ms w mk (i + 1)).2.2) n) = (stW cI cB aS P aTs aWs aMs (va_up ((dr_sta P ms w mk i).2.1) i (dr_rn P (((dr_sta P ms w mk i).2.1) i) P)) ms (va_up ((dr_sta P ms w mk i).2.2) i false) n) := by first | rfl | (rw [dr_sta_a h43]; done) | (rw [dr_sta_b h50]; done) | (rw [dr_sta_c h43 h50]; done)
            exact ih23 (i + 1) ls H locs (by omega) (by omega) (by rw [e7]; exact lv_sub hl [0, 1, 3] rfl) (by rw [e8]; exact hP) (by rw [e8]; exact hD) hS
  have e9 : ((dr_sta P ms w mk 0).1) = 0 := by first | rfl | (rw [dr_sta_a h43]; done) | (rw [dr_sta_b h50]; done) | (rw [dr_sta_c h43 h50]; done)
  have e10 : (stW cI cB aS P aTs aWs aMs ((dr_sta P ms w mk 0).2.1) ms ((dr_sta P ms w mk 0).2.2) n) = (stW cI cB aS P aTs aWs aMs w ms mk n) := by first | rfl | (rw [dr_sta_a h43]; done) | (rw [dr_sta_b h50]; done) | (rw [dr_sta_c h43 h50]; done)
  exact lp23 (n - 0 + 1) 0 ls H locs (by omega) (by omega) (by rw [e9]; exact lv_sub hl [0, 1, 2] rfl) (by rw [e10]; exact hP) (by rw [e10]; exact hD) hS
end
