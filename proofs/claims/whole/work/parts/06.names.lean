def zAll : List Cond := lw_tbl.filter goodWord
theorem zUp {w : Cond} {ws : List Cond} (h : GoodIn zAll ws) : GoodIn (w :: zAll) ws := fun x hx => ⟨List.mem_cons_of_mem _ (h x hx).1, (h x hx).2⟩
theorem zGc {y : MethodName} {c : ByteArray} {n : Nat} {r : Option FieldType} (h : Cond.code y c n r ∈ zAll) : GoodIn zAll (Cond.code y c n r :: zAll) := fun w hw => by
  have hm : w ∈ zAll := (List.mem_cons.mp hw).elim (fun e => by rw [e]; exact h) id
  exact ⟨hm, good_of_word (List.mem_filter.mp hm).2⟩
theorem zGw {y : MethodName} {c : ByteArray} {n : Nat} {r : Option FieldType} {hh : List (Nat × Nat × Nat × Nat)} (h : Cond.codeWith y c n r hh ∈ zAll) : GoodIn zAll (Cond.codeWith y c n r hh :: zAll) := fun w hw => by
  have hm : w ∈ zAll := (List.mem_cons.mp hw).elim (fun e => by rw [e]; exact h) id
  exact ⟨hm, good_of_word (List.mem_filter.mp hm).2⟩
theorem zGl {ls ws : List Cond} (h1 : ∀ w ∈ ls, w ∈ zAll) (h2 : GoodIn zAll ws) : GoodIn zAll (ls ++ ws) := fun w hw => (List.mem_append.mp hw).elim (fun h => ⟨h1 w h, good_of_word (List.mem_filter.mp (h1 w h)).2⟩) (h2 w)
def RX : String := "StartTable"
def RM : String := "StartTableModel"
def RL : String := "StartTableLaw"
def RI : String := "java/lang/Integer"
def RA : String := "java/util/Arrays"
def TX : u_T := fun k => match k with
  | 0 => ("StartTable", "marks", "[I", true)
  | 1 => ("StartTable", "starts", "[I", true)
  | 2 => ("StartTable", "cells", "I", false)
  | _ => ("StartTable", "pieces", "I", false)
def tyX : Nat → FieldType := fun k => match k with
  | 0 => .array .int
  | 1 => .array .int
  | 2 => .int
  | _ => .int
def TM : u_T := fun k => match k with
  | 0 => ("StartTableModel", "thrown", "I", false)
  | 1 => ("StartTableModel", "cells", "I", false)
  | _ => ("StartTableModel", "begins", "[Z", true)
def tyM : Nat → FieldType := fun k => match k with
  | 0 => .int
  | 1 => .int
  | _ => .array .boolean
theorem nmX : ∀ a, a < 4 → ∀ b, b < 4 → a ≠ b → (TX a).2.1 ≠ (TX b).2.1 := by decide +kernel
theorem tyX_ok : ∀ k, k < 4 → parseFieldDescriptor (TX k).2.2.1 = some (tyX k) := by decide +kernel
theorem nmM : ∀ a, a < 3 → ∀ b, b < 3 → a ≠ b → (TM a).2.1 ≠ (TM b).2.1 := by decide +kernel
theorem tyM_ok : ∀ k, k < 3 → parseFieldDescriptor (TM k).2.2.1 = some (tyM k) := by decide +kernel
theorem inX : ∀ w ∈ u_ws RX TX 4, w ∈ zAll := by decide +kernel
theorem inM : ∀ w ∈ u_ws RM TM 3, w ∈ zAll := by decide +kernel
abbrev vwCl : List vw_C := [(RX, TX, 4), (RM, TM, 3)]
abbrev c_nlz : ByteArray := prog_7_method_47_code
def y_nlz : MethodName := ⟨RI, "numberOfLeadingZeros", "(I)I"⟩
def ws_nlz : List Cond := .code y_nlz c_nlz 2 (some .int) :: zAll
theorem wc_nlz : Cond.code y_nlz c_nlz 2 (some .int) ∈ zAll := by decide +kernel
theorem d_nlz_0 : decode c_nlz 0 = .ok (.iload_n 0, 1) := by decide +kernel
theorem d_nlz_1 : decode c_nlz 1 = .ok (.ifCond .gt 14, 3) := by decide +kernel
theorem d_nlz_4 : decode c_nlz 4 = .ok (.iload_n 0, 1) := by decide +kernel
theorem d_nlz_5 : decode c_nlz 5 = .ok (.ifCond .ne 8, 3) := by decide +kernel
theorem d_nlz_8 : decode c_nlz 8 = .ok (.bipush 32, 2) := by decide +kernel
theorem d_nlz_10 : decode c_nlz 10 = .ok (.goto 4, 3) := by decide +kernel
theorem d_nlz_13 : decode c_nlz 13 = .ok (.iconst 0, 1) := by decide +kernel
theorem d_nlz_14 : decode c_nlz 14 = .ok (.ireturn, 1) := by decide +kernel
theorem d_nlz_15 : decode c_nlz 15 = .ok (.bipush 31, 2) := by decide +kernel
theorem d_nlz_17 : decode c_nlz 17 = .ok (.istore_n 1, 1) := by decide +kernel
theorem d_nlz_18 : decode c_nlz 18 = .ok (.iload_n 0, 1) := by decide +kernel
theorem d_nlz_19 : decode c_nlz 19 = .ok (.ldc_w 264, 3) := by decide +kernel
theorem d_nlz_22 : decode c_nlz 22 = .ok (.if_icmp .lt 11, 3) := by decide +kernel
theorem d_nlz_25 : decode c_nlz 25 = .ok (.iinc 1 (-16), 3) := by decide +kernel
theorem d_nlz_28 : decode c_nlz 28 = .ok (.iload_n 0, 1) := by decide +kernel
theorem d_nlz_29 : decode c_nlz 29 = .ok (.bipush 16, 2) := by decide +kernel
theorem d_nlz_31 : decode c_nlz 31 = .ok (.iushr, 1) := by decide +kernel
theorem d_nlz_32 : decode c_nlz 32 = .ok (.istore_n 0, 1) := by decide +kernel
theorem d_nlz_33 : decode c_nlz 33 = .ok (.iload_n 0, 1) := by decide +kernel
theorem d_nlz_34 : decode c_nlz 34 = .ok (.sipush 256, 3) := by decide +kernel
theorem d_nlz_37 : decode c_nlz 37 = .ok (.if_icmp .lt 11, 3) := by decide +kernel
theorem d_nlz_40 : decode c_nlz 40 = .ok (.iinc 1 (-8), 3) := by decide +kernel
theorem d_nlz_43 : decode c_nlz 43 = .ok (.iload_n 0, 1) := by decide +kernel
theorem d_nlz_44 : decode c_nlz 44 = .ok (.bipush 8, 2) := by decide +kernel
theorem d_nlz_46 : decode c_nlz 46 = .ok (.iushr, 1) := by decide +kernel
theorem d_nlz_47 : decode c_nlz 47 = .ok (.istore_n 0, 1) := by decide +kernel
theorem d_nlz_48 : decode c_nlz 48 = .ok (.iload_n 0, 1) := by decide +kernel
theorem d_nlz_49 : decode c_nlz 49 = .ok (.bipush 16, 2) := by decide +kernel
theorem d_nlz_51 : decode c_nlz 51 = .ok (.if_icmp .lt 10, 3) := by decide +kernel
theorem d_nlz_54 : decode c_nlz 54 = .ok (.iinc 1 (-4), 3) := by decide +kernel
theorem d_nlz_57 : decode c_nlz 57 = .ok (.iload_n 0, 1) := by decide +kernel
theorem d_nlz_58 : decode c_nlz 58 = .ok (.iconst 4, 1) := by decide +kernel
theorem d_nlz_59 : decode c_nlz 59 = .ok (.iushr, 1) := by decide +kernel
theorem d_nlz_60 : decode c_nlz 60 = .ok (.istore_n 0, 1) := by decide +kernel
theorem d_nlz_61 : decode c_nlz 61 = .ok (.iload_n 0, 1) := by decide +kernel
theorem d_nlz_62 : decode c_nlz 62 = .ok (.iconst 4, 1) := by decide +kernel
theorem d_nlz_63 : decode c_nlz 63 = .ok (.if_icmp .lt 10, 3) := by decide +kernel
theorem d_nlz_66 : decode c_nlz 66 = .ok (.iinc 1 (-2), 3) := by decide +kernel
theorem d_nlz_69 : decode c_nlz 69 = .ok (.iload_n 0, 1) := by decide +kernel
theorem d_nlz_70 : decode c_nlz 70 = .ok (.iconst 2, 1) := by decide +kernel
theorem d_nlz_71 : decode c_nlz 71 = .ok (.iushr, 1) := by decide +kernel
theorem d_nlz_72 : decode c_nlz 72 = .ok (.istore_n 0, 1) := by decide +kernel
theorem d_nlz_73 : decode c_nlz 73 = .ok (.iload_n 1, 1) := by decide +kernel
theorem d_nlz_74 : decode c_nlz 74 = .ok (.iload_n 0, 1) := by decide +kernel
theorem d_nlz_75 : decode c_nlz 75 = .ok (.iconst 1, 1) := by decide +kernel
theorem d_nlz_76 : decode c_nlz 76 = .ok (.iushr, 1) := by decide +kernel
theorem d_nlz_77 : decode c_nlz 77 = .ok (.isub, 1) := by decide +kernel
theorem d_nlz_78 : decode c_nlz 78 = .ok (.ireturn, 1) := by decide +kernel
abbrev c_ntz : ByteArray := prog_7_method_48_code
def y_ntz : MethodName := ⟨RI, "numberOfTrailingZeros", "(I)I"⟩
def ws_ntz : List Cond := .code y_ntz c_ntz 2 (some .int) :: zAll
theorem wc_ntz : Cond.code y_ntz c_ntz 2 (some .int) ∈ zAll := by decide +kernel
theorem d_ntz_0 : decode c_ntz 0 = .ok (.iload_n 0, 1) := by decide +kernel
theorem d_ntz_1 : decode c_ntz 1 = .ok (.iconst (-1), 1) := by decide +kernel
theorem d_ntz_2 : decode c_ntz 2 = .ok (.ixor, 1) := by decide +kernel
theorem d_ntz_3 : decode c_ntz 3 = .ok (.iload_n 0, 1) := by decide +kernel
theorem d_ntz_4 : decode c_ntz 4 = .ok (.iconst 1, 1) := by decide +kernel
theorem d_ntz_5 : decode c_ntz 5 = .ok (.isub, 1) := by decide +kernel
theorem d_ntz_6 : decode c_ntz 6 = .ok (.iand, 1) := by decide +kernel
theorem d_ntz_7 : decode c_ntz 7 = .ok (.istore_n 0, 1) := by decide +kernel
theorem d_ntz_8 : decode c_ntz 8 = .ok (.iload_n 0, 1) := by decide +kernel
theorem d_ntz_9 : decode c_ntz 9 = .ok (.ifCond .gt 8, 3) := by decide +kernel
theorem d_ntz_12 : decode c_ntz 12 = .ok (.iload_n 0, 1) := by decide +kernel
theorem d_ntz_13 : decode c_ntz 13 = .ok (.bipush 32, 2) := by decide +kernel
theorem d_ntz_15 : decode c_ntz 15 = .ok (.iand, 1) := by decide +kernel
theorem d_ntz_16 : decode c_ntz 16 = .ok (.ireturn, 1) := by decide +kernel
theorem d_ntz_17 : decode c_ntz 17 = .ok (.iconst 1, 1) := by decide +kernel
theorem d_ntz_18 : decode c_ntz 18 = .ok (.istore_n 1, 1) := by decide +kernel
theorem d_ntz_19 : decode c_ntz 19 = .ok (.iload_n 0, 1) := by decide +kernel
theorem d_ntz_20 : decode c_ntz 20 = .ok (.ldc_w 264, 3) := by decide +kernel
theorem d_ntz_23 : decode c_ntz 23 = .ok (.if_icmp .le 11, 3) := by decide +kernel
theorem d_ntz_26 : decode c_ntz 26 = .ok (.iinc 1 16, 3) := by decide +kernel
theorem d_ntz_29 : decode c_ntz 29 = .ok (.iload_n 0, 1) := by decide +kernel
theorem d_ntz_30 : decode c_ntz 30 = .ok (.bipush 16, 2) := by decide +kernel
theorem d_ntz_32 : decode c_ntz 32 = .ok (.iushr, 1) := by decide +kernel
theorem d_ntz_33 : decode c_ntz 33 = .ok (.istore_n 0, 1) := by decide +kernel
theorem d_ntz_34 : decode c_ntz 34 = .ok (.iload_n 0, 1) := by decide +kernel
theorem d_ntz_35 : decode c_ntz 35 = .ok (.sipush 256, 3) := by decide +kernel
theorem d_ntz_38 : decode c_ntz 38 = .ok (.if_icmp .le 11, 3) := by decide +kernel
theorem d_ntz_41 : decode c_ntz 41 = .ok (.iinc 1 8, 3) := by decide +kernel
theorem d_ntz_44 : decode c_ntz 44 = .ok (.iload_n 0, 1) := by decide +kernel
theorem d_ntz_45 : decode c_ntz 45 = .ok (.bipush 8, 2) := by decide +kernel
theorem d_ntz_47 : decode c_ntz 47 = .ok (.iushr, 1) := by decide +kernel
theorem d_ntz_48 : decode c_ntz 48 = .ok (.istore_n 0, 1) := by decide +kernel
theorem d_ntz_49 : decode c_ntz 49 = .ok (.iload_n 0, 1) := by decide +kernel
theorem d_ntz_50 : decode c_ntz 50 = .ok (.bipush 16, 2) := by decide +kernel
theorem d_ntz_52 : decode c_ntz 52 = .ok (.if_icmp .le 10, 3) := by decide +kernel
theorem d_ntz_55 : decode c_ntz 55 = .ok (.iinc 1 4, 3) := by decide +kernel
theorem d_ntz_58 : decode c_ntz 58 = .ok (.iload_n 0, 1) := by decide +kernel
theorem d_ntz_59 : decode c_ntz 59 = .ok (.iconst 4, 1) := by decide +kernel
theorem d_ntz_60 : decode c_ntz 60 = .ok (.iushr, 1) := by decide +kernel
theorem d_ntz_61 : decode c_ntz 61 = .ok (.istore_n 0, 1) := by decide +kernel
theorem d_ntz_62 : decode c_ntz 62 = .ok (.iload_n 0, 1) := by decide +kernel
theorem d_ntz_63 : decode c_ntz 63 = .ok (.iconst 4, 1) := by decide +kernel
theorem d_ntz_64 : decode c_ntz 64 = .ok (.if_icmp .le 10, 3) := by decide +kernel
theorem d_ntz_67 : decode c_ntz 67 = .ok (.iinc 1 2, 3) := by decide +kernel
theorem d_ntz_70 : decode c_ntz 70 = .ok (.iload_n 0, 1) := by decide +kernel
theorem d_ntz_71 : decode c_ntz 71 = .ok (.iconst 2, 1) := by decide +kernel
theorem d_ntz_72 : decode c_ntz 72 = .ok (.iushr, 1) := by decide +kernel
theorem d_ntz_73 : decode c_ntz 73 = .ok (.istore_n 0, 1) := by decide +kernel
theorem d_ntz_74 : decode c_ntz 74 = .ok (.iload_n 1, 1) := by decide +kernel
theorem d_ntz_75 : decode c_ntz 75 = .ok (.iload_n 0, 1) := by decide +kernel
theorem d_ntz_76 : decode c_ntz 76 = .ok (.iconst 1, 1) := by decide +kernel
theorem d_ntz_77 : decode c_ntz 77 = .ok (.iushr, 1) := by decide +kernel
theorem d_ntz_78 : decode c_ntz 78 = .ok (.iadd, 1) := by decide +kernel
theorem d_ntz_79 : decode c_ntz 79 = .ok (.ireturn, 1) := by decide +kernel
abbrev c_pop : ByteArray := prog_7_method_49_code
def y_pop : MethodName := ⟨RI, "bitCount", "(I)I"⟩
def ws_pop : List Cond := .code y_pop c_pop 1 (some .int) :: zAll
theorem wc_pop : Cond.code y_pop c_pop 1 (some .int) ∈ zAll := by decide +kernel
theorem d_pop_0 : decode c_pop 0 = .ok (.iload_n 0, 1) := by decide +kernel
theorem d_pop_1 : decode c_pop 1 = .ok (.iload_n 0, 1) := by decide +kernel
theorem d_pop_2 : decode c_pop 2 = .ok (.iconst 1, 1) := by decide +kernel
theorem d_pop_3 : decode c_pop 3 = .ok (.iushr, 1) := by decide +kernel
theorem d_pop_4 : decode c_pop 4 = .ok (.ldc_w 265, 3) := by decide +kernel
theorem d_pop_7 : decode c_pop 7 = .ok (.iand, 1) := by decide +kernel
theorem d_pop_8 : decode c_pop 8 = .ok (.isub, 1) := by decide +kernel
theorem d_pop_9 : decode c_pop 9 = .ok (.istore_n 0, 1) := by decide +kernel
theorem d_pop_10 : decode c_pop 10 = .ok (.iload_n 0, 1) := by decide +kernel
theorem d_pop_11 : decode c_pop 11 = .ok (.ldc_w 266, 3) := by decide +kernel
theorem d_pop_14 : decode c_pop 14 = .ok (.iand, 1) := by decide +kernel
theorem d_pop_15 : decode c_pop 15 = .ok (.iload_n 0, 1) := by decide +kernel
theorem d_pop_16 : decode c_pop 16 = .ok (.iconst 2, 1) := by decide +kernel
theorem d_pop_17 : decode c_pop 17 = .ok (.iushr, 1) := by decide +kernel
theorem d_pop_18 : decode c_pop 18 = .ok (.ldc_w 266, 3) := by decide +kernel
theorem d_pop_21 : decode c_pop 21 = .ok (.iand, 1) := by decide +kernel
theorem d_pop_22 : decode c_pop 22 = .ok (.iadd, 1) := by decide +kernel
theorem d_pop_23 : decode c_pop 23 = .ok (.istore_n 0, 1) := by decide +kernel
theorem d_pop_24 : decode c_pop 24 = .ok (.iload_n 0, 1) := by decide +kernel
theorem d_pop_25 : decode c_pop 25 = .ok (.iload_n 0, 1) := by decide +kernel
theorem d_pop_26 : decode c_pop 26 = .ok (.iconst 4, 1) := by decide +kernel
theorem d_pop_27 : decode c_pop 27 = .ok (.iushr, 1) := by decide +kernel
theorem d_pop_28 : decode c_pop 28 = .ok (.iadd, 1) := by decide +kernel
theorem d_pop_29 : decode c_pop 29 = .ok (.ldc_w 267, 3) := by decide +kernel
theorem d_pop_32 : decode c_pop 32 = .ok (.iand, 1) := by decide +kernel
theorem d_pop_33 : decode c_pop 33 = .ok (.istore_n 0, 1) := by decide +kernel
theorem d_pop_34 : decode c_pop 34 = .ok (.iload_n 0, 1) := by decide +kernel
theorem d_pop_35 : decode c_pop 35 = .ok (.iload_n 0, 1) := by decide +kernel
theorem d_pop_36 : decode c_pop 36 = .ok (.bipush 8, 2) := by decide +kernel
theorem d_pop_38 : decode c_pop 38 = .ok (.iushr, 1) := by decide +kernel
theorem d_pop_39 : decode c_pop 39 = .ok (.iadd, 1) := by decide +kernel
theorem d_pop_40 : decode c_pop 40 = .ok (.istore_n 0, 1) := by decide +kernel
theorem d_pop_41 : decode c_pop 41 = .ok (.iload_n 0, 1) := by decide +kernel
theorem d_pop_42 : decode c_pop 42 = .ok (.iload_n 0, 1) := by decide +kernel
theorem d_pop_43 : decode c_pop 43 = .ok (.bipush 16, 2) := by decide +kernel
theorem d_pop_45 : decode c_pop 45 = .ok (.iushr, 1) := by decide +kernel
theorem d_pop_46 : decode c_pop 46 = .ok (.iadd, 1) := by decide +kernel
theorem d_pop_47 : decode c_pop 47 = .ok (.istore_n 0, 1) := by decide +kernel
theorem d_pop_48 : decode c_pop 48 = .ok (.iload_n 0, 1) := by decide +kernel
theorem d_pop_49 : decode c_pop 49 = .ok (.bipush 63, 2) := by decide +kernel
theorem d_pop_51 : decode c_pop 51 = .ok (.iand, 1) := by decide +kernel
theorem d_pop_52 : decode c_pop 52 = .ok (.ireturn, 1) := by decide +kernel
abbrev c_fill : ByteArray := prog_12_method_103_code
def y_fill : MethodName := ⟨RA, "fill", "([II)V"⟩
def ws_fill : List Cond := .code y_fill c_fill 4 none :: zAll
theorem wc_fill : Cond.code y_fill c_fill 4 none ∈ zAll := by decide +kernel
theorem d_fill_0 : decode c_fill 0 = .ok (.iconst 0, 1) := by decide +kernel
theorem d_fill_1 : decode c_fill 1 = .ok (.istore_n 2, 1) := by decide +kernel
theorem d_fill_2 : decode c_fill 2 = .ok (.aload_n 0, 1) := by decide +kernel
theorem d_fill_3 : decode c_fill 3 = .ok (.arraylength, 1) := by decide +kernel
theorem d_fill_4 : decode c_fill 4 = .ok (.istore_n 3, 1) := by decide +kernel
theorem d_fill_5 : decode c_fill 5 = .ok (.iload_n 2, 1) := by decide +kernel
theorem d_fill_6 : decode c_fill 6 = .ok (.iload_n 3, 1) := by decide +kernel
theorem d_fill_7 : decode c_fill 7 = .ok (.if_icmp .ge 13, 3) := by decide +kernel
theorem d_fill_10 : decode c_fill 10 = .ok (.aload_n 0, 1) := by decide +kernel
theorem d_fill_11 : decode c_fill 11 = .ok (.iload_n 2, 1) := by decide +kernel
theorem d_fill_12 : decode c_fill 12 = .ok (.iload_n 1, 1) := by decide +kernel
theorem d_fill_13 : decode c_fill 13 = .ok (.iastore, 1) := by decide +kernel
theorem d_fill_14 : decode c_fill 14 = .ok (.iinc 2 1, 3) := by decide +kernel
theorem d_fill_17 : decode c_fill 17 = .ok (.goto (-12), 3) := by decide +kernel
theorem d_fill_20 : decode c_fill 20 = .ok (.return_, 1) := by decide +kernel
abbrev c_X_init : ByteArray := prog_1_method_1_code
def y_X_init : MethodName := ⟨RX, "<init>", "()V"⟩
def ws_X_init : List Cond := .code y_X_init c_X_init 1 none :: zAll
theorem wc_X_init : Cond.code y_X_init c_X_init 1 none ∈ zAll := by decide +kernel
abbrev c_X_space : ByteArray := prog_1_method_2_code
def y_X_space : MethodName := ⟨RX, "space", "(I)I"⟩
def ws_X_space : List Cond := .code y_X_space c_X_space 3 (some .int) :: zAll
theorem wc_X_space : Cond.code y_X_space c_X_space 3 (some .int) ∈ zAll := by decide +kernel
abbrev c_X_cut : ByteArray := prog_1_method_3_code
def y_X_cut : MethodName := ⟨RX, "cut", "(I)I"⟩
def ws_X_cut : List Cond := .code y_X_cut c_X_cut 3 (some .int) :: zAll
theorem wc_X_cut : Cond.code y_X_cut c_X_cut 3 (some .int) ∈ zAll := by decide +kernel
abbrev c_X_join : ByteArray := prog_1_method_4_code
def y_X_join : MethodName := ⟨RX, "join", "(I)I"⟩
def ws_X_join : List Cond := .code y_X_join c_X_join 5 (some .int) :: zAll
theorem wc_X_join : Cond.code y_X_join c_X_join 5 (some .int) ∈ zAll := by decide +kernel
abbrev c_X_make : ByteArray := prog_1_method_5_code
def y_X_make : MethodName := ⟨RX, "make", "(II)I"⟩
def ws_X_make : List Cond := .code y_X_make c_X_make 3 (some .int) :: zAll
theorem wc_X_make : Cond.code y_X_make c_X_make 3 (some .int) ∈ zAll := by decide +kernel
abbrev c_X_begin : ByteArray := prog_1_method_6_code
def y_X_begin : MethodName := ⟨RX, "begin", "(I)I"⟩
def ws_X_begin : List Cond := .code y_X_begin c_X_begin 2 (some .int) :: zAll
theorem wc_X_begin : Cond.code y_X_begin c_X_begin 2 (some .int) ∈ zAll := by decide +kernel
abbrev c_X_size : ByteArray := prog_1_method_7_code
def y_X_size : MethodName := ⟨RX, "size", "(I)I"⟩
def ws_X_size : List Cond := .code y_X_size c_X_size 2 (some .int) :: zAll
theorem wc_X_size : Cond.code y_X_size c_X_size 2 (some .int) ∈ zAll := by decide +kernel
abbrev c_X_start : ByteArray := prog_1_method_8_code
def y_X_start : MethodName := ⟨RX, "start", "(I)I"⟩
def ws_X_start : List Cond := .code y_X_start c_X_start 2 (some .int) :: zAll
theorem wc_X_start : Cond.code y_X_start c_X_start 2 (some .int) ∈ zAll := by decide +kernel
abbrev c_X_begins : ByteArray := prog_1_method_9_code
def y_X_begins : MethodName := ⟨RX, "begins", "(I)I"⟩
def ws_X_begins : List Cond := .code y_X_begins c_X_begins 2 (some .int) :: zAll
theorem wc_X_begins : Cond.code y_X_begins c_X_begins 2 (some .int) ∈ zAll := by decide +kernel
abbrev c_X_count : ByteArray := prog_1_method_10_code
def y_X_count : MethodName := ⟨RX, "count", "(I)I"⟩
def ws_X_count : List Cond := .code y_X_count c_X_count 2 (some .int) :: zAll
theorem wc_X_count : Cond.code y_X_count c_X_count 2 (some .int) ∈ zAll := by decide +kernel
abbrev c_X_checkCell : ByteArray := prog_1_method_11_code
def y_X_checkCell : MethodName := ⟨RX, "checkCell", "(I)V"⟩
def ws_X_checkCell : List Cond := .code y_X_checkCell c_X_checkCell 2 none :: zAll
theorem wc_X_checkCell : Cond.code y_X_checkCell c_X_checkCell 2 none ∈ zAll := by decide +kernel
abbrev c_X_checkCard : ByteArray := prog_1_method_12_code
def y_X_checkCard : MethodName := ⟨RX, "checkCard", "(I)V"⟩
def ws_X_checkCard : List Cond := .code y_X_checkCard c_X_checkCard 2 none :: zAll
theorem wc_X_checkCard : Cond.code y_X_checkCard c_X_checkCard 2 none ∈ zAll := by decide +kernel
abbrev c_X_cardCount : ByteArray := prog_1_method_13_code
def y_X_cardCount : MethodName := ⟨RX, "cardCount", "()I"⟩
def ws_X_cardCount : List Cond := .code y_X_cardCount c_X_cardCount 1 (some .int) :: zAll
theorem wc_X_cardCount : Cond.code y_X_cardCount c_X_cardCount 1 (some .int) ∈ zAll := by decide +kernel
abbrev c_X_layOnePiece : ByteArray := prog_1_method_14_code
def y_X_layOnePiece : MethodName := ⟨RX, "layOnePiece", "(I)V"⟩
def ws_X_layOnePiece : List Cond := .code y_X_layOnePiece c_X_layOnePiece 2 none :: zAll
theorem wc_X_layOnePiece : Cond.code y_X_layOnePiece c_X_layOnePiece 2 none ∈ zAll := by decide +kernel
abbrev c_X_beginOf : ByteArray := prog_1_method_15_code
def y_X_beginOf : MethodName := ⟨RX, "beginOf", "(I)I"⟩
def ws_X_beginOf : List Cond := .code y_X_beginOf c_X_beginOf 5 (some .int) :: zAll
theorem wc_X_beginOf : Cond.code y_X_beginOf c_X_beginOf 5 (some .int) ∈ zAll := by decide +kernel
abbrev c_X_endOf : ByteArray := prog_1_method_16_code
def y_X_endOf : MethodName := ⟨RX, "endOf", "(I)I"⟩
def ws_X_endOf : List Cond := .code y_X_endOf c_X_endOf 2 (some .int) :: zAll
theorem wc_X_endOf : Cond.code y_X_endOf c_X_endOf 2 (some .int) ∈ zAll := by decide +kernel
abbrev c_X_firstBeginFrom : ByteArray := prog_1_method_17_code
def y_X_firstBeginFrom : MethodName := ⟨RX, "firstBeginFrom", "(I)I"⟩
def ws_X_firstBeginFrom : List Cond := .code y_X_firstBeginFrom c_X_firstBeginFrom 6 (some .int) :: zAll
theorem wc_X_firstBeginFrom : Cond.code y_X_firstBeginFrom c_X_firstBeginFrom 6 (some .int) ∈ zAll := by decide +kernel
abbrev c_X_cutAt : ByteArray := prog_1_method_18_code
def y_X_cutAt : MethodName := ⟨RX, "cutAt", "(I)V"⟩
def ws_X_cutAt : List Cond := .code y_X_cutAt c_X_cutAt 2 none :: zAll
theorem wc_X_cutAt : Cond.code y_X_cutAt c_X_cutAt 2 none ∈ zAll := by decide +kernel
abbrev c_X_merge : ByteArray := prog_1_method_19_code
def y_X_merge : MethodName := ⟨RX, "merge", "(II)V"⟩
def ws_X_merge : List Cond := .code y_X_merge c_X_merge 6 none :: zAll
theorem wc_X_merge : Cond.code y_X_merge c_X_merge 6 none ∈ zAll := by decide +kernel
abbrev c_X_bitOf : ByteArray := prog_1_method_20_code
def y_X_bitOf : MethodName := ⟨RX, "bitOf", "(I)I"⟩
def ws_X_bitOf : List Cond := .code y_X_bitOf c_X_bitOf 1 (some .int) :: zAll
theorem wc_X_bitOf : Cond.code y_X_bitOf c_X_bitOf 1 (some .int) ∈ zAll := by decide +kernel
abbrev c_X_tellStarts : ByteArray := prog_1_method_21_code
def y_X_tellStarts : MethodName := ⟨RX, "tellStarts", "(II)V"⟩
def ws_X_tellStarts : List Cond := .code y_X_tellStarts c_X_tellStarts 6 none :: zAll
theorem wc_X_tellStarts : Cond.code y_X_tellStarts c_X_tellStarts 6 none ∈ zAll := by decide +kernel
abbrev c_X_outermostSize : ByteArray := prog_1_method_22_code
def y_X_outermostSize : MethodName := ⟨RX, "outermostSize", "(Z)I"⟩
def ws_X_outermostSize : List Cond := .code y_X_outermostSize c_X_outermostSize 7 (some .int) :: zAll
theorem wc_X_outermostSize : Cond.code y_X_outermostSize c_X_outermostSize 7 (some .int) ∈ zAll := by decide +kernel
abbrev c_M_init : ByteArray := prog_3_method_1_code
def y_M_init : MethodName := ⟨RM, "<init>", "()V"⟩
def ws_M_init : List Cond := .code y_M_init c_M_init 1 none :: zAll
theorem wc_M_init : Cond.code y_M_init c_M_init 1 none ∈ zAll := by decide +kernel
abbrev c_M_thrown : ByteArray := prog_3_method_2_code
def y_M_thrown : MethodName := ⟨RM, "thrown", "()I"⟩
def ws_M_thrown : List Cond := .code y_M_thrown c_M_thrown 1 (some .int) :: zAll
theorem wc_M_thrown : Cond.code y_M_thrown c_M_thrown 1 (some .int) ∈ zAll := by decide +kernel
abbrev c_M_goes : ByteArray := prog_3_method_3_code
def y_M_goes : MethodName := ⟨RM, "goes", "(Z)Z"⟩
def ws_M_goes : List Cond := .code y_M_goes c_M_goes 2 (some .boolean) :: zAll
theorem wc_M_goes : Cond.code y_M_goes c_M_goes 2 (some .boolean) ∈ zAll := by decide +kernel
abbrev c_M_cards : ByteArray := prog_3_method_4_code
def y_M_cards : MethodName := ⟨RM, "cards", "()I"⟩
def ws_M_cards : List Cond := .code y_M_cards c_M_cards 1 (some .int) :: zAll
theorem wc_M_cards : Cond.code y_M_cards c_M_cards 1 (some .int) ∈ zAll := by decide +kernel
abbrev c_M_isCell : ByteArray := prog_3_method_5_code
def y_M_isCell : MethodName := ⟨RM, "isCell", "(I)Z"⟩
def ws_M_isCell : List Cond := .code y_M_isCell c_M_isCell 2 (some .boolean) :: zAll
theorem wc_M_isCell : Cond.code y_M_isCell c_M_isCell 2 (some .boolean) ∈ zAll := by decide +kernel
abbrev c_M_isCard : ByteArray := prog_3_method_6_code
def y_M_isCard : MethodName := ⟨RM, "isCard", "(I)Z"⟩
def ws_M_isCard : List Cond := .code y_M_isCard c_M_isCard 2 (some .boolean) :: zAll
theorem wc_M_isCard : Cond.code y_M_isCard c_M_isCard 2 (some .boolean) ∈ zAll := by decide +kernel
abbrev c_M_space : ByteArray := prog_3_method_7_code
def y_M_space : MethodName := ⟨RM, "space", "(I)I"⟩
def ws_M_space : List Cond := .code y_M_space c_M_space 4 (some .int) :: zAll
theorem wc_M_space : Cond.code y_M_space c_M_space 4 (some .int) ∈ zAll := by decide +kernel
abbrev c_M_from : ByteArray := prog_3_method_8_code
def y_M_from : MethodName := ⟨RM, "from", "(I)I"⟩
def ws_M_from : List Cond := .code y_M_from c_M_from 3 (some .int) :: zAll
theorem wc_M_from : Cond.code y_M_from c_M_from 3 (some .int) ∈ zAll := by decide +kernel
abbrev c_M_behind : ByteArray := prog_3_method_9_code
def y_M_behind : MethodName := ⟨RM, "behind", "(I)I"⟩
def ws_M_behind : List Cond := .code y_M_behind c_M_behind 3 (some .int) :: zAll
theorem wc_M_behind : Cond.code y_M_behind c_M_behind 3 (some .int) ∈ zAll := by decide +kernel
abbrev c_M_pieces : ByteArray := prog_3_method_10_code
def y_M_pieces : MethodName := ⟨RM, "pieces", "()I"⟩
def ws_M_pieces : List Cond := .code y_M_pieces c_M_pieces 3 (some .int) :: zAll
theorem wc_M_pieces : Cond.code y_M_pieces c_M_pieces 3 (some .int) ∈ zAll := by decide +kernel
abbrev c_M_cut : ByteArray := prog_3_method_11_code
def y_M_cut : MethodName := ⟨RM, "cut", "(I)I"⟩
def ws_M_cut : List Cond := .code y_M_cut c_M_cut 3 (some .int) :: zAll
theorem wc_M_cut : Cond.code y_M_cut c_M_cut 3 (some .int) ∈ zAll := by decide +kernel
abbrev c_M_join : ByteArray := prog_3_method_12_code
def y_M_join : MethodName := ⟨RM, "join", "(I)I"⟩
def ws_M_join : List Cond := .code y_M_join c_M_join 3 (some .int) :: zAll
theorem wc_M_join : Cond.code y_M_join c_M_join 3 (some .int) ∈ zAll := by decide +kernel
abbrev c_M_make : ByteArray := prog_3_method_13_code
def y_M_make : MethodName := ⟨RM, "make", "(II)I"⟩
def ws_M_make : List Cond := .code y_M_make c_M_make 4 (some .int) :: zAll
theorem wc_M_make : Cond.code y_M_make c_M_make 4 (some .int) ∈ zAll := by decide +kernel
abbrev c_M_begin : ByteArray := prog_3_method_14_code
def y_M_begin : MethodName := ⟨RM, "begin", "(I)I"⟩
def ws_M_begin : List Cond := .code y_M_begin c_M_begin 2 (some .int) :: zAll
theorem wc_M_begin : Cond.code y_M_begin c_M_begin 2 (some .int) ∈ zAll := by decide +kernel
abbrev c_M_size : ByteArray := prog_3_method_15_code
def y_M_size : MethodName := ⟨RM, "size", "(I)I"⟩
def ws_M_size : List Cond := .code y_M_size c_M_size 2 (some .int) :: zAll
theorem wc_M_size : Cond.code y_M_size c_M_size 2 (some .int) ∈ zAll := by decide +kernel
abbrev c_M_start : ByteArray := prog_3_method_16_code
def y_M_start : MethodName := ⟨RM, "start", "(I)I"⟩
def ws_M_start : List Cond := .code y_M_start c_M_start 2 (some .int) :: zAll
theorem wc_M_start : Cond.code y_M_start c_M_start 2 (some .int) ∈ zAll := by decide +kernel
abbrev c_M_begins : ByteArray := prog_3_method_17_code
def y_M_begins : MethodName := ⟨RM, "begins", "(I)I"⟩
def ws_M_begins : List Cond := .code y_M_begins c_M_begins 4 (some .int) :: zAll
theorem wc_M_begins : Cond.code y_M_begins c_M_begins 4 (some .int) ∈ zAll := by decide +kernel
abbrev c_M_count : ByteArray := prog_3_method_18_code
def y_M_count : MethodName := ⟨RM, "count", "(I)I"⟩
def ws_M_count : List Cond := .code y_M_count c_M_count 6 (some .int) :: zAll
theorem wc_M_count : Cond.code y_M_count c_M_count 6 (some .int) ∈ zAll := by decide +kernel
abbrev c_L_space : ByteArray := method_3_code
def y_L_space : MethodName := ⟨RL, "space", "(LStartTable;I[J)I"⟩
def ws_L_space : List Cond := .codeWith y_L_space c_L_space 4 (some .int) [(0, 9, 12, 13)] :: zAll
theorem wc_L_space : Cond.codeWith y_L_space c_L_space 4 (some .int) [(0, 9, 12, 13)] ∈ zAll := by decide +kernel
abbrev c_L_cut : ByteArray := method_4_code
def y_L_cut : MethodName := ⟨RL, "cut", "(LStartTable;I[J)I"⟩
def ws_L_cut : List Cond := .codeWith y_L_cut c_L_cut 4 (some .int) [(0, 9, 12, 18)] :: zAll
theorem wc_L_cut : Cond.codeWith y_L_cut c_L_cut 4 (some .int) [(0, 9, 12, 18)] ∈ zAll := by decide +kernel
abbrev c_L_join : ByteArray := method_5_code
def y_L_join : MethodName := ⟨RL, "join", "(LStartTable;I[J)I"⟩
def ws_L_join : List Cond := .codeWith y_L_join c_L_join 4 (some .int) [(0, 9, 12, 18)] :: zAll
theorem wc_L_join : Cond.codeWith y_L_join c_L_join 4 (some .int) [(0, 9, 12, 18)] ∈ zAll := by decide +kernel
abbrev c_L_make : ByteArray := method_6_code
def y_L_make : MethodName := ⟨RL, "make", "(LStartTable;II[J)I"⟩
def ws_L_make : List Cond := .codeWith y_L_make c_L_make 5 (some .int) [(0, 10, 13, 18)] :: zAll
theorem wc_L_make : Cond.codeWith y_L_make c_L_make 5 (some .int) [(0, 10, 13, 18)] ∈ zAll := by decide +kernel
abbrev c_L_begin : ByteArray := method_7_code
def y_L_begin : MethodName := ⟨RL, "begin", "(LStartTable;I[J)I"⟩
def ws_L_begin : List Cond := .codeWith y_L_begin c_L_begin 4 (some .int) [(0, 9, 12, 18)] :: zAll
theorem wc_L_begin : Cond.codeWith y_L_begin c_L_begin 4 (some .int) [(0, 9, 12, 18)] ∈ zAll := by decide +kernel
abbrev c_L_size : ByteArray := method_8_code
def y_L_size : MethodName := ⟨RL, "size", "(LStartTable;I[J)I"⟩
def ws_L_size : List Cond := .codeWith y_L_size c_L_size 4 (some .int) [(0, 9, 12, 18)] :: zAll
theorem wc_L_size : Cond.codeWith y_L_size c_L_size 4 (some .int) [(0, 9, 12, 18)] ∈ zAll := by decide +kernel
abbrev c_L_start : ByteArray := method_9_code
def y_L_start : MethodName := ⟨RL, "start", "(LStartTable;I[J)I"⟩
def ws_L_start : List Cond := .codeWith y_L_start c_L_start 4 (some .int) [(0, 9, 12, 18)] :: zAll
theorem wc_L_start : Cond.codeWith y_L_start c_L_start 4 (some .int) [(0, 9, 12, 18)] ∈ zAll := by decide +kernel
abbrev c_L_begins : ByteArray := method_10_code
def y_L_begins : MethodName := ⟨RL, "begins", "(LStartTable;I[J)I"⟩
def ws_L_begins : List Cond := .codeWith y_L_begins c_L_begins 4 (some .int) [(0, 9, 12, 18)] :: zAll
theorem wc_L_begins : Cond.codeWith y_L_begins c_L_begins 4 (some .int) [(0, 9, 12, 18)] ∈ zAll := by decide +kernel
abbrev c_L_count : ByteArray := method_11_code
def y_L_count : MethodName := ⟨RL, "count", "(LStartTable;I[J)I"⟩
def ws_L_count : List Cond := .codeWith y_L_count c_L_count 4 (some .int) [(0, 9, 12, 13)] :: zAll
theorem wc_L_count : Cond.codeWith y_L_count c_L_count 4 (some .int) [(0, 9, 12, 13)] ∈ zAll := by decide +kernel
abbrev c_L_law : ByteArray := code
def y_L_law : MethodName := ⟨RL, "law", "([I)Z"⟩
theorem wl_X_3 : Cond.methodLink RX 3 objectInit ∈ zAll := by decide +kernel
theorem wim_obj : Cond.instanceMethod objectInit ∈ zAll := by decide +kernel
theorem wc_obj : Cond.code objectInit ⟨#[0xb1]⟩ 1 none ∈ zAll := by decide +kernel
theorem wl_X_9 : Cond.fieldLink RX 9 "StartTable" "marks" "[I" ∈ zAll := by decide +kernel
theorem wl_X_13 : Cond.fieldLink RX 13 "StartTable" "starts" "[I" ∈ zAll := by decide +kernel
theorem wl_X_16 : Cond.methodLink RX 16 y_X_layOnePiece ∈ zAll := by decide +kernel
theorem wi_g_X_16 : ∀ w ∈ ([.instanceMethod y_X_layOnePiece, .selects RX y_X_layOnePiece y_X_layOnePiece, .initialized RX] : List Cond), w ∈ zAll := by decide +kernel
theorem g_X_16 : GoodIn zAll (wsV RX 16 RX y_X_layOnePiece ws_X_layOnePiece) := zGl (fun w h => (List.mem_cons.mp h).elim (fun e => by rw [e]; exact wl_X_16) (wi_g_X_16 w)) (zGc wc_X_layOnePiece)
theorem wl_X_20 : Cond.classLink RX 20 "java/lang/IllegalArgumentException" ∈ zAll := by decide +kernel
theorem win_IllegalArgumentException : Cond.initialized "java/lang/IllegalArgumentException" ∈ zAll := by decide +kernel
theorem wl_X_27 : Cond.fieldLink RX 27 "StartTable" "cells" "I" ∈ zAll := by decide +kernel
theorem wl_X_31 : Cond.methodLink RX 31 y_X_checkCell ∈ zAll := by decide +kernel
theorem wi_g_X_31 : ∀ w ∈ ([.instanceMethod y_X_checkCell, .selects RX y_X_checkCell y_X_checkCell, .initialized RX] : List Cond), w ∈ zAll := by decide +kernel
theorem g_X_31 : GoodIn zAll (wsV RX 31 RX y_X_checkCell ws_X_checkCell) := zGl (fun w h => (List.mem_cons.mp h).elim (fun e => by rw [e]; exact wl_X_31) (wi_g_X_31 w)) (zGc wc_X_checkCell)
theorem wl_X_34 : Cond.methodLink RX 34 y_X_beginOf ∈ zAll := by decide +kernel
theorem wi_g_X_34 : ∀ w ∈ ([.instanceMethod y_X_beginOf, .selects RX y_X_beginOf y_X_beginOf, .initialized RX] : List Cond), w ∈ zAll := by decide +kernel
theorem g_X_34 : GoodIn zAll (wsV RX 34 RX y_X_beginOf ws_X_beginOf) := zGl (fun w h => (List.mem_cons.mp h).elim (fun e => by rw [e]; exact wl_X_34) (wi_g_X_34 w)) (zGc wc_X_beginOf)
theorem wl_X_38 : Cond.methodLink RX 38 y_X_cutAt ∈ zAll := by decide +kernel
theorem wi_g_X_38 : ∀ w ∈ ([.instanceMethod y_X_cutAt, .selects RX y_X_cutAt y_X_cutAt, .initialized RX] : List Cond), w ∈ zAll := by decide +kernel
theorem g_X_38 : GoodIn zAll (wsV RX 38 RX y_X_cutAt ws_X_cutAt) := zGl (fun w h => (List.mem_cons.mp h).elim (fun e => by rw [e]; exact wl_X_38) (wi_g_X_38 w)) (zGc wc_X_cutAt)
theorem wl_X_41 : Cond.methodLink RX 41 y_X_endOf ∈ zAll := by decide +kernel
theorem wi_g_X_41 : ∀ w ∈ ([.instanceMethod y_X_endOf, .selects RX y_X_endOf y_X_endOf, .initialized RX] : List Cond), w ∈ zAll := by decide +kernel
theorem g_X_41 : GoodIn zAll (wsV RX 41 RX y_X_endOf ws_X_endOf) := zGl (fun w h => (List.mem_cons.mp h).elim (fun e => by rw [e]; exact wl_X_41) (wi_g_X_41 w)) (zGc wc_X_endOf)
theorem wl_X_44 : Cond.methodLink RX 44 y_X_merge ∈ zAll := by decide +kernel
theorem wi_g_X_44 : ∀ w ∈ ([.instanceMethod y_X_merge, .selects RX y_X_merge y_X_merge, .initialized RX] : List Cond), w ∈ zAll := by decide +kernel
theorem g_X_44 : GoodIn zAll (wsV RX 44 RX y_X_merge ws_X_merge) := zGl (fun w h => (List.mem_cons.mp h).elim (fun e => by rw [e]; exact wl_X_44) (wi_g_X_44 w)) (zGc wc_X_merge)
theorem wl_X_48 : Cond.classLink RX 48 "java/lang/IndexOutOfBoundsException" ∈ zAll := by decide +kernel
theorem win_IndexOutOfBoundsException : Cond.initialized "java/lang/IndexOutOfBoundsException" ∈ zAll := by decide +kernel
theorem wl_X_53 : Cond.fieldLink RX 53 "StartTable" "pieces" "I" ∈ zAll := by decide +kernel
theorem wl_X_56 : Cond.methodLink RX 56 y_X_checkCard ∈ zAll := by decide +kernel
theorem wi_g_X_56 : ∀ w ∈ ([.instanceMethod y_X_checkCard, .selects RX y_X_checkCard y_X_checkCard, .initialized RX] : List Cond), w ∈ zAll := by decide +kernel
theorem g_X_56 : GoodIn zAll (wsV RX 56 RX y_X_checkCard ws_X_checkCard) := zGl (fun w h => (List.mem_cons.mp h).elim (fun e => by rw [e]; exact wl_X_56) (wi_g_X_56 w)) (zGc wc_X_checkCard)
theorem wl_X_59 : Cond.methodLink RX 59 y_pop ∈ zAll := by decide +kernel
theorem wi_g_X_59 : ∀ w ∈ ([.static y_pop, .initialized RI] : List Cond), w ∈ zAll := by decide +kernel
theorem g_X_59 : GoodIn zAll (va_wsS RX 59 y_pop ws_pop) := zGl (fun w h => (List.mem_cons.mp h).elim (fun e => by rw [e]; exact wl_X_59) (wi_g_X_59 w)) (zGc wc_pop)
theorem wl_X_64 : Cond.methodLink RX 64 y_X_cardCount ∈ zAll := by decide +kernel
theorem wi_g_X_64 : ∀ w ∈ ([.instanceMethod y_X_cardCount, .selects RX y_X_cardCount y_X_cardCount, .initialized RX] : List Cond), w ∈ zAll := by decide +kernel
theorem g_X_64 : GoodIn zAll (wsV RX 64 RX y_X_cardCount ws_X_cardCount) := zGl (fun w h => (List.mem_cons.mp h).elim (fun e => by rw [e]; exact wl_X_64) (wi_g_X_64 w)) (zGc wc_X_cardCount)
theorem wl_X_68 : Cond.methodLink RX 68 y_X_outermostSize ∈ zAll := by decide +kernel
theorem wi_g_X_68 : ∀ w ∈ ([.instanceMethod y_X_outermostSize, .selects RX y_X_outermostSize y_X_outermostSize, .initialized RX] : List Cond), w ∈ zAll := by decide +kernel
theorem g_X_68 : GoodIn zAll (wsV RX 68 RX y_X_outermostSize ws_X_outermostSize) := zGl (fun w h => (List.mem_cons.mp h).elim (fun e => by rw [e]; exact wl_X_68) (wi_g_X_68 w)) (zGc wc_X_outermostSize)
theorem wl_X_78 : Cond.methodLink RX 78 y_fill ∈ zAll := by decide +kernel
theorem wi_g_X_78 : ∀ w ∈ ([.static y_fill, .initialized RA] : List Cond), w ∈ zAll := by decide +kernel
theorem g_X_78 : GoodIn zAll (va_wsS RX 78 y_fill ws_fill) := zGl (fun w h => (List.mem_cons.mp h).elim (fun e => by rw [e]; exact wl_X_78) (wi_g_X_78 w)) (zGc wc_fill)
theorem wl_X_84 : Cond.methodLink RX 84 y_nlz ∈ zAll := by decide +kernel
theorem wi_g_X_84 : ∀ w ∈ ([.static y_nlz, .initialized RI] : List Cond), w ∈ zAll := by decide +kernel
theorem g_X_84 : GoodIn zAll (va_wsS RX 84 y_nlz ws_nlz) := zGl (fun w h => (List.mem_cons.mp h).elim (fun e => by rw [e]; exact wl_X_84) (wi_g_X_84 w)) (zGc wc_nlz)
theorem wl_X_87 : Cond.methodLink RX 87 y_X_firstBeginFrom ∈ zAll := by decide +kernel
theorem wi_g_X_87 : ∀ w ∈ ([.instanceMethod y_X_firstBeginFrom, .selects RX y_X_firstBeginFrom y_X_firstBeginFrom, .initialized RX] : List Cond), w ∈ zAll := by decide +kernel
theorem g_X_87 : GoodIn zAll (wsV RX 87 RX y_X_firstBeginFrom ws_X_firstBeginFrom) := zGl (fun w h => (List.mem_cons.mp h).elim (fun e => by rw [e]; exact wl_X_87) (wi_g_X_87 w)) (zGc wc_X_firstBeginFrom)
theorem wl_X_90 : Cond.methodLink RX 90 y_ntz ∈ zAll := by decide +kernel
theorem wi_g_X_90 : ∀ w ∈ ([.static y_ntz, .initialized RI] : List Cond), w ∈ zAll := by decide +kernel
theorem g_X_90 : GoodIn zAll (va_wsS RX 90 y_ntz ws_ntz) := zGl (fun w h => (List.mem_cons.mp h).elim (fun e => by rw [e]; exact wl_X_90) (wi_g_X_90 w)) (zGc wc_ntz)
theorem wl_X_93 : Cond.methodLink RX 93 y_X_bitOf ∈ zAll := by decide +kernel
theorem wi_g_X_93 : ∀ w ∈ ([.static y_X_bitOf, .initialized RX] : List Cond), w ∈ zAll := by decide +kernel
theorem g_X_93 : GoodIn zAll (va_wsS RX 93 y_X_bitOf ws_X_bitOf) := zGl (fun w h => (List.mem_cons.mp h).elim (fun e => by rw [e]; exact wl_X_93) (wi_g_X_93 w)) (zGc wc_X_bitOf)
theorem wl_X_96 : Cond.methodLink RX 96 y_X_tellStarts ∈ zAll := by decide +kernel
theorem wi_g_X_96 : ∀ w ∈ ([.instanceMethod y_X_tellStarts, .selects RX y_X_tellStarts y_X_tellStarts, .initialized RX] : List Cond), w ∈ zAll := by decide +kernel
theorem g_X_96 : GoodIn zAll (wsV RX 96 RX y_X_tellStarts ws_X_tellStarts) := zGl (fun w h => (List.mem_cons.mp h).elim (fun e => by rw [e]; exact wl_X_96) (wi_g_X_96 w)) (zGc wc_X_tellStarts)
theorem wl_X_99 : Cond.methodLink RX 99 Lib.Math.max.name ∈ zAll := by decide +kernel
theorem wst_max : Cond.static Lib.Math.max.name ∈ zAll := by decide +kernel
theorem win_Math : Cond.initialized "java/lang/Math" ∈ zAll := by decide +kernel
theorem wc_max : Cond.code Lib.Math.max.name Lib.Math.max.code 2 (some .int) ∈ zAll := by decide +kernel
theorem wl_X_105 : Cond.methodLink RX 105 Lib.Math.min.name ∈ zAll := by decide +kernel
theorem wst_min : Cond.static Lib.Math.min.name ∈ zAll := by decide +kernel
theorem wc_min : Cond.code Lib.Math.min.name Lib.Math.min.code 2 (some .int) ∈ zAll := by decide +kernel
theorem wl_M_1 : Cond.methodLink RM 1 objectInit ∈ zAll := by decide +kernel
theorem wl_M_7 : Cond.fieldLink RM 7 "StartTableModel" "cells" "I" ∈ zAll := by decide +kernel
theorem wl_M_13 : Cond.fieldLink RM 13 "StartTableModel" "begins" "[Z" ∈ zAll := by decide +kernel
theorem wl_M_17 : Cond.fieldLink RM 17 "StartTableModel" "thrown" "I" ∈ zAll := by decide +kernel
theorem wl_M_20 : Cond.methodLink RM 20 y_M_cards ∈ zAll := by decide +kernel
theorem wi_g_M_20 : ∀ w ∈ ([.instanceMethod y_M_cards, .selects RM y_M_cards y_M_cards, .initialized RM] : List Cond), w ∈ zAll := by decide +kernel
theorem g_M_20 : GoodIn zAll (wsV RM 20 RM y_M_cards ws_M_cards) := zGl (fun w h => (List.mem_cons.mp h).elim (fun e => by rw [e]; exact wl_M_20) (wi_g_M_20 w)) (zGc wc_M_cards)
theorem wl_M_24 : Cond.methodLink RM 24 y_M_goes ∈ zAll := by decide +kernel
theorem wi_g_M_24 : ∀ w ∈ ([.instanceMethod y_M_goes, .selects RM y_M_goes y_M_goes, .initialized RM] : List Cond), w ∈ zAll := by decide +kernel
theorem g_M_24 : GoodIn zAll (wsV RM 24 RM y_M_goes ws_M_goes) := zGl (fun w h => (List.mem_cons.mp h).elim (fun e => by rw [e]; exact wl_M_24) (wi_g_M_24 w)) (zGc wc_M_goes)
theorem wl_M_28 : Cond.methodLink RM 28 y_M_isCell ∈ zAll := by decide +kernel
theorem wi_g_M_28 : ∀ w ∈ ([.instanceMethod y_M_isCell, .selects RM y_M_isCell y_M_isCell, .initialized RM] : List Cond), w ∈ zAll := by decide +kernel
theorem g_M_28 : GoodIn zAll (wsV RM 28 RM y_M_isCell ws_M_isCell) := zGl (fun w h => (List.mem_cons.mp h).elim (fun e => by rw [e]; exact wl_M_28) (wi_g_M_28 w)) (zGc wc_M_isCell)
theorem wl_M_32 : Cond.methodLink RM 32 y_M_from ∈ zAll := by decide +kernel
theorem wi_g_M_32 : ∀ w ∈ ([.instanceMethod y_M_from, .selects RM y_M_from y_M_from, .initialized RM] : List Cond), w ∈ zAll := by decide +kernel
theorem g_M_32 : GoodIn zAll (wsV RM 32 RM y_M_from ws_M_from) := zGl (fun w h => (List.mem_cons.mp h).elim (fun e => by rw [e]; exact wl_M_32) (wi_g_M_32 w)) (zGc wc_M_from)
theorem wl_M_36 : Cond.methodLink RM 36 y_M_behind ∈ zAll := by decide +kernel
theorem wi_g_M_36 : ∀ w ∈ ([.instanceMethod y_M_behind, .selects RM y_M_behind y_M_behind, .initialized RM] : List Cond), w ∈ zAll := by decide +kernel
theorem g_M_36 : GoodIn zAll (wsV RM 36 RM y_M_behind ws_M_behind) := zGl (fun w h => (List.mem_cons.mp h).elim (fun e => by rw [e]; exact wl_M_36) (wi_g_M_36 w)) (zGc wc_M_behind)
theorem wl_M_39 : Cond.methodLink RM 39 y_M_pieces ∈ zAll := by decide +kernel
theorem wi_g_M_39 : ∀ w ∈ ([.instanceMethod y_M_pieces, .selects RM y_M_pieces y_M_pieces, .initialized RM] : List Cond), w ∈ zAll := by decide +kernel
theorem g_M_39 : GoodIn zAll (wsV RM 39 RM y_M_pieces ws_M_pieces) := zGl (fun w h => (List.mem_cons.mp h).elim (fun e => by rw [e]; exact wl_M_39) (wi_g_M_39 w)) (zGc wc_M_pieces)
theorem wl_M_42 : Cond.methodLink RM 42 y_M_isCard ∈ zAll := by decide +kernel
theorem wi_g_M_42 : ∀ w ∈ ([.instanceMethod y_M_isCard, .selects RM y_M_isCard y_M_isCard, .initialized RM] : List Cond), w ∈ zAll := by decide +kernel
theorem g_M_42 : GoodIn zAll (wsV RM 42 RM y_M_isCard ws_M_isCard) := zGl (fun w h => (List.mem_cons.mp h).elim (fun e => by rw [e]; exact wl_M_42) (wi_g_M_42 w)) (zGc wc_M_isCard)
theorem wl_L_7 : Cond.methodLink RL 7 y_X_space ∈ zAll := by decide +kernel
theorem wi_g_L_7 : ∀ w ∈ ([.instanceMethod y_X_space, .selects RX y_X_space y_X_space, .initialized RX] : List Cond), w ∈ zAll := by decide +kernel
theorem g_L_7 : GoodIn zAll (wsV RL 7 RX y_X_space ws_X_space) := zGl (fun w h => (List.mem_cons.mp h).elim (fun e => by rw [e]; exact wl_L_7) (wi_g_L_7 w)) (zGc wc_X_space)
theorem wl_L_15 : Cond.methodLink RL 15 y_X_cut ∈ zAll := by decide +kernel
theorem wi_g_L_15 : ∀ w ∈ ([.instanceMethod y_X_cut, .selects RX y_X_cut y_X_cut, .initialized RX] : List Cond), w ∈ zAll := by decide +kernel
theorem g_L_15 : GoodIn zAll (wsV RL 15 RX y_X_cut ws_X_cut) := zGl (fun w h => (List.mem_cons.mp h).elim (fun e => by rw [e]; exact wl_L_15) (wi_g_L_15 w)) (zGc wc_X_cut)
theorem wl_L_20 : Cond.methodLink RL 20 y_X_join ∈ zAll := by decide +kernel
theorem wi_g_L_20 : ∀ w ∈ ([.instanceMethod y_X_join, .selects RX y_X_join y_X_join, .initialized RX] : List Cond), w ∈ zAll := by decide +kernel
theorem g_L_20 : GoodIn zAll (wsV RL 20 RX y_X_join ws_X_join) := zGl (fun w h => (List.mem_cons.mp h).elim (fun e => by rw [e]; exact wl_L_20) (wi_g_L_20 w)) (zGc wc_X_join)
theorem wl_L_23 : Cond.methodLink RL 23 y_X_make ∈ zAll := by decide +kernel
theorem wi_g_L_23 : ∀ w ∈ ([.instanceMethod y_X_make, .selects RX y_X_make y_X_make, .initialized RX] : List Cond), w ∈ zAll := by decide +kernel
theorem g_L_23 : GoodIn zAll (wsV RL 23 RX y_X_make ws_X_make) := zGl (fun w h => (List.mem_cons.mp h).elim (fun e => by rw [e]; exact wl_L_23) (wi_g_L_23 w)) (zGc wc_X_make)
theorem wl_L_27 : Cond.methodLink RL 27 y_X_begin ∈ zAll := by decide +kernel
theorem wi_g_L_27 : ∀ w ∈ ([.instanceMethod y_X_begin, .selects RX y_X_begin y_X_begin, .initialized RX] : List Cond), w ∈ zAll := by decide +kernel
theorem g_L_27 : GoodIn zAll (wsV RL 27 RX y_X_begin ws_X_begin) := zGl (fun w h => (List.mem_cons.mp h).elim (fun e => by rw [e]; exact wl_L_27) (wi_g_L_27 w)) (zGc wc_X_begin)
theorem wl_L_30 : Cond.methodLink RL 30 y_X_size ∈ zAll := by decide +kernel
theorem wi_g_L_30 : ∀ w ∈ ([.instanceMethod y_X_size, .selects RX y_X_size y_X_size, .initialized RX] : List Cond), w ∈ zAll := by decide +kernel
theorem g_L_30 : GoodIn zAll (wsV RL 30 RX y_X_size ws_X_size) := zGl (fun w h => (List.mem_cons.mp h).elim (fun e => by rw [e]; exact wl_L_30) (wi_g_L_30 w)) (zGc wc_X_size)
theorem wl_L_33 : Cond.methodLink RL 33 y_X_start ∈ zAll := by decide +kernel
theorem wi_g_L_33 : ∀ w ∈ ([.instanceMethod y_X_start, .selects RX y_X_start y_X_start, .initialized RX] : List Cond), w ∈ zAll := by decide +kernel
theorem g_L_33 : GoodIn zAll (wsV RL 33 RX y_X_start ws_X_start) := zGl (fun w h => (List.mem_cons.mp h).elim (fun e => by rw [e]; exact wl_L_33) (wi_g_L_33 w)) (zGc wc_X_start)
theorem wl_L_36 : Cond.methodLink RL 36 y_X_begins ∈ zAll := by decide +kernel
theorem wi_g_L_36 : ∀ w ∈ ([.instanceMethod y_X_begins, .selects RX y_X_begins y_X_begins, .initialized RX] : List Cond), w ∈ zAll := by decide +kernel
theorem g_L_36 : GoodIn zAll (wsV RL 36 RX y_X_begins ws_X_begins) := zGl (fun w h => (List.mem_cons.mp h).elim (fun e => by rw [e]; exact wl_L_36) (wi_g_L_36 w)) (zGc wc_X_begins)
theorem wl_L_39 : Cond.methodLink RL 39 y_X_count ∈ zAll := by decide +kernel
theorem wi_g_L_39 : ∀ w ∈ ([.instanceMethod y_X_count, .selects RX y_X_count y_X_count, .initialized RX] : List Cond), w ∈ zAll := by decide +kernel
theorem g_L_39 : GoodIn zAll (wsV RL 39 RX y_X_count ws_X_count) := zGl (fun w h => (List.mem_cons.mp h).elim (fun e => by rw [e]; exact wl_L_39) (wi_g_L_39 w)) (zGc wc_X_count)
theorem wl_L_8 : Cond.classLink RL 8 RX ∈ zAll := by decide +kernel
theorem win_X : Cond.initialized RX ∈ zAll := by decide +kernel
theorem wio_X : Cond.instantiable RX 4 ∈ zAll := by decide +kernel
theorem wl_L_42 : Cond.methodLink RL 42 y_X_init ∈ zAll := by decide +kernel
theorem g_L_42 : GoodIn zAll ws_X_init := zGc wc_X_init
theorem wim_X_init : Cond.instanceMethod y_X_init ∈ zAll := by decide +kernel
theorem wl_L_43 : Cond.classLink RL 43 RM ∈ zAll := by decide +kernel
theorem win_M : Cond.initialized RM ∈ zAll := by decide +kernel
theorem wio_M : Cond.instantiable RM 3 ∈ zAll := by decide +kernel
theorem wl_L_45 : Cond.methodLink RL 45 y_M_init ∈ zAll := by decide +kernel
theorem g_L_45 : GoodIn zAll ws_M_init := zGc wc_M_init
theorem wim_M_init : Cond.instanceMethod y_M_init ∈ zAll := by decide +kernel
theorem wl_L_46 : Cond.methodLink RL 46 y_L_space ∈ zAll := by decide +kernel
theorem wi_g_L_46 : ∀ w ∈ ([.static y_L_space, .initialized RL] : List Cond), w ∈ zAll := by decide +kernel
theorem g_L_46 : GoodIn zAll (va_wsS RL 46 y_L_space ws_L_space) := zGl (fun w h => (List.mem_cons.mp h).elim (fun e => by rw [e]; exact wl_L_46) (wi_g_L_46 w)) (zGw wc_L_space)
theorem wl_L_51 : Cond.methodLink RL 51 y_M_space ∈ zAll := by decide +kernel
theorem wi_g_L_51 : ∀ w ∈ ([.instanceMethod y_M_space, .selects RM y_M_space y_M_space, .initialized RM] : List Cond), w ∈ zAll := by decide +kernel
theorem g_L_51 : GoodIn zAll (wsV RL 51 RM y_M_space ws_M_space) := zGl (fun w h => (List.mem_cons.mp h).elim (fun e => by rw [e]; exact wl_L_51) (wi_g_L_51 w)) (zGc wc_M_space)
theorem wl_L_52 : Cond.methodLink RL 52 y_M_thrown ∈ zAll := by decide +kernel
theorem wi_g_L_52 : ∀ w ∈ ([.instanceMethod y_M_thrown, .selects RM y_M_thrown y_M_thrown, .initialized RM] : List Cond), w ∈ zAll := by decide +kernel
theorem g_L_52 : GoodIn zAll (wsV RL 52 RM y_M_thrown ws_M_thrown) := zGl (fun w h => (List.mem_cons.mp h).elim (fun e => by rw [e]; exact wl_L_52) (wi_g_L_52 w)) (zGc wc_M_thrown)
theorem wl_L_56 : Cond.methodLink RL 56 y_L_cut ∈ zAll := by decide +kernel
theorem wi_g_L_56 : ∀ w ∈ ([.static y_L_cut, .initialized RL] : List Cond), w ∈ zAll := by decide +kernel
theorem g_L_56 : GoodIn zAll (va_wsS RL 56 y_L_cut ws_L_cut) := zGl (fun w h => (List.mem_cons.mp h).elim (fun e => by rw [e]; exact wl_L_56) (wi_g_L_56 w)) (zGw wc_L_cut)
theorem wl_L_58 : Cond.methodLink RL 58 y_M_cut ∈ zAll := by decide +kernel
theorem wi_g_L_58 : ∀ w ∈ ([.instanceMethod y_M_cut, .selects RM y_M_cut y_M_cut, .initialized RM] : List Cond), w ∈ zAll := by decide +kernel
theorem g_L_58 : GoodIn zAll (wsV RL 58 RM y_M_cut ws_M_cut) := zGl (fun w h => (List.mem_cons.mp h).elim (fun e => by rw [e]; exact wl_L_58) (wi_g_L_58 w)) (zGc wc_M_cut)
theorem wl_L_59 : Cond.methodLink RL 59 y_L_join ∈ zAll := by decide +kernel
theorem wi_g_L_59 : ∀ w ∈ ([.static y_L_join, .initialized RL] : List Cond), w ∈ zAll := by decide +kernel
theorem g_L_59 : GoodIn zAll (va_wsS RL 59 y_L_join ws_L_join) := zGl (fun w h => (List.mem_cons.mp h).elim (fun e => by rw [e]; exact wl_L_59) (wi_g_L_59 w)) (zGw wc_L_join)
theorem wl_L_61 : Cond.methodLink RL 61 y_M_join ∈ zAll := by decide +kernel
theorem wi_g_L_61 : ∀ w ∈ ([.instanceMethod y_M_join, .selects RM y_M_join y_M_join, .initialized RM] : List Cond), w ∈ zAll := by decide +kernel
theorem g_L_61 : GoodIn zAll (wsV RL 61 RM y_M_join ws_M_join) := zGl (fun w h => (List.mem_cons.mp h).elim (fun e => by rw [e]; exact wl_L_61) (wi_g_L_61 w)) (zGc wc_M_join)
theorem wl_L_62 : Cond.methodLink RL 62 y_L_make ∈ zAll := by decide +kernel
theorem wi_g_L_62 : ∀ w ∈ ([.static y_L_make, .initialized RL] : List Cond), w ∈ zAll := by decide +kernel
theorem g_L_62 : GoodIn zAll (va_wsS RL 62 y_L_make ws_L_make) := zGl (fun w h => (List.mem_cons.mp h).elim (fun e => by rw [e]; exact wl_L_62) (wi_g_L_62 w)) (zGw wc_L_make)
theorem wl_L_65 : Cond.methodLink RL 65 y_M_make ∈ zAll := by decide +kernel
theorem wi_g_L_65 : ∀ w ∈ ([.instanceMethod y_M_make, .selects RM y_M_make y_M_make, .initialized RM] : List Cond), w ∈ zAll := by decide +kernel
theorem g_L_65 : GoodIn zAll (wsV RL 65 RM y_M_make ws_M_make) := zGl (fun w h => (List.mem_cons.mp h).elim (fun e => by rw [e]; exact wl_L_65) (wi_g_L_65 w)) (zGc wc_M_make)
theorem wl_L_66 : Cond.methodLink RL 66 y_L_begin ∈ zAll := by decide +kernel
theorem wi_g_L_66 : ∀ w ∈ ([.static y_L_begin, .initialized RL] : List Cond), w ∈ zAll := by decide +kernel
theorem g_L_66 : GoodIn zAll (va_wsS RL 66 y_L_begin ws_L_begin) := zGl (fun w h => (List.mem_cons.mp h).elim (fun e => by rw [e]; exact wl_L_66) (wi_g_L_66 w)) (zGw wc_L_begin)
theorem wl_L_68 : Cond.methodLink RL 68 y_M_begin ∈ zAll := by decide +kernel
theorem wi_g_L_68 : ∀ w ∈ ([.instanceMethod y_M_begin, .selects RM y_M_begin y_M_begin, .initialized RM] : List Cond), w ∈ zAll := by decide +kernel
theorem g_L_68 : GoodIn zAll (wsV RL 68 RM y_M_begin ws_M_begin) := zGl (fun w h => (List.mem_cons.mp h).elim (fun e => by rw [e]; exact wl_L_68) (wi_g_L_68 w)) (zGc wc_M_begin)
theorem wl_L_69 : Cond.methodLink RL 69 y_L_size ∈ zAll := by decide +kernel
theorem wi_g_L_69 : ∀ w ∈ ([.static y_L_size, .initialized RL] : List Cond), w ∈ zAll := by decide +kernel
theorem g_L_69 : GoodIn zAll (va_wsS RL 69 y_L_size ws_L_size) := zGl (fun w h => (List.mem_cons.mp h).elim (fun e => by rw [e]; exact wl_L_69) (wi_g_L_69 w)) (zGw wc_L_size)
theorem wl_L_71 : Cond.methodLink RL 71 y_M_size ∈ zAll := by decide +kernel
theorem wi_g_L_71 : ∀ w ∈ ([.instanceMethod y_M_size, .selects RM y_M_size y_M_size, .initialized RM] : List Cond), w ∈ zAll := by decide +kernel
theorem g_L_71 : GoodIn zAll (wsV RL 71 RM y_M_size ws_M_size) := zGl (fun w h => (List.mem_cons.mp h).elim (fun e => by rw [e]; exact wl_L_71) (wi_g_L_71 w)) (zGc wc_M_size)
theorem wl_L_72 : Cond.methodLink RL 72 y_L_start ∈ zAll := by decide +kernel
theorem wi_g_L_72 : ∀ w ∈ ([.static y_L_start, .initialized RL] : List Cond), w ∈ zAll := by decide +kernel
theorem g_L_72 : GoodIn zAll (va_wsS RL 72 y_L_start ws_L_start) := zGl (fun w h => (List.mem_cons.mp h).elim (fun e => by rw [e]; exact wl_L_72) (wi_g_L_72 w)) (zGw wc_L_start)
theorem wl_L_74 : Cond.methodLink RL 74 y_M_start ∈ zAll := by decide +kernel
theorem wi_g_L_74 : ∀ w ∈ ([.instanceMethod y_M_start, .selects RM y_M_start y_M_start, .initialized RM] : List Cond), w ∈ zAll := by decide +kernel
theorem g_L_74 : GoodIn zAll (wsV RL 74 RM y_M_start ws_M_start) := zGl (fun w h => (List.mem_cons.mp h).elim (fun e => by rw [e]; exact wl_L_74) (wi_g_L_74 w)) (zGc wc_M_start)
theorem wl_L_75 : Cond.methodLink RL 75 y_L_begins ∈ zAll := by decide +kernel
theorem wi_g_L_75 : ∀ w ∈ ([.static y_L_begins, .initialized RL] : List Cond), w ∈ zAll := by decide +kernel
theorem g_L_75 : GoodIn zAll (va_wsS RL 75 y_L_begins ws_L_begins) := zGl (fun w h => (List.mem_cons.mp h).elim (fun e => by rw [e]; exact wl_L_75) (wi_g_L_75 w)) (zGw wc_L_begins)
theorem wl_L_77 : Cond.methodLink RL 77 y_M_begins ∈ zAll := by decide +kernel
theorem wi_g_L_77 : ∀ w ∈ ([.instanceMethod y_M_begins, .selects RM y_M_begins y_M_begins, .initialized RM] : List Cond), w ∈ zAll := by decide +kernel
theorem g_L_77 : GoodIn zAll (wsV RL 77 RM y_M_begins ws_M_begins) := zGl (fun w h => (List.mem_cons.mp h).elim (fun e => by rw [e]; exact wl_L_77) (wi_g_L_77 w)) (zGc wc_M_begins)
theorem wl_L_78 : Cond.methodLink RL 78 y_L_count ∈ zAll := by decide +kernel
theorem wi_g_L_78 : ∀ w ∈ ([.static y_L_count, .initialized RL] : List Cond), w ∈ zAll := by decide +kernel
theorem g_L_78 : GoodIn zAll (va_wsS RL 78 y_L_count ws_L_count) := zGl (fun w h => (List.mem_cons.mp h).elim (fun e => by rw [e]; exact wl_L_78) (wi_g_L_78 w)) (zGw wc_L_count)
theorem wl_L_80 : Cond.methodLink RL 80 y_M_count ∈ zAll := by decide +kernel
theorem wi_g_L_80 : ∀ w ∈ ([.instanceMethod y_M_count, .selects RM y_M_count y_M_count, .initialized RM] : List Cond), w ∈ zAll := by decide +kernel
theorem g_L_80 : GoodIn zAll (wsV RL 80 RM y_M_count ws_M_count) := zGl (fun w h => (List.mem_cons.mp h).elim (fun e => by rw [e]; exact wl_L_80) (wi_g_L_80 w)) (zGc wc_M_count)
theorem wac_int : Cond.arrayClass .int ∈ zAll := by decide +kernel
theorem wac_long : Cond.arrayClass .long ∈ zAll := by decide +kernel
theorem wac_bool : Cond.arrayClass .boolean ∈ zAll := by decide +kernel
theorem wk_264 : Cond.constant RI 264 65536 ∈ zAll := by decide +kernel
theorem wk_265 : Cond.constant RI 265 1431655765 ∈ zAll := by decide +kernel
theorem wk_266 : Cond.constant RI 266 858993459 ∈ zAll := by decide +kernel
theorem wk_267 : Cond.constant RI 267 252645135 ∈ zAll := by decide +kernel
def zBad : List Cond := [.castable "java/lang/IllegalArgumentException" "java/lang/IllegalArgumentException", .castable "java/lang/IndexOutOfBoundsException" "java/lang/IndexOutOfBoundsException", .declares ⟨"java/lang/RuntimeException", "<init>", "(Ljava/lang/String;)V"⟩, .declares ⟨"java/lang/Exception", "<init>", "(Ljava/lang/String;)V"⟩, .declares ⟨"java/lang/Throwable", "<init>", "(Ljava/lang/String;)V"⟩]
theorem zBad_on : ∀ w ∈ zBad, w.onTables = true := by decide +kernel
theorem wx_IllegalArgumentException : ∀ w ∈ (vx_atS RX 24 "java/lang/IllegalArgumentException" ["java/lang/RuntimeException", "java/lang/Exception"]).filter goodWord, w ∈ zAll := by decide +kernel
theorem wb_IllegalArgumentException : ∀ w ∈ (vx_atS RX 24 "java/lang/IllegalArgumentException" ["java/lang/RuntimeException", "java/lang/Exception"]).filter (fun w => !goodWord w), w ∈ zBad := by decide +kernel
theorem wg_IllegalArgumentException : ∀ w ∈ Cond.classLink RX 20 "java/lang/IllegalArgumentException" :: Cond.initialized "java/lang/IllegalArgumentException" :: vx_atS RX 24 "java/lang/IllegalArgumentException" ["java/lang/RuntimeException", "java/lang/Exception"], vx_ot w = true := by decide +kernel
theorem wx_IndexOutOfBoundsException : ∀ w ∈ (vx_atS RX 52 "java/lang/IndexOutOfBoundsException" ["java/lang/RuntimeException", "java/lang/Exception"]).filter goodWord, w ∈ zAll := by decide +kernel
theorem wb_IndexOutOfBoundsException : ∀ w ∈ (vx_atS RX 52 "java/lang/IndexOutOfBoundsException" ["java/lang/RuntimeException", "java/lang/Exception"]).filter (fun w => !goodWord w), w ∈ zBad := by decide +kernel
theorem wg_IndexOutOfBoundsException : ∀ w ∈ Cond.classLink RX 48 "java/lang/IndexOutOfBoundsException" :: Cond.initialized "java/lang/IndexOutOfBoundsException" :: vx_atS RX 52 "java/lang/IndexOutOfBoundsException" ["java/lang/RuntimeException", "java/lang/Exception"], vx_ot w = true := by decide +kernel
def zTexts : List (String × Nat × String) := [(RX, 22, "there are 1 to 16384 cells"), (RX, 50, "no such end of a piece"), (RX, 72, "there is no such count"), (RX, 74, "no such cell"), (RX, 76, "no such card")]
abbrev wX (h0 h1 h2 : Nat) (cA cB : ClassId) (M S : Nat → Int32) (n p : Int32) : va_W := [(h0, .inr (0, [.ref h1, .ref h2, .int n, .int p])), (h1, .inl (cA, 512, .inl M)), (h2, .inl (cB, 512, .inl S))]
abbrev tX (cA cB : ClassId) : List (ClassId × FieldType) := [(cA, .int), (cB, .int)]
