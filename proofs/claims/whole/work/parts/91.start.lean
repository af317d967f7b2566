/-! ===== the fresh objects: where the constructors' cells stand in the tables ===== -/
def permL : List Nat := [3, 4, 6, 7, 9, 10, 12, 13, 15, 16, 18, 19, 21, 22, 24, 25, 27, 28, 29, 31, 81, 71, 76, 72, 77, 134, 135, 143, 146, 150, 147, 151, 148, 152, 203, 204, 205, 206, 207, 208, 210, 84, 85, 86, 87, 88, 89, 90, 91, 92, 93, 94, 95, 96, 97, 98, 99, 100, 101, 102, 103, 104, 105, 106, 107, 108, 110, 111, 112, 113, 114, 115, 116, 117, 118, 119, 120, 121, 122, 123, 124, 125, 126, 127, 128, 129, 130, 131, 132, 133, 138, 139, 140, 141, 142, 154, 155, 156, 157, 158, 159, 160, 161, 162, 163, 164, 165, 166, 167, 168, 169, 170, 171, 172, 173, 174, 175, 176, 177, 179, 180, 181, 182, 183, 184, 185, 186, 187, 188, 189, 190, 191, 192, 193, 194, 195, 196, 197, 198, 199, 200, 201, 202, 209, 73, 78, 74, 79, 1, 33, 83, 109, 137, 153, 178, 0, 2, 5, 8, 11, 14, 17, 20, 23, 26, 30, 32, 34, 38, 42, 46, 50, 54, 58, 62, 66, 35, 36, 37, 39, 40, 41, 43, 44, 45, 47, 48, 49, 51, 52, 53, 55, 56, 57, 59, 60, 61, 63, 64, 65, 67, 68, 69, 70, 75, 80, 82, 136, 145, 149, 144]
def ipermL : List Nat := [155, 148, 156, 0, 1, 157, 2, 3, 158, 4, 5, 159, 6, 7, 160, 8, 9, 161, 10, 11, 162, 12, 13, 163, 14, 15, 164, 16, 17, 18, 165, 19, 166, 149, 167, 176, 177, 178, 168, 179, 180, 181, 169, 182, 183, 184, 170, 185, 186, 187, 171, 188, 189, 190, 172, 191, 192, 193, 173, 194, 195, 196, 174, 197, 198, 199, 175, 200, 201, 202, 203, 21, 23, 144, 146, 204, 22, 24, 145, 147, 205, 20, 206, 150, 41, 42, 43, 44, 45, 46, 47, 48, 49, 50, 51, 52, 53, 54, 55, 56, 57, 58, 59, 60, 61, 62, 63, 64, 65, 151, 66, 67, 68, 69, 70, 71, 72, 73, 74, 75, 76, 77, 78, 79, 80, 81, 82, 83, 84, 85, 86, 87, 88, 89, 25, 26, 207, 152, 90, 91, 92, 93, 94, 27, 210, 208, 28, 30, 32, 209, 29, 31, 33, 153, 95, 96, 97, 98, 99, 100, 101, 102, 103, 104, 105, 106, 107, 108, 109, 110, 111, 112, 113, 114, 115, 116, 117, 118, 154, 119, 120, 121, 122, 123, 124, 125, 126, 127, 128, 129, 130, 131, 132, 133, 134, 135, 136, 137, 138, 139, 140, 141, 142, 34, 35, 36, 37, 38, 39, 143, 40]
theorem perm_i : ∀ k : Fin 211, ipermL.getD (permL.getD k.1 0) 0 = k.1 ∧ permL.getD k.1 0 < 211 := by decide +kernel
def sX0 : SG := (fun k i => if k = 18 then (if i < 8 then 1 else 0) else 0, fun _ _ => 0, fun k i => if k = 155 then (if i = 7 then 1 else 0) else 0)
def sM0 : SG := (fun k i => if k = 4 then upd (upd (upd (upd (upd (upd (upd (upd (fun _ => 0) 0 1) 1 1) 2 1) 3 1) 4 1) 5 1) 6 1) 7 1 i else if k = 0 then (if i = 21 then -1 else 0) else 0, fun _ _ => 0, fun _ _ => 0)
def mkX (D : va_G) (cs : Nat → ClassId) (n : Nat) (st : Nat → Nat) : ZT := (D.1, D.2, cs, fun k => if k < 211 then n + permL.getD k 0 else st k)
def mkM (D : va_G) (cs : Nat → ClassId) (n : Nat) (st : Nat → Nat) : ZT := (D.1, D.2, cs, fun k => if k < 24 then n + k else st k)
def mxP (D : va_G) (cs : Nat → ClassId) (n : Nat) (st : Nat → Nat) (hp : Nat → va_E) (k : Nat) : Prop := hpc_X11_init (mkX D cs n st) n hp (permL.getD k 0) = ws_h (tX (mkX D cs n st)) sX0 k
def mmP (D : va_G) (cs : Nat → ClassId) (n : Nat) (st : Nat → Nat) (hp : Nat → va_E) (k : Nat) : Prop := hpc_X12_init (mkM D cs n st) n hp k = ws_h (tM (mkM D cs n st)) sM0 k
set_option maxRecDepth 100000 in
theorem mx_0 (D : va_G) (cs : Nat → ClassId) (n : Nat) (st : Nat → Nat) (hp : Nat → va_E) : mxP D cs n st hp 0 := rfl
set_option maxRecDepth 100000 in
theorem mx_1 (D : va_G) (cs : Nat → ClassId) (n : Nat) (st : Nat → Nat) (hp : Nat → va_E) : mxP D cs n st hp 1 := rfl
set_option maxRecDepth 100000 in
theorem mx_2 (D : va_G) (cs : Nat → ClassId) (n : Nat) (st : Nat → Nat) (hp : Nat → va_E) : mxP D cs n st hp 2 := rfl
set_option maxRecDepth 100000 in
theorem mx_3 (D : va_G) (cs : Nat → ClassId) (n : Nat) (st : Nat → Nat) (hp : Nat → va_E) : mxP D cs n st hp 3 := rfl
set_option maxRecDepth 100000 in
theorem mx_4 (D : va_G) (cs : Nat → ClassId) (n : Nat) (st : Nat → Nat) (hp : Nat → va_E) : mxP D cs n st hp 4 := rfl
set_option maxRecDepth 100000 in
theorem mx_5 (D : va_G) (cs : Nat → ClassId) (n : Nat) (st : Nat → Nat) (hp : Nat → va_E) : mxP D cs n st hp 5 := rfl
set_option maxRecDepth 100000 in
theorem mx_6 (D : va_G) (cs : Nat → ClassId) (n : Nat) (st : Nat → Nat) (hp : Nat → va_E) : mxP D cs n st hp 6 := rfl
set_option maxRecDepth 100000 in
theorem mx_7 (D : va_G) (cs : Nat → ClassId) (n : Nat) (st : Nat → Nat) (hp : Nat → va_E) : mxP D cs n st hp 7 := rfl
set_option maxRecDepth 100000 in
theorem mx_8 (D : va_G) (cs : Nat → ClassId) (n : Nat) (st : Nat → Nat) (hp : Nat → va_E) : mxP D cs n st hp 8 := rfl
set_option maxRecDepth 100000 in
theorem mx_9 (D : va_G) (cs : Nat → ClassId) (n : Nat) (st : Nat → Nat) (hp : Nat → va_E) : mxP D cs n st hp 9 := rfl
set_option maxRecDepth 100000 in
theorem mx_10 (D : va_G) (cs : Nat → ClassId) (n : Nat) (st : Nat → Nat) (hp : Nat → va_E) : mxP D cs n st hp 10 := rfl
set_option maxRecDepth 100000 in
theorem mx_11 (D : va_G) (cs : Nat → ClassId) (n : Nat) (st : Nat → Nat) (hp : Nat → va_E) : mxP D cs n st hp 11 := rfl
set_option maxRecDepth 100000 in
theorem mx_12 (D : va_G) (cs : Nat → ClassId) (n : Nat) (st : Nat → Nat) (hp : Nat → va_E) : mxP D cs n st hp 12 := rfl
set_option maxRecDepth 100000 in
theorem mx_13 (D : va_G) (cs : Nat → ClassId) (n : Nat) (st : Nat → Nat) (hp : Nat → va_E) : mxP D cs n st hp 13 := rfl
set_option maxRecDepth 100000 in
theorem mx_14 (D : va_G) (cs : Nat → ClassId) (n : Nat) (st : Nat → Nat) (hp : Nat → va_E) : mxP D cs n st hp 14 := rfl
set_option maxRecDepth 100000 in
theorem mx_15 (D : va_G) (cs : Nat → ClassId) (n : Nat) (st : Nat → Nat) (hp : Nat → va_E) : mxP D cs n st hp 15 := rfl
set_option maxRecDepth 100000 in
theorem mx_16 (D : va_G) (cs : Nat → ClassId) (n : Nat) (st : Nat → Nat) (hp : Nat → va_E) : mxP D cs n st hp 16 := rfl
set_option maxRecDepth 100000 in
theorem mx_17 (D : va_G) (cs : Nat → ClassId) (n : Nat) (st : Nat → Nat) (hp : Nat → va_E) : mxP D cs n st hp 17 := rfl
set_option maxRecDepth 100000 in
theorem mx_18 (D : va_G) (cs : Nat → ClassId) (n : Nat) (st : Nat → Nat) (hp : Nat → va_E) : mxP D cs n st hp 18 := rfl
set_option maxRecDepth 100000 in
theorem mx_19 (D : va_G) (cs : Nat → ClassId) (n : Nat) (st : Nat → Nat) (hp : Nat → va_E) : mxP D cs n st hp 19 := rfl
set_option maxRecDepth 100000 in
theorem mx_20 (D : va_G) (cs : Nat → ClassId) (n : Nat) (st : Nat → Nat) (hp : Nat → va_E) : mxP D cs n st hp 20 := rfl
set_option maxRecDepth 100000 in
theorem mx_21 (D : va_G) (cs : Nat → ClassId) (n : Nat) (st : Nat → Nat) (hp : Nat → va_E) : mxP D cs n st hp 21 := rfl
set_option maxRecDepth 100000 in
theorem mx_22 (D : va_G) (cs : Nat → ClassId) (n : Nat) (st : Nat → Nat) (hp : Nat → va_E) : mxP D cs n st hp 22 := rfl
set_option maxRecDepth 100000 in
theorem mx_23 (D : va_G) (cs : Nat → ClassId) (n : Nat) (st : Nat → Nat) (hp : Nat → va_E) : mxP D cs n st hp 23 := rfl
set_option maxRecDepth 100000 in
theorem mx_24 (D : va_G) (cs : Nat → ClassId) (n : Nat) (st : Nat → Nat) (hp : Nat → va_E) : mxP D cs n st hp 24 := rfl
set_option maxRecDepth 100000 in
theorem mx_25 (D : va_G) (cs : Nat → ClassId) (n : Nat) (st : Nat → Nat) (hp : Nat → va_E) : mxP D cs n st hp 25 := rfl
set_option maxRecDepth 100000 in
theorem mx_26 (D : va_G) (cs : Nat → ClassId) (n : Nat) (st : Nat → Nat) (hp : Nat → va_E) : mxP D cs n st hp 26 := rfl
set_option maxRecDepth 100000 in
theorem mx_27 (D : va_G) (cs : Nat → ClassId) (n : Nat) (st : Nat → Nat) (hp : Nat → va_E) : mxP D cs n st hp 27 := rfl
set_option maxRecDepth 100000 in
theorem mx_28 (D : va_G) (cs : Nat → ClassId) (n : Nat) (st : Nat → Nat) (hp : Nat → va_E) : mxP D cs n st hp 28 := rfl
set_option maxRecDepth 100000 in
theorem mx_29 (D : va_G) (cs : Nat → ClassId) (n : Nat) (st : Nat → Nat) (hp : Nat → va_E) : mxP D cs n st hp 29 := rfl
set_option maxRecDepth 100000 in
theorem mx_30 (D : va_G) (cs : Nat → ClassId) (n : Nat) (st : Nat → Nat) (hp : Nat → va_E) : mxP D cs n st hp 30 := rfl
set_option maxRecDepth 100000 in
theorem mx_31 (D : va_G) (cs : Nat → ClassId) (n : Nat) (st : Nat → Nat) (hp : Nat → va_E) : mxP D cs n st hp 31 := rfl
set_option maxRecDepth 100000 in
theorem mx_32 (D : va_G) (cs : Nat → ClassId) (n : Nat) (st : Nat → Nat) (hp : Nat → va_E) : mxP D cs n st hp 32 := rfl
set_option maxRecDepth 100000 in
theorem mx_33 (D : va_G) (cs : Nat → ClassId) (n : Nat) (st : Nat → Nat) (hp : Nat → va_E) : mxP D cs n st hp 33 := rfl
set_option maxRecDepth 100000 in
theorem mx_34 (D : va_G) (cs : Nat → ClassId) (n : Nat) (st : Nat → Nat) (hp : Nat → va_E) : mxP D cs n st hp 34 := rfl
set_option maxRecDepth 100000 in
theorem mx_35 (D : va_G) (cs : Nat → ClassId) (n : Nat) (st : Nat → Nat) (hp : Nat → va_E) : mxP D cs n st hp 35 := rfl
set_option maxRecDepth 100000 in
theorem mx_36 (D : va_G) (cs : Nat → ClassId) (n : Nat) (st : Nat → Nat) (hp : Nat → va_E) : mxP D cs n st hp 36 := rfl
set_option maxRecDepth 100000 in
theorem mx_37 (D : va_G) (cs : Nat → ClassId) (n : Nat) (st : Nat → Nat) (hp : Nat → va_E) : mxP D cs n st hp 37 := rfl
set_option maxRecDepth 100000 in
theorem mx_38 (D : va_G) (cs : Nat → ClassId) (n : Nat) (st : Nat → Nat) (hp : Nat → va_E) : mxP D cs n st hp 38 := rfl
set_option maxRecDepth 100000 in
theorem mx_39 (D : va_G) (cs : Nat → ClassId) (n : Nat) (st : Nat → Nat) (hp : Nat → va_E) : mxP D cs n st hp 39 := rfl
set_option maxRecDepth 100000 in
theorem mx_40 (D : va_G) (cs : Nat → ClassId) (n : Nat) (st : Nat → Nat) (hp : Nat → va_E) : mxP D cs n st hp 40 := rfl
set_option maxRecDepth 100000 in
theorem mx_41 (D : va_G) (cs : Nat → ClassId) (n : Nat) (st : Nat → Nat) (hp : Nat → va_E) : mxP D cs n st hp 41 := rfl
set_option maxRecDepth 100000 in
theorem mx_42 (D : va_G) (cs : Nat → ClassId) (n : Nat) (st : Nat → Nat) (hp : Nat → va_E) : mxP D cs n st hp 42 := rfl
set_option maxRecDepth 100000 in
theorem mx_43 (D : va_G) (cs : Nat → ClassId) (n : Nat) (st : Nat → Nat) (hp : Nat → va_E) : mxP D cs n st hp 43 := rfl
set_option maxRecDepth 100000 in
theorem mx_44 (D : va_G) (cs : Nat → ClassId) (n : Nat) (st : Nat → Nat) (hp : Nat → va_E) : mxP D cs n st hp 44 := rfl
set_option maxRecDepth 100000 in
theorem mx_45 (D : va_G) (cs : Nat → ClassId) (n : Nat) (st : Nat → Nat) (hp : Nat → va_E) : mxP D cs n st hp 45 := rfl
set_option maxRecDepth 100000 in
theorem mx_46 (D : va_G) (cs : Nat → ClassId) (n : Nat) (st : Nat → Nat) (hp : Nat → va_E) : mxP D cs n st hp 46 := rfl
set_option maxRecDepth 100000 in
theorem mx_47 (D : va_G) (cs : Nat → ClassId) (n : Nat) (st : Nat → Nat) (hp : Nat → va_E) : mxP D cs n st hp 47 := rfl
set_option maxRecDepth 100000 in
theorem mx_48 (D : va_G) (cs : Nat → ClassId) (n : Nat) (st : Nat → Nat) (hp : Nat → va_E) : mxP D cs n st hp 48 := rfl
set_option maxRecDepth 100000 in
theorem mx_49 (D : va_G) (cs : Nat → ClassId) (n : Nat) (st : Nat → Nat) (hp : Nat → va_E) : mxP D cs n st hp 49 := rfl
set_option maxRecDepth 100000 in
theorem mx_50 (D : va_G) (cs : Nat → ClassId) (n : Nat) (st : Nat → Nat) (hp : Nat → va_E) : mxP D cs n st hp 50 := rfl
set_option maxRecDepth 100000 in
theorem mx_51 (D : va_G) (cs : Nat → ClassId) (n : Nat) (st : Nat → Nat) (hp : Nat → va_E) : mxP D cs n st hp 51 := rfl
set_option maxRecDepth 100000 in
theorem mx_52 (D : va_G) (cs : Nat → ClassId) (n : Nat) (st : Nat → Nat) (hp : Nat → va_E) : mxP D cs n st hp 52 := rfl
set_option maxRecDepth 100000 in
theorem mx_53 (D : va_G) (cs : Nat → ClassId) (n : Nat) (st : Nat → Nat) (hp : Nat → va_E) : mxP D cs n st hp 53 := rfl
set_option maxRecDepth 100000 in
theorem mx_54 (D : va_G) (cs : Nat → ClassId) (n : Nat) (st : Nat → Nat) (hp : Nat → va_E) : mxP D cs n st hp 54 := rfl
set_option maxRecDepth 100000 in
theorem mx_55 (D : va_G) (cs : Nat → ClassId) (n : Nat) (st : Nat → Nat) (hp : Nat → va_E) : mxP D cs n st hp 55 := rfl
set_option maxRecDepth 100000 in
theorem mx_56 (D : va_G) (cs : Nat → ClassId) (n : Nat) (st : Nat → Nat) (hp : Nat → va_E) : mxP D cs n st hp 56 := rfl
set_option maxRecDepth 100000 in
theorem mx_57 (D : va_G) (cs : Nat → ClassId) (n : Nat) (st : Nat → Nat) (hp : Nat → va_E) : mxP D cs n st hp 57 := rfl
set_option maxRecDepth 100000 in
theorem mx_58 (D : va_G) (cs : Nat → ClassId) (n : Nat) (st : Nat → Nat) (hp : Nat → va_E) : mxP D cs n st hp 58 := rfl
set_option maxRecDepth 100000 in
theorem mx_59 (D : va_G) (cs : Nat → ClassId) (n : Nat) (st : Nat → Nat) (hp : Nat → va_E) : mxP D cs n st hp 59 := rfl
set_option maxRecDepth 100000 in
theorem mx_60 (D : va_G) (cs : Nat → ClassId) (n : Nat) (st : Nat → Nat) (hp : Nat → va_E) : mxP D cs n st hp 60 := rfl
set_option maxRecDepth 100000 in
theorem mx_61 (D : va_G) (cs : Nat → ClassId) (n : Nat) (st : Nat → Nat) (hp : Nat → va_E) : mxP D cs n st hp 61 := rfl
set_option maxRecDepth 100000 in
theorem mx_62 (D : va_G) (cs : Nat → ClassId) (n : Nat) (st : Nat → Nat) (hp : Nat → va_E) : mxP D cs n st hp 62 := rfl
set_option maxRecDepth 100000 in
theorem mx_63 (D : va_G) (cs : Nat → ClassId) (n : Nat) (st : Nat → Nat) (hp : Nat → va_E) : mxP D cs n st hp 63 := rfl
set_option maxRecDepth 100000 in
theorem mx_64 (D : va_G) (cs : Nat → ClassId) (n : Nat) (st : Nat → Nat) (hp : Nat → va_E) : mxP D cs n st hp 64 := rfl
set_option maxRecDepth 100000 in
theorem mx_65 (D : va_G) (cs : Nat → ClassId) (n : Nat) (st : Nat → Nat) (hp : Nat → va_E) : mxP D cs n st hp 65 := rfl
set_option maxRecDepth 100000 in
theorem mx_66 (D : va_G) (cs : Nat → ClassId) (n : Nat) (st : Nat → Nat) (hp : Nat → va_E) : mxP D cs n st hp 66 := rfl
set_option maxRecDepth 100000 in
theorem mx_67 (D : va_G) (cs : Nat → ClassId) (n : Nat) (st : Nat → Nat) (hp : Nat → va_E) : mxP D cs n st hp 67 := rfl
set_option maxRecDepth 100000 in
theorem mx_68 (D : va_G) (cs : Nat → ClassId) (n : Nat) (st : Nat → Nat) (hp : Nat → va_E) : mxP D cs n st hp 68 := rfl
set_option maxRecDepth 100000 in
theorem mx_69 (D : va_G) (cs : Nat → ClassId) (n : Nat) (st : Nat → Nat) (hp : Nat → va_E) : mxP D cs n st hp 69 := rfl
set_option maxRecDepth 100000 in
theorem mx_70 (D : va_G) (cs : Nat → ClassId) (n : Nat) (st : Nat → Nat) (hp : Nat → va_E) : mxP D cs n st hp 70 := rfl
set_option maxRecDepth 100000 in
theorem mx_71 (D : va_G) (cs : Nat → ClassId) (n : Nat) (st : Nat → Nat) (hp : Nat → va_E) : mxP D cs n st hp 71 := rfl
set_option maxRecDepth 100000 in
theorem mx_72 (D : va_G) (cs : Nat → ClassId) (n : Nat) (st : Nat → Nat) (hp : Nat → va_E) : mxP D cs n st hp 72 := rfl
set_option maxRecDepth 100000 in
theorem mx_73 (D : va_G) (cs : Nat → ClassId) (n : Nat) (st : Nat → Nat) (hp : Nat → va_E) : mxP D cs n st hp 73 := rfl
set_option maxRecDepth 100000 in
theorem mx_74 (D : va_G) (cs : Nat → ClassId) (n : Nat) (st : Nat → Nat) (hp : Nat → va_E) : mxP D cs n st hp 74 := rfl
set_option maxRecDepth 100000 in
theorem mx_75 (D : va_G) (cs : Nat → ClassId) (n : Nat) (st : Nat → Nat) (hp : Nat → va_E) : mxP D cs n st hp 75 := rfl
set_option maxRecDepth 100000 in
theorem mx_76 (D : va_G) (cs : Nat → ClassId) (n : Nat) (st : Nat → Nat) (hp : Nat → va_E) : mxP D cs n st hp 76 := rfl
set_option maxRecDepth 100000 in
theorem mx_77 (D : va_G) (cs : Nat → ClassId) (n : Nat) (st : Nat → Nat) (hp : Nat → va_E) : mxP D cs n st hp 77 := rfl
set_option maxRecDepth 100000 in
theorem mx_78 (D : va_G) (cs : Nat → ClassId) (n : Nat) (st : Nat → Nat) (hp : Nat → va_E) : mxP D cs n st hp 78 := rfl
set_option maxRecDepth 100000 in
theorem mx_79 (D : va_G) (cs : Nat → ClassId) (n : Nat) (st : Nat → Nat) (hp : Nat → va_E) : mxP D cs n st hp 79 := rfl
set_option maxRecDepth 100000 in
theorem mx_80 (D : va_G) (cs : Nat → ClassId) (n : Nat) (st : Nat → Nat) (hp : Nat → va_E) : mxP D cs n st hp 80 := rfl
set_option maxRecDepth 100000 in
theorem mx_81 (D : va_G) (cs : Nat → ClassId) (n : Nat) (st : Nat → Nat) (hp : Nat → va_E) : mxP D cs n st hp 81 := rfl
set_option maxRecDepth 100000 in
theorem mx_82 (D : va_G) (cs : Nat → ClassId) (n : Nat) (st : Nat → Nat) (hp : Nat → va_E) : mxP D cs n st hp 82 := rfl
set_option maxRecDepth 100000 in
theorem mx_83 (D : va_G) (cs : Nat → ClassId) (n : Nat) (st : Nat → Nat) (hp : Nat → va_E) : mxP D cs n st hp 83 := rfl
set_option maxRecDepth 100000 in
theorem mx_84 (D : va_G) (cs : Nat → ClassId) (n : Nat) (st : Nat → Nat) (hp : Nat → va_E) : mxP D cs n st hp 84 := rfl
set_option maxRecDepth 100000 in
theorem mx_85 (D : va_G) (cs : Nat → ClassId) (n : Nat) (st : Nat → Nat) (hp : Nat → va_E) : mxP D cs n st hp 85 := rfl
set_option maxRecDepth 100000 in
theorem mx_86 (D : va_G) (cs : Nat → ClassId) (n : Nat) (st : Nat → Nat) (hp : Nat → va_E) : mxP D cs n st hp 86 := rfl
set_option maxRecDepth 100000 in
theorem mx_87 (D : va_G) (cs : Nat → ClassId) (n : Nat) (st : Nat → Nat) (hp : Nat → va_E) : mxP D cs n st hp 87 := rfl
set_option maxRecDepth 100000 in
theorem mx_88 (D : va_G) (cs : Nat → ClassId) (n : Nat) (st : Nat → Nat) (hp : Nat → va_E) : mxP D cs n st hp 88 := rfl
set_option maxRecDepth 100000 in
theorem mx_89 (D : va_G) (cs : Nat → ClassId) (n : Nat) (st : Nat → Nat) (hp : Nat → va_E) : mxP D cs n st hp 89 := rfl
set_option maxRecDepth 100000 in
theorem mx_90 (D : va_G) (cs : Nat → ClassId) (n : Nat) (st : Nat → Nat) (hp : Nat → va_E) : mxP D cs n st hp 90 := rfl
set_option maxRecDepth 100000 in
theorem mx_91 (D : va_G) (cs : Nat → ClassId) (n : Nat) (st : Nat → Nat) (hp : Nat → va_E) : mxP D cs n st hp 91 := rfl
set_option maxRecDepth 100000 in
theorem mx_92 (D : va_G) (cs : Nat → ClassId) (n : Nat) (st : Nat → Nat) (hp : Nat → va_E) : mxP D cs n st hp 92 := rfl
set_option maxRecDepth 100000 in
theorem mx_93 (D : va_G) (cs : Nat → ClassId) (n : Nat) (st : Nat → Nat) (hp : Nat → va_E) : mxP D cs n st hp 93 := rfl
set_option maxRecDepth 100000 in
theorem mx_94 (D : va_G) (cs : Nat → ClassId) (n : Nat) (st : Nat → Nat) (hp : Nat → va_E) : mxP D cs n st hp 94 := rfl
set_option maxRecDepth 100000 in
theorem mx_95 (D : va_G) (cs : Nat → ClassId) (n : Nat) (st : Nat → Nat) (hp : Nat → va_E) : mxP D cs n st hp 95 := rfl
set_option maxRecDepth 100000 in
theorem mx_96 (D : va_G) (cs : Nat → ClassId) (n : Nat) (st : Nat → Nat) (hp : Nat → va_E) : mxP D cs n st hp 96 := rfl
set_option maxRecDepth 100000 in
theorem mx_97 (D : va_G) (cs : Nat → ClassId) (n : Nat) (st : Nat → Nat) (hp : Nat → va_E) : mxP D cs n st hp 97 := rfl
set_option maxRecDepth 100000 in
theorem mx_98 (D : va_G) (cs : Nat → ClassId) (n : Nat) (st : Nat → Nat) (hp : Nat → va_E) : mxP D cs n st hp 98 := rfl
set_option maxRecDepth 100000 in
theorem mx_99 (D : va_G) (cs : Nat → ClassId) (n : Nat) (st : Nat → Nat) (hp : Nat → va_E) : mxP D cs n st hp 99 := rfl
set_option maxRecDepth 100000 in
theorem mx_100 (D : va_G) (cs : Nat → ClassId) (n : Nat) (st : Nat → Nat) (hp : Nat → va_E) : mxP D cs n st hp 100 := rfl
set_option maxRecDepth 100000 in
theorem mx_101 (D : va_G) (cs : Nat → ClassId) (n : Nat) (st : Nat → Nat) (hp : Nat → va_E) : mxP D cs n st hp 101 := rfl
set_option maxRecDepth 100000 in
theorem mx_102 (D : va_G) (cs : Nat → ClassId) (n : Nat) (st : Nat → Nat) (hp : Nat → va_E) : mxP D cs n st hp 102 := rfl
set_option maxRecDepth 100000 in
theorem mx_103 (D : va_G) (cs : Nat → ClassId) (n : Nat) (st : Nat → Nat) (hp : Nat → va_E) : mxP D cs n st hp 103 := rfl
set_option maxRecDepth 100000 in
theorem mx_104 (D : va_G) (cs : Nat → ClassId) (n : Nat) (st : Nat → Nat) (hp : Nat → va_E) : mxP D cs n st hp 104 := rfl
set_option maxRecDepth 100000 in
theorem mx_105 (D : va_G) (cs : Nat → ClassId) (n : Nat) (st : Nat → Nat) (hp : Nat → va_E) : mxP D cs n st hp 105 := rfl
set_option maxRecDepth 100000 in
theorem mx_106 (D : va_G) (cs : Nat → ClassId) (n : Nat) (st : Nat → Nat) (hp : Nat → va_E) : mxP D cs n st hp 106 := rfl
set_option maxRecDepth 100000 in
theorem mx_107 (D : va_G) (cs : Nat → ClassId) (n : Nat) (st : Nat → Nat) (hp : Nat → va_E) : mxP D cs n st hp 107 := rfl
set_option maxRecDepth 100000 in
theorem mx_108 (D : va_G) (cs : Nat → ClassId) (n : Nat) (st : Nat → Nat) (hp : Nat → va_E) : mxP D cs n st hp 108 := rfl
set_option maxRecDepth 100000 in
theorem mx_109 (D : va_G) (cs : Nat → ClassId) (n : Nat) (st : Nat → Nat) (hp : Nat → va_E) : mxP D cs n st hp 109 := rfl
set_option maxRecDepth 100000 in
theorem mx_110 (D : va_G) (cs : Nat → ClassId) (n : Nat) (st : Nat → Nat) (hp : Nat → va_E) : mxP D cs n st hp 110 := rfl
set_option maxRecDepth 100000 in
theorem mx_111 (D : va_G) (cs : Nat → ClassId) (n : Nat) (st : Nat → Nat) (hp : Nat → va_E) : mxP D cs n st hp 111 := rfl
set_option maxRecDepth 100000 in
theorem mx_112 (D : va_G) (cs : Nat → ClassId) (n : Nat) (st : Nat → Nat) (hp : Nat → va_E) : mxP D cs n st hp 112 := rfl
set_option maxRecDepth 100000 in
theorem mx_113 (D : va_G) (cs : Nat → ClassId) (n : Nat) (st : Nat → Nat) (hp : Nat → va_E) : mxP D cs n st hp 113 := rfl
set_option maxRecDepth 100000 in
theorem mx_114 (D : va_G) (cs : Nat → ClassId) (n : Nat) (st : Nat → Nat) (hp : Nat → va_E) : mxP D cs n st hp 114 := rfl
set_option maxRecDepth 100000 in
theorem mx_115 (D : va_G) (cs : Nat → ClassId) (n : Nat) (st : Nat → Nat) (hp : Nat → va_E) : mxP D cs n st hp 115 := rfl
set_option maxRecDepth 100000 in
theorem mx_116 (D : va_G) (cs : Nat → ClassId) (n : Nat) (st : Nat → Nat) (hp : Nat → va_E) : mxP D cs n st hp 116 := rfl
set_option maxRecDepth 100000 in
theorem mx_117 (D : va_G) (cs : Nat → ClassId) (n : Nat) (st : Nat → Nat) (hp : Nat → va_E) : mxP D cs n st hp 117 := rfl
set_option maxRecDepth 100000 in
theorem mx_118 (D : va_G) (cs : Nat → ClassId) (n : Nat) (st : Nat → Nat) (hp : Nat → va_E) : mxP D cs n st hp 118 := rfl
set_option maxRecDepth 100000 in
theorem mx_119 (D : va_G) (cs : Nat → ClassId) (n : Nat) (st : Nat → Nat) (hp : Nat → va_E) : mxP D cs n st hp 119 := rfl
set_option maxRecDepth 100000 in
theorem mx_120 (D : va_G) (cs : Nat → ClassId) (n : Nat) (st : Nat → Nat) (hp : Nat → va_E) : mxP D cs n st hp 120 := rfl
set_option maxRecDepth 100000 in
theorem mx_121 (D : va_G) (cs : Nat → ClassId) (n : Nat) (st : Nat → Nat) (hp : Nat → va_E) : mxP D cs n st hp 121 := rfl
set_option maxRecDepth 100000 in
theorem mx_122 (D : va_G) (cs : Nat → ClassId) (n : Nat) (st : Nat → Nat) (hp : Nat → va_E) : mxP D cs n st hp 122 := rfl
set_option maxRecDepth 100000 in
theorem mx_123 (D : va_G) (cs : Nat → ClassId) (n : Nat) (st : Nat → Nat) (hp : Nat → va_E) : mxP D cs n st hp 123 := rfl
set_option maxRecDepth 100000 in
theorem mx_124 (D : va_G) (cs : Nat → ClassId) (n : Nat) (st : Nat → Nat) (hp : Nat → va_E) : mxP D cs n st hp 124 := rfl
set_option maxRecDepth 100000 in
theorem mx_125 (D : va_G) (cs : Nat → ClassId) (n : Nat) (st : Nat → Nat) (hp : Nat → va_E) : mxP D cs n st hp 125 := rfl
set_option maxRecDepth 100000 in
theorem mx_126 (D : va_G) (cs : Nat → ClassId) (n : Nat) (st : Nat → Nat) (hp : Nat → va_E) : mxP D cs n st hp 126 := rfl
set_option maxRecDepth 100000 in
theorem mx_127 (D : va_G) (cs : Nat → ClassId) (n : Nat) (st : Nat → Nat) (hp : Nat → va_E) : mxP D cs n st hp 127 := rfl
set_option maxRecDepth 100000 in
theorem mx_128 (D : va_G) (cs : Nat → ClassId) (n : Nat) (st : Nat → Nat) (hp : Nat → va_E) : mxP D cs n st hp 128 := rfl
set_option maxRecDepth 100000 in
theorem mx_129 (D : va_G) (cs : Nat → ClassId) (n : Nat) (st : Nat → Nat) (hp : Nat → va_E) : mxP D cs n st hp 129 := rfl
set_option maxRecDepth 100000 in
theorem mx_130 (D : va_G) (cs : Nat → ClassId) (n : Nat) (st : Nat → Nat) (hp : Nat → va_E) : mxP D cs n st hp 130 := rfl
set_option maxRecDepth 100000 in
theorem mx_131 (D : va_G) (cs : Nat → ClassId) (n : Nat) (st : Nat → Nat) (hp : Nat → va_E) : mxP D cs n st hp 131 := rfl
set_option maxRecDepth 100000 in
theorem mx_132 (D : va_G) (cs : Nat → ClassId) (n : Nat) (st : Nat → Nat) (hp : Nat → va_E) : mxP D cs n st hp 132 := rfl
set_option maxRecDepth 100000 in
theorem mx_133 (D : va_G) (cs : Nat → ClassId) (n : Nat) (st : Nat → Nat) (hp : Nat → va_E) : mxP D cs n st hp 133 := rfl
set_option maxRecDepth 100000 in
theorem mx_134 (D : va_G) (cs : Nat → ClassId) (n : Nat) (st : Nat → Nat) (hp : Nat → va_E) : mxP D cs n st hp 134 := rfl
set_option maxRecDepth 100000 in
theorem mx_135 (D : va_G) (cs : Nat → ClassId) (n : Nat) (st : Nat → Nat) (hp : Nat → va_E) : mxP D cs n st hp 135 := rfl
set_option maxRecDepth 100000 in
theorem mx_136 (D : va_G) (cs : Nat → ClassId) (n : Nat) (st : Nat → Nat) (hp : Nat → va_E) : mxP D cs n st hp 136 := rfl
set_option maxRecDepth 100000 in
theorem mx_137 (D : va_G) (cs : Nat → ClassId) (n : Nat) (st : Nat → Nat) (hp : Nat → va_E) : mxP D cs n st hp 137 := rfl
set_option maxRecDepth 100000 in
theorem mx_138 (D : va_G) (cs : Nat → ClassId) (n : Nat) (st : Nat → Nat) (hp : Nat → va_E) : mxP D cs n st hp 138 := rfl
set_option maxRecDepth 100000 in
theorem mx_139 (D : va_G) (cs : Nat → ClassId) (n : Nat) (st : Nat → Nat) (hp : Nat → va_E) : mxP D cs n st hp 139 := rfl
set_option maxRecDepth 100000 in
theorem mx_140 (D : va_G) (cs : Nat → ClassId) (n : Nat) (st : Nat → Nat) (hp : Nat → va_E) : mxP D cs n st hp 140 := rfl
set_option maxRecDepth 100000 in
theorem mx_141 (D : va_G) (cs : Nat → ClassId) (n : Nat) (st : Nat → Nat) (hp : Nat → va_E) : mxP D cs n st hp 141 := rfl
set_option maxRecDepth 100000 in
theorem mx_142 (D : va_G) (cs : Nat → ClassId) (n : Nat) (st : Nat → Nat) (hp : Nat → va_E) : mxP D cs n st hp 142 := rfl
set_option maxRecDepth 100000 in
theorem mx_143 (D : va_G) (cs : Nat → ClassId) (n : Nat) (st : Nat → Nat) (hp : Nat → va_E) : mxP D cs n st hp 143 := rfl
set_option maxRecDepth 100000 in
theorem mx_144 (D : va_G) (cs : Nat → ClassId) (n : Nat) (st : Nat → Nat) (hp : Nat → va_E) : mxP D cs n st hp 144 := rfl
set_option maxRecDepth 100000 in
theorem mx_145 (D : va_G) (cs : Nat → ClassId) (n : Nat) (st : Nat → Nat) (hp : Nat → va_E) : mxP D cs n st hp 145 := rfl
set_option maxRecDepth 100000 in
theorem mx_146 (D : va_G) (cs : Nat → ClassId) (n : Nat) (st : Nat → Nat) (hp : Nat → va_E) : mxP D cs n st hp 146 := rfl
set_option maxRecDepth 100000 in
theorem mx_147 (D : va_G) (cs : Nat → ClassId) (n : Nat) (st : Nat → Nat) (hp : Nat → va_E) : mxP D cs n st hp 147 := rfl
set_option maxRecDepth 100000 in
set_option maxHeartbeats 4000000 in
theorem mx_148 (D : va_G) (cs : Nat → ClassId) (n : Nat) (st : Nat → Nat) (hp : Nat → va_E) : mxP D cs n st hp 148 := by
  have e : ((va_up (va_up (va_up (va_up (va_up (va_up (va_up (va_up (fun _ => none) 0 (some (n + 2))) 1 (some (n + 5))) 2 (some (n + 8))) 3 (some (n + 11))) 4 (some (n + 14))) 5 (some (n + 17))) 6 (some (n + 20))) 7 (some (n + 23))) : Nat → Option Nat) = (fun j => if j < 8 then some (za (mkX D cs n st) (156 + j)) else none) := funext fun j => by
    by_cases h : j < 8
    · have hc : j = 0 ∨ j = 1 ∨ j = 2 ∨ j = 3 ∨ j = 4 ∨ j = 5 ∨ j = 6 ∨ j = 7 := by omega
      rcases hc with rfl | rfl | rfl | rfl | rfl | rfl | rfl | rfl
      all_goals rfl
    · simp [va_up, h, show ¬ j = 0 by omega, show ¬ j = 1 by omega, show ¬ j = 2 by omega, show ¬ j = 3 by omega, show ¬ j = 4 by omega, show ¬ j = 5 by omega, show ¬ j = 6 by omega, show ¬ j = 7 by omega]
  show (Sum.inl (cs 3, 8, Sum.inr (Sum.inr (Sum.inr (Sum.inr (va_up (va_up (va_up (va_up (va_up (va_up (va_up (va_up (fun _ => none) 0 (some (n + 2))) 1 (some (n + 5))) 2 (some (n + 8))) 3 (some (n + 11))) 4 (some (n + 14))) 5 (some (n + 17))) 6 (some (n + 20))) 7 (some (n + 23))))))) : va_E) = Sum.inl (cs 3, 8, Sum.inr (Sum.inr (Sum.inr (Sum.inr (fun j => if j < 8 then some (za (mkX D cs n st) (156 + j)) else none)))))
  rw [e]

set_option maxRecDepth 100000 in
set_option maxHeartbeats 4000000 in
theorem mx_149 (D : va_G) (cs : Nat → ClassId) (n : Nat) (st : Nat → Nat) (hp : Nat → va_E) : mxP D cs n st hp 149 := by
  have e : ((va_up (va_up (va_up (va_up (va_up (va_up (va_up (va_up (va_up (fun _ => none) 0 (some (n + 34))) 1 (some (n + 38))) 2 (some (n + 42))) 3 (some (n + 46))) 4 (some (n + 50))) 5 (some (n + 54))) 6 (some (n + 58))) 7 (some (n + 62))) 8 (some (n + 66))) : Nat → Option Nat) = (fun j => if j < 9 then some (za (mkX D cs n st) (167 + j)) else none) := funext fun j => by
    by_cases h : j < 9
    · have hc : j = 0 ∨ j = 1 ∨ j = 2 ∨ j = 3 ∨ j = 4 ∨ j = 5 ∨ j = 6 ∨ j = 7 ∨ j = 8 := by omega
      rcases hc with rfl | rfl | rfl | rfl | rfl | rfl | rfl | rfl | rfl
      all_goals rfl
    · simp [va_up, h, show ¬ j = 0 by omega, show ¬ j = 1 by omega, show ¬ j = 2 by omega, show ¬ j = 3 by omega, show ¬ j = 4 by omega, show ¬ j = 5 by omega, show ¬ j = 6 by omega, show ¬ j = 7 by omega, show ¬ j = 8 by omega]
  show (Sum.inl (cs 4, 9, Sum.inr (Sum.inr (Sum.inr (Sum.inr (va_up (va_up (va_up (va_up (va_up (va_up (va_up (va_up (va_up (fun _ => none) 0 (some (n + 34))) 1 (some (n + 38))) 2 (some (n + 42))) 3 (some (n + 46))) 4 (some (n + 50))) 5 (some (n + 54))) 6 (some (n + 58))) 7 (some (n + 62))) 8 (some (n + 66))))))) : va_E) = Sum.inl (cs 4, 9, Sum.inr (Sum.inr (Sum.inr (Sum.inr (fun j => if j < 9 then some (za (mkX D cs n st) (167 + j)) else none)))))
  rw [e]

set_option maxRecDepth 100000 in
set_option maxHeartbeats 4000000 in
theorem mx_150 (D : va_G) (cs : Nat → ClassId) (n : Nat) (st : Nat → Nat) (hp : Nat → va_E) : mxP D cs n st hp 150 := by
  have e : ((fun i => if i < 25 then some (n + (83 + 1 + i)) else none) : Nat → Option Nat) = (fun j => if j < 25 then some (za (mkX D cs n st) (41 + j)) else none) := funext fun j => by
    by_cases h : j < 25
    · have hc : j = 0 ∨ j = 1 ∨ j = 2 ∨ j = 3 ∨ j = 4 ∨ j = 5 ∨ j = 6 ∨ j = 7 ∨ j = 8 ∨ j = 9 ∨ j = 10 ∨ j = 11 ∨ j = 12 ∨ j = 13 ∨ j = 14 ∨ j = 15 ∨ j = 16 ∨ j = 17 ∨ j = 18 ∨ j = 19 ∨ j = 20 ∨ j = 21 ∨ j = 22 ∨ j = 23 ∨ j = 24 := by omega
      rcases hc with rfl | rfl | rfl | rfl | rfl | rfl | rfl | rfl | rfl | rfl | rfl | rfl | rfl | rfl | rfl | rfl | rfl | rfl | rfl | rfl | rfl | rfl | rfl | rfl | rfl
      all_goals rfl
    · rw [if_neg h, if_neg h]
  show (Sum.inl (cs 5, 25, Sum.inr (Sum.inr (Sum.inr (Sum.inr (fun i => if i < 25 then some (n + (83 + 1 + i)) else none))))) : va_E) = Sum.inl (cs 5, 25, Sum.inr (Sum.inr (Sum.inr (Sum.inr (fun j => if j < 25 then some (za (mkX D cs n st) (41 + j)) else none)))))
  rw [e]

set_option maxRecDepth 100000 in
set_option maxHeartbeats 4000000 in
theorem mx_151 (D : va_G) (cs : Nat → ClassId) (n : Nat) (st : Nat → Nat) (hp : Nat → va_E) : mxP D cs n st hp 151 := by
  have e : ((fun i => if i < 24 then some (n + (109 + 1 + i)) else none) : Nat → Option Nat) = (fun j => if j < 24 then some (za (mkX D cs n st) (66 + j)) else none) := funext fun j => by
    by_cases h : j < 24
    · have hc : j = 0 ∨ j = 1 ∨ j = 2 ∨ j = 3 ∨ j = 4 ∨ j = 5 ∨ j = 6 ∨ j = 7 ∨ j = 8 ∨ j = 9 ∨ j = 10 ∨ j = 11 ∨ j = 12 ∨ j = 13 ∨ j = 14 ∨ j = 15 ∨ j = 16 ∨ j = 17 ∨ j = 18 ∨ j = 19 ∨ j = 20 ∨ j = 21 ∨ j = 22 ∨ j = 23 := by omega
      rcases hc with rfl | rfl | rfl | rfl | rfl | rfl | rfl | rfl | rfl | rfl | rfl | rfl | rfl | rfl | rfl | rfl | rfl | rfl | rfl | rfl | rfl | rfl | rfl | rfl
      all_goals rfl
    · rw [if_neg h, if_neg h]
  show (Sum.inl (cs 5, 24, Sum.inr (Sum.inr (Sum.inr (Sum.inr (fun i => if i < 24 then some (n + (109 + 1 + i)) else none))))) : va_E) = Sum.inl (cs 5, 24, Sum.inr (Sum.inr (Sum.inr (Sum.inr (fun j => if j < 24 then some (za (mkX D cs n st) (66 + j)) else none)))))
  rw [e]

set_option maxRecDepth 100000 in
set_option maxHeartbeats 4000000 in
theorem mx_152 (D : va_G) (cs : Nat → ClassId) (n : Nat) (st : Nat → Nat) (hp : Nat → va_E) : mxP D cs n st hp 152 := by
  have e : ((fun i => if i < 5 then some (n + (137 + 1 + i)) else none) : Nat → Option Nat) = (fun j => if j < 5 then some (za (mkX D cs n st) (90 + j)) else none) := funext fun j => by
    by_cases h : j < 5
    · have hc : j = 0 ∨ j = 1 ∨ j = 2 ∨ j = 3 ∨ j = 4 := by omega
      rcases hc with rfl | rfl | rfl | rfl | rfl
      all_goals rfl
    · rw [if_neg h, if_neg h]
  show (Sum.inl (cs 5, 5, Sum.inr (Sum.inr (Sum.inr (Sum.inr (fun i => if i < 5 then some (n + (137 + 1 + i)) else none))))) : va_E) = Sum.inl (cs 5, 5, Sum.inr (Sum.inr (Sum.inr (Sum.inr (fun j => if j < 5 then some (za (mkX D cs n st) (90 + j)) else none)))))
  rw [e]

set_option maxRecDepth 100000 in
set_option maxHeartbeats 4000000 in
theorem mx_153 (D : va_G) (cs : Nat → ClassId) (n : Nat) (st : Nat → Nat) (hp : Nat → va_E) : mxP D cs n st hp 153 := by
  have e : ((fun i => if i < 24 then some (n + (153 + 1 + i)) else none) : Nat → Option Nat) = (fun j => if j < 24 then some (za (mkX D cs n st) (95 + j)) else none) := funext fun j => by
    by_cases h : j < 24
    · have hc : j = 0 ∨ j = 1 ∨ j = 2 ∨ j = 3 ∨ j = 4 ∨ j = 5 ∨ j = 6 ∨ j = 7 ∨ j = 8 ∨ j = 9 ∨ j = 10 ∨ j = 11 ∨ j = 12 ∨ j = 13 ∨ j = 14 ∨ j = 15 ∨ j = 16 ∨ j = 17 ∨ j = 18 ∨ j = 19 ∨ j = 20 ∨ j = 21 ∨ j = 22 ∨ j = 23 := by omega
      rcases hc with rfl | rfl | rfl | rfl | rfl | rfl | rfl | rfl | rfl | rfl | rfl | rfl | rfl | rfl | rfl | rfl | rfl | rfl | rfl | rfl | rfl | rfl | rfl | rfl
      all_goals rfl
    · rw [if_neg h, if_neg h]
  show (Sum.inl (cs 5, 24, Sum.inr (Sum.inr (Sum.inr (Sum.inr (fun i => if i < 24 then some (n + (153 + 1 + i)) else none))))) : va_E) = Sum.inl (cs 5, 24, Sum.inr (Sum.inr (Sum.inr (Sum.inr (fun j => if j < 24 then some (za (mkX D cs n st) (95 + j)) else none)))))
  rw [e]

set_option maxRecDepth 100000 in
set_option maxHeartbeats 4000000 in
theorem mx_154 (D : va_G) (cs : Nat → ClassId) (n : Nat) (st : Nat → Nat) (hp : Nat → va_E) : mxP D cs n st hp 154 := by
  have e : ((fun i => if i < 24 then some (n + (178 + 1 + i)) else none) : Nat → Option Nat) = (fun j => if j < 24 then some (za (mkX D cs n st) (119 + j)) else none) := funext fun j => by
    by_cases h : j < 24
    · have hc : j = 0 ∨ j = 1 ∨ j = 2 ∨ j = 3 ∨ j = 4 ∨ j = 5 ∨ j = 6 ∨ j = 7 ∨ j = 8 ∨ j = 9 ∨ j = 10 ∨ j = 11 ∨ j = 12 ∨ j = 13 ∨ j = 14 ∨ j = 15 ∨ j = 16 ∨ j = 17 ∨ j = 18 ∨ j = 19 ∨ j = 20 ∨ j = 21 ∨ j = 22 ∨ j = 23 := by omega
      rcases hc with rfl | rfl | rfl | rfl | rfl | rfl | rfl | rfl | rfl | rfl | rfl | rfl | rfl | rfl | rfl | rfl | rfl | rfl | rfl | rfl | rfl | rfl | rfl | rfl
      all_goals rfl
    · rw [if_neg h, if_neg h]
  show (Sum.inl (cs 5, 24, Sum.inr (Sum.inr (Sum.inr (Sum.inr (fun i => if i < 24 then some (n + (178 + 1 + i)) else none))))) : va_E) = Sum.inl (cs 5, 24, Sum.inr (Sum.inr (Sum.inr (Sum.inr (fun j => if j < 24 then some (za (mkX D cs n st) (119 + j)) else none)))))
  rw [e]

set_option maxRecDepth 100000 in
theorem mx_155 (D : va_G) (cs : Nat → ClassId) (n : Nat) (st : Nat → Nat) (hp : Nat → va_E) : mxP D cs n st hp 155 := rfl
set_option maxRecDepth 100000 in
theorem mx_156 (D : va_G) (cs : Nat → ClassId) (n : Nat) (st : Nat → Nat) (hp : Nat → va_E) : mxP D cs n st hp 156 := rfl
set_option maxRecDepth 100000 in
theorem mx_157 (D : va_G) (cs : Nat → ClassId) (n : Nat) (st : Nat → Nat) (hp : Nat → va_E) : mxP D cs n st hp 157 := rfl
set_option maxRecDepth 100000 in
theorem mx_158 (D : va_G) (cs : Nat → ClassId) (n : Nat) (st : Nat → Nat) (hp : Nat → va_E) : mxP D cs n st hp 158 := rfl
set_option maxRecDepth 100000 in
theorem mx_159 (D : va_G) (cs : Nat → ClassId) (n : Nat) (st : Nat → Nat) (hp : Nat → va_E) : mxP D cs n st hp 159 := rfl
set_option maxRecDepth 100000 in
theorem mx_160 (D : va_G) (cs : Nat → ClassId) (n : Nat) (st : Nat → Nat) (hp : Nat → va_E) : mxP D cs n st hp 160 := rfl
set_option maxRecDepth 100000 in
theorem mx_161 (D : va_G) (cs : Nat → ClassId) (n : Nat) (st : Nat → Nat) (hp : Nat → va_E) : mxP D cs n st hp 161 := rfl
set_option maxRecDepth 100000 in
theorem mx_162 (D : va_G) (cs : Nat → ClassId) (n : Nat) (st : Nat → Nat) (hp : Nat → va_E) : mxP D cs n st hp 162 := rfl
set_option maxRecDepth 100000 in
theorem mx_163 (D : va_G) (cs : Nat → ClassId) (n : Nat) (st : Nat → Nat) (hp : Nat → va_E) : mxP D cs n st hp 163 := rfl
set_option maxRecDepth 100000 in
theorem mx_164 (D : va_G) (cs : Nat → ClassId) (n : Nat) (st : Nat → Nat) (hp : Nat → va_E) : mxP D cs n st hp 164 := rfl
set_option maxRecDepth 100000 in
theorem mx_165 (D : va_G) (cs : Nat → ClassId) (n : Nat) (st : Nat → Nat) (hp : Nat → va_E) : mxP D cs n st hp 165 := rfl
set_option maxRecDepth 100000 in
theorem mx_166 (D : va_G) (cs : Nat → ClassId) (n : Nat) (st : Nat → Nat) (hp : Nat → va_E) : mxP D cs n st hp 166 := rfl
set_option maxRecDepth 100000 in
theorem mx_167 (D : va_G) (cs : Nat → ClassId) (n : Nat) (st : Nat → Nat) (hp : Nat → va_E) : mxP D cs n st hp 167 := rfl
set_option maxRecDepth 100000 in
theorem mx_168 (D : va_G) (cs : Nat → ClassId) (n : Nat) (st : Nat → Nat) (hp : Nat → va_E) : mxP D cs n st hp 168 := rfl
set_option maxRecDepth 100000 in
theorem mx_169 (D : va_G) (cs : Nat → ClassId) (n : Nat) (st : Nat → Nat) (hp : Nat → va_E) : mxP D cs n st hp 169 := rfl
set_option maxRecDepth 100000 in
theorem mx_170 (D : va_G) (cs : Nat → ClassId) (n : Nat) (st : Nat → Nat) (hp : Nat → va_E) : mxP D cs n st hp 170 := rfl
set_option maxRecDepth 100000 in
theorem mx_171 (D : va_G) (cs : Nat → ClassId) (n : Nat) (st : Nat → Nat) (hp : Nat → va_E) : mxP D cs n st hp 171 := rfl
set_option maxRecDepth 100000 in
theorem mx_172 (D : va_G) (cs : Nat → ClassId) (n : Nat) (st : Nat → Nat) (hp : Nat → va_E) : mxP D cs n st hp 172 := rfl
set_option maxRecDepth 100000 in
theorem mx_173 (D : va_G) (cs : Nat → ClassId) (n : Nat) (st : Nat → Nat) (hp : Nat → va_E) : mxP D cs n st hp 173 := rfl
set_option maxRecDepth 100000 in
theorem mx_174 (D : va_G) (cs : Nat → ClassId) (n : Nat) (st : Nat → Nat) (hp : Nat → va_E) : mxP D cs n st hp 174 := rfl
set_option maxRecDepth 100000 in
theorem mx_175 (D : va_G) (cs : Nat → ClassId) (n : Nat) (st : Nat → Nat) (hp : Nat → va_E) : mxP D cs n st hp 175 := rfl
set_option maxRecDepth 100000 in
theorem mx_176 (D : va_G) (cs : Nat → ClassId) (n : Nat) (st : Nat → Nat) (hp : Nat → va_E) : mxP D cs n st hp 176 := rfl
set_option maxRecDepth 100000 in
theorem mx_177 (D : va_G) (cs : Nat → ClassId) (n : Nat) (st : Nat → Nat) (hp : Nat → va_E) : mxP D cs n st hp 177 := rfl
set_option maxRecDepth 100000 in
theorem mx_178 (D : va_G) (cs : Nat → ClassId) (n : Nat) (st : Nat → Nat) (hp : Nat → va_E) : mxP D cs n st hp 178 := rfl
set_option maxRecDepth 100000 in
theorem mx_179 (D : va_G) (cs : Nat → ClassId) (n : Nat) (st : Nat → Nat) (hp : Nat → va_E) : mxP D cs n st hp 179 := rfl
set_option maxRecDepth 100000 in
theorem mx_180 (D : va_G) (cs : Nat → ClassId) (n : Nat) (st : Nat → Nat) (hp : Nat → va_E) : mxP D cs n st hp 180 := rfl
set_option maxRecDepth 100000 in
theorem mx_181 (D : va_G) (cs : Nat → ClassId) (n : Nat) (st : Nat → Nat) (hp : Nat → va_E) : mxP D cs n st hp 181 := rfl
set_option maxRecDepth 100000 in
theorem mx_182 (D : va_G) (cs : Nat → ClassId) (n : Nat) (st : Nat → Nat) (hp : Nat → va_E) : mxP D cs n st hp 182 := rfl
set_option maxRecDepth 100000 in
theorem mx_183 (D : va_G) (cs : Nat → ClassId) (n : Nat) (st : Nat → Nat) (hp : Nat → va_E) : mxP D cs n st hp 183 := rfl
set_option maxRecDepth 100000 in
theorem mx_184 (D : va_G) (cs : Nat → ClassId) (n : Nat) (st : Nat → Nat) (hp : Nat → va_E) : mxP D cs n st hp 184 := rfl
set_option maxRecDepth 100000 in
theorem mx_185 (D : va_G) (cs : Nat → ClassId) (n : Nat) (st : Nat → Nat) (hp : Nat → va_E) : mxP D cs n st hp 185 := rfl
set_option maxRecDepth 100000 in
theorem mx_186 (D : va_G) (cs : Nat → ClassId) (n : Nat) (st : Nat → Nat) (hp : Nat → va_E) : mxP D cs n st hp 186 := rfl
set_option maxRecDepth 100000 in
theorem mx_187 (D : va_G) (cs : Nat → ClassId) (n : Nat) (st : Nat → Nat) (hp : Nat → va_E) : mxP D cs n st hp 187 := rfl
set_option maxRecDepth 100000 in
theorem mx_188 (D : va_G) (cs : Nat → ClassId) (n : Nat) (st : Nat → Nat) (hp : Nat → va_E) : mxP D cs n st hp 188 := rfl
set_option maxRecDepth 100000 in
theorem mx_189 (D : va_G) (cs : Nat → ClassId) (n : Nat) (st : Nat → Nat) (hp : Nat → va_E) : mxP D cs n st hp 189 := rfl
set_option maxRecDepth 100000 in
theorem mx_190 (D : va_G) (cs : Nat → ClassId) (n : Nat) (st : Nat → Nat) (hp : Nat → va_E) : mxP D cs n st hp 190 := rfl
set_option maxRecDepth 100000 in
theorem mx_191 (D : va_G) (cs : Nat → ClassId) (n : Nat) (st : Nat → Nat) (hp : Nat → va_E) : mxP D cs n st hp 191 := rfl
set_option maxRecDepth 100000 in
theorem mx_192 (D : va_G) (cs : Nat → ClassId) (n : Nat) (st : Nat → Nat) (hp : Nat → va_E) : mxP D cs n st hp 192 := rfl
set_option maxRecDepth 100000 in
theorem mx_193 (D : va_G) (cs : Nat → ClassId) (n : Nat) (st : Nat → Nat) (hp : Nat → va_E) : mxP D cs n st hp 193 := rfl
set_option maxRecDepth 100000 in
theorem mx_194 (D : va_G) (cs : Nat → ClassId) (n : Nat) (st : Nat → Nat) (hp : Nat → va_E) : mxP D cs n st hp 194 := rfl
set_option maxRecDepth 100000 in
theorem mx_195 (D : va_G) (cs : Nat → ClassId) (n : Nat) (st : Nat → Nat) (hp : Nat → va_E) : mxP D cs n st hp 195 := rfl
set_option maxRecDepth 100000 in
theorem mx_196 (D : va_G) (cs : Nat → ClassId) (n : Nat) (st : Nat → Nat) (hp : Nat → va_E) : mxP D cs n st hp 196 := rfl
set_option maxRecDepth 100000 in
theorem mx_197 (D : va_G) (cs : Nat → ClassId) (n : Nat) (st : Nat → Nat) (hp : Nat → va_E) : mxP D cs n st hp 197 := rfl
set_option maxRecDepth 100000 in
theorem mx_198 (D : va_G) (cs : Nat → ClassId) (n : Nat) (st : Nat → Nat) (hp : Nat → va_E) : mxP D cs n st hp 198 := rfl
set_option maxRecDepth 100000 in
theorem mx_199 (D : va_G) (cs : Nat → ClassId) (n : Nat) (st : Nat → Nat) (hp : Nat → va_E) : mxP D cs n st hp 199 := rfl
set_option maxRecDepth 100000 in
theorem mx_200 (D : va_G) (cs : Nat → ClassId) (n : Nat) (st : Nat → Nat) (hp : Nat → va_E) : mxP D cs n st hp 200 := rfl
set_option maxRecDepth 100000 in
theorem mx_201 (D : va_G) (cs : Nat → ClassId) (n : Nat) (st : Nat → Nat) (hp : Nat → va_E) : mxP D cs n st hp 201 := rfl
set_option maxRecDepth 100000 in
theorem mx_202 (D : va_G) (cs : Nat → ClassId) (n : Nat) (st : Nat → Nat) (hp : Nat → va_E) : mxP D cs n st hp 202 := rfl
set_option maxRecDepth 100000 in
theorem mx_203 (D : va_G) (cs : Nat → ClassId) (n : Nat) (st : Nat → Nat) (hp : Nat → va_E) : mxP D cs n st hp 203 := rfl
set_option maxRecDepth 100000 in
theorem mx_204 (D : va_G) (cs : Nat → ClassId) (n : Nat) (st : Nat → Nat) (hp : Nat → va_E) : mxP D cs n st hp 204 := rfl
set_option maxRecDepth 100000 in
theorem mx_205 (D : va_G) (cs : Nat → ClassId) (n : Nat) (st : Nat → Nat) (hp : Nat → va_E) : mxP D cs n st hp 205 := rfl
set_option maxRecDepth 100000 in
theorem mx_206 (D : va_G) (cs : Nat → ClassId) (n : Nat) (st : Nat → Nat) (hp : Nat → va_E) : mxP D cs n st hp 206 := rfl
set_option maxRecDepth 100000 in
theorem mx_207 (D : va_G) (cs : Nat → ClassId) (n : Nat) (st : Nat → Nat) (hp : Nat → va_E) : mxP D cs n st hp 207 := rfl
set_option maxRecDepth 100000 in
theorem mx_208 (D : va_G) (cs : Nat → ClassId) (n : Nat) (st : Nat → Nat) (hp : Nat → va_E) : mxP D cs n st hp 208 := rfl
set_option maxRecDepth 100000 in
theorem mx_209 (D : va_G) (cs : Nat → ClassId) (n : Nat) (st : Nat → Nat) (hp : Nat → va_E) : mxP D cs n st hp 209 := rfl
set_option maxRecDepth 100000 in
theorem mx_210 (D : va_G) (cs : Nat → ClassId) (n : Nat) (st : Nat → Nat) (hp : Nat → va_E) : mxP D cs n st hp 210 := rfl
set_option maxRecDepth 100000 in
theorem mm_0 (D : va_G) (cs : Nat → ClassId) (n : Nat) (st : Nat → Nat) (hp : Nat → va_E) : mmP D cs n st hp 0 := rfl
set_option maxRecDepth 100000 in
theorem mm_1 (D : va_G) (cs : Nat → ClassId) (n : Nat) (st : Nat → Nat) (hp : Nat → va_E) : mmP D cs n st hp 1 := rfl
set_option maxRecDepth 100000 in
theorem mm_2 (D : va_G) (cs : Nat → ClassId) (n : Nat) (st : Nat → Nat) (hp : Nat → va_E) : mmP D cs n st hp 2 := rfl
set_option maxRecDepth 100000 in
theorem mm_3 (D : va_G) (cs : Nat → ClassId) (n : Nat) (st : Nat → Nat) (hp : Nat → va_E) : mmP D cs n st hp 3 := rfl
set_option maxRecDepth 100000 in
theorem mm_4 (D : va_G) (cs : Nat → ClassId) (n : Nat) (st : Nat → Nat) (hp : Nat → va_E) : mmP D cs n st hp 4 := rfl
set_option maxRecDepth 100000 in
theorem mm_5 (D : va_G) (cs : Nat → ClassId) (n : Nat) (st : Nat → Nat) (hp : Nat → va_E) : mmP D cs n st hp 5 := rfl
set_option maxRecDepth 100000 in
theorem mm_6 (D : va_G) (cs : Nat → ClassId) (n : Nat) (st : Nat → Nat) (hp : Nat → va_E) : mmP D cs n st hp 6 := rfl
set_option maxRecDepth 100000 in
theorem mm_7 (D : va_G) (cs : Nat → ClassId) (n : Nat) (st : Nat → Nat) (hp : Nat → va_E) : mmP D cs n st hp 7 := rfl
set_option maxRecDepth 100000 in
theorem mm_8 (D : va_G) (cs : Nat → ClassId) (n : Nat) (st : Nat → Nat) (hp : Nat → va_E) : mmP D cs n st hp 8 := rfl
set_option maxRecDepth 100000 in
theorem mm_9 (D : va_G) (cs : Nat → ClassId) (n : Nat) (st : Nat → Nat) (hp : Nat → va_E) : mmP D cs n st hp 9 := rfl
set_option maxRecDepth 100000 in
theorem mm_10 (D : va_G) (cs : Nat → ClassId) (n : Nat) (st : Nat → Nat) (hp : Nat → va_E) : mmP D cs n st hp 10 := rfl
set_option maxRecDepth 100000 in
theorem mm_11 (D : va_G) (cs : Nat → ClassId) (n : Nat) (st : Nat → Nat) (hp : Nat → va_E) : mmP D cs n st hp 11 := rfl
set_option maxRecDepth 100000 in
theorem mm_12 (D : va_G) (cs : Nat → ClassId) (n : Nat) (st : Nat → Nat) (hp : Nat → va_E) : mmP D cs n st hp 12 := rfl
set_option maxRecDepth 100000 in
theorem mm_13 (D : va_G) (cs : Nat → ClassId) (n : Nat) (st : Nat → Nat) (hp : Nat → va_E) : mmP D cs n st hp 13 := rfl
set_option maxRecDepth 100000 in
theorem mm_14 (D : va_G) (cs : Nat → ClassId) (n : Nat) (st : Nat → Nat) (hp : Nat → va_E) : mmP D cs n st hp 14 := rfl
set_option maxRecDepth 100000 in
theorem mm_15 (D : va_G) (cs : Nat → ClassId) (n : Nat) (st : Nat → Nat) (hp : Nat → va_E) : mmP D cs n st hp 15 := rfl
set_option maxRecDepth 100000 in
theorem mm_16 (D : va_G) (cs : Nat → ClassId) (n : Nat) (st : Nat → Nat) (hp : Nat → va_E) : mmP D cs n st hp 16 := rfl
set_option maxRecDepth 100000 in
theorem mm_17 (D : va_G) (cs : Nat → ClassId) (n : Nat) (st : Nat → Nat) (hp : Nat → va_E) : mmP D cs n st hp 17 := rfl
set_option maxRecDepth 100000 in
theorem mm_18 (D : va_G) (cs : Nat → ClassId) (n : Nat) (st : Nat → Nat) (hp : Nat → va_E) : mmP D cs n st hp 18 := rfl
set_option maxRecDepth 100000 in
theorem mm_19 (D : va_G) (cs : Nat → ClassId) (n : Nat) (st : Nat → Nat) (hp : Nat → va_E) : mmP D cs n st hp 19 := rfl
set_option maxRecDepth 100000 in
theorem mm_20 (D : va_G) (cs : Nat → ClassId) (n : Nat) (st : Nat → Nat) (hp : Nat → va_E) : mmP D cs n st hp 20 := rfl
set_option maxRecDepth 100000 in
theorem mm_21 (D : va_G) (cs : Nat → ClassId) (n : Nat) (st : Nat → Nat) (hp : Nat → va_E) : mmP D cs n st hp 21 := rfl
set_option maxRecDepth 100000 in
theorem mm_22 (D : va_G) (cs : Nat → ClassId) (n : Nat) (st : Nat → Nat) (hp : Nat → va_E) : mmP D cs n st hp 22 := rfl
set_option maxRecDepth 100000 in
theorem mm_23 (D : va_G) (cs : Nat → ClassId) (n : Nat) (st : Nat → Nat) (hp : Nat → va_E) : mmP D cs n st hp 23 := rfl
theorem mxb_0 (D : va_G) (cs : Nat → ClassId) (n : Nat) (st : Nat → Nat) (hp : Nat → va_E) : ∀ k, 0 ≤ k → k < 16 → mxP D cs n st hp k := by
  intro k h1 h2
  have hc : k = 0 ∨ k = 1 ∨ k = 2 ∨ k = 3 ∨ k = 4 ∨ k = 5 ∨ k = 6 ∨ k = 7 ∨ k = 8 ∨ k = 9 ∨ k = 10 ∨ k = 11 ∨ k = 12 ∨ k = 13 ∨ k = 14 ∨ k = 15 := by omega
  rcases hc with rfl | rfl | rfl | rfl | rfl | rfl | rfl | rfl | rfl | rfl | rfl | rfl | rfl | rfl | rfl | rfl
  · exact mx_0 D cs n st hp
  · exact mx_1 D cs n st hp
  · exact mx_2 D cs n st hp
  · exact mx_3 D cs n st hp
  · exact mx_4 D cs n st hp
  · exact mx_5 D cs n st hp
  · exact mx_6 D cs n st hp
  · exact mx_7 D cs n st hp
  · exact mx_8 D cs n st hp
  · exact mx_9 D cs n st hp
  · exact mx_10 D cs n st hp
  · exact mx_11 D cs n st hp
  · exact mx_12 D cs n st hp
  · exact mx_13 D cs n st hp
  · exact mx_14 D cs n st hp
  · exact mx_15 D cs n st hp

theorem mxb_16 (D : va_G) (cs : Nat → ClassId) (n : Nat) (st : Nat → Nat) (hp : Nat → va_E) : ∀ k, 16 ≤ k → k < 32 → mxP D cs n st hp k := by
  intro k h1 h2
  have hc : k = 16 ∨ k = 17 ∨ k = 18 ∨ k = 19 ∨ k = 20 ∨ k = 21 ∨ k = 22 ∨ k = 23 ∨ k = 24 ∨ k = 25 ∨ k = 26 ∨ k = 27 ∨ k = 28 ∨ k = 29 ∨ k = 30 ∨ k = 31 := by omega
  rcases hc with rfl | rfl | rfl | rfl | rfl | rfl | rfl | rfl | rfl | rfl | rfl | rfl | rfl | rfl | rfl | rfl
  · exact mx_16 D cs n st hp
  · exact mx_17 D cs n st hp
  · exact mx_18 D cs n st hp
  · exact mx_19 D cs n st hp
  · exact mx_20 D cs n st hp
  · exact mx_21 D cs n st hp
  · exact mx_22 D cs n st hp
  · exact mx_23 D cs n st hp
  · exact mx_24 D cs n st hp
  · exact mx_25 D cs n st hp
  · exact mx_26 D cs n st hp
  · exact mx_27 D cs n st hp
  · exact mx_28 D cs n st hp
  · exact mx_29 D cs n st hp
  · exact mx_30 D cs n st hp
  · exact mx_31 D cs n st hp

theorem mxb_32 (D : va_G) (cs : Nat → ClassId) (n : Nat) (st : Nat → Nat) (hp : Nat → va_E) : ∀ k, 32 ≤ k → k < 48 → mxP D cs n st hp k := by
  intro k h1 h2
  have hc : k = 32 ∨ k = 33 ∨ k = 34 ∨ k = 35 ∨ k = 36 ∨ k = 37 ∨ k = 38 ∨ k = 39 ∨ k = 40 ∨ k = 41 ∨ k = 42 ∨ k = 43 ∨ k = 44 ∨ k = 45 ∨ k = 46 ∨ k = 47 := by omega
  rcases hc with rfl | rfl | rfl | rfl | rfl | rfl | rfl | rfl | rfl | rfl | rfl | rfl | rfl | rfl | rfl | rfl
  · exact mx_32 D cs n st hp
  · exact mx_33 D cs n st hp
  · exact mx_34 D cs n st hp
  · exact mx_35 D cs n st hp
  · exact mx_36 D cs n st hp
  · exact mx_37 D cs n st hp
  · exact mx_38 D cs n st hp
  · exact mx_39 D cs n st hp
  · exact mx_40 D cs n st hp
  · exact mx_41 D cs n st hp
  · exact mx_42 D cs n st hp
  · exact mx_43 D cs n st hp
  · exact mx_44 D cs n st hp
  · exact mx_45 D cs n st hp
  · exact mx_46 D cs n st hp
  · exact mx_47 D cs n st hp

theorem mxb_48 (D : va_G) (cs : Nat → ClassId) (n : Nat) (st : Nat → Nat) (hp : Nat → va_E) : ∀ k, 48 ≤ k → k < 64 → mxP D cs n st hp k := by
  intro k h1 h2
  have hc : k = 48 ∨ k = 49 ∨ k = 50 ∨ k = 51 ∨ k = 52 ∨ k = 53 ∨ k = 54 ∨ k = 55 ∨ k = 56 ∨ k = 57 ∨ k = 58 ∨ k = 59 ∨ k = 60 ∨ k = 61 ∨ k = 62 ∨ k = 63 := by omega
  rcases hc with rfl | rfl | rfl | rfl | rfl | rfl | rfl | rfl | rfl | rfl | rfl | rfl | rfl | rfl | rfl | rfl
  · exact mx_48 D cs n st hp
  · exact mx_49 D cs n st hp
  · exact mx_50 D cs n st hp
  · exact mx_51 D cs n st hp
  · exact mx_52 D cs n st hp
  · exact mx_53 D cs n st hp
  · exact mx_54 D cs n st hp
  · exact mx_55 D cs n st hp
  · exact mx_56 D cs n st hp
  · exact mx_57 D cs n st hp
  · exact mx_58 D cs n st hp
  · exact mx_59 D cs n st hp
  · exact mx_60 D cs n st hp
  · exact mx_61 D cs n st hp
  · exact mx_62 D cs n st hp
  · exact mx_63 D cs n st hp

theorem mxb_64 (D : va_G) (cs : Nat → ClassId) (n : Nat) (st : Nat → Nat) (hp : Nat → va_E) : ∀ k, 64 ≤ k → k < 80 → mxP D cs n st hp k := by
  intro k h1 h2
  have hc : k = 64 ∨ k = 65 ∨ k = 66 ∨ k = 67 ∨ k = 68 ∨ k = 69 ∨ k = 70 ∨ k = 71 ∨ k = 72 ∨ k = 73 ∨ k = 74 ∨ k = 75 ∨ k = 76 ∨ k = 77 ∨ k = 78 ∨ k = 79 := by omega
  rcases hc with rfl | rfl | rfl | rfl | rfl | rfl | rfl | rfl | rfl | rfl | rfl | rfl | rfl | rfl | rfl | rfl
  · exact mx_64 D cs n st hp
  · exact mx_65 D cs n st hp
  · exact mx_66 D cs n st hp
  · exact mx_67 D cs n st hp
  · exact mx_68 D cs n st hp
  · exact mx_69 D cs n st hp
  · exact mx_70 D cs n st hp
  · exact mx_71 D cs n st hp
  · exact mx_72 D cs n st hp
  · exact mx_73 D cs n st hp
  · exact mx_74 D cs n st hp
  · exact mx_75 D cs n st hp
  · exact mx_76 D cs n st hp
  · exact mx_77 D cs n st hp
  · exact mx_78 D cs n st hp
  · exact mx_79 D cs n st hp

theorem mxb_80 (D : va_G) (cs : Nat → ClassId) (n : Nat) (st : Nat → Nat) (hp : Nat → va_E) : ∀ k, 80 ≤ k → k < 96 → mxP D cs n st hp k := by
  intro k h1 h2
  have hc : k = 80 ∨ k = 81 ∨ k = 82 ∨ k = 83 ∨ k = 84 ∨ k = 85 ∨ k = 86 ∨ k = 87 ∨ k = 88 ∨ k = 89 ∨ k = 90 ∨ k = 91 ∨ k = 92 ∨ k = 93 ∨ k = 94 ∨ k = 95 := by omega
  rcases hc with rfl | rfl | rfl | rfl | rfl | rfl | rfl | rfl | rfl | rfl | rfl | rfl | rfl | rfl | rfl | rfl
  · exact mx_80 D cs n st hp
  · exact mx_81 D cs n st hp
  · exact mx_82 D cs n st hp
  · exact mx_83 D cs n st hp
  · exact mx_84 D cs n st hp
  · exact mx_85 D cs n st hp
  · exact mx_86 D cs n st hp
  · exact mx_87 D cs n st hp
  · exact mx_88 D cs n st hp
  · exact mx_89 D cs n st hp
  · exact mx_90 D cs n st hp
  · exact mx_91 D cs n st hp
  · exact mx_92 D cs n st hp
  · exact mx_93 D cs n st hp
  · exact mx_94 D cs n st hp
  · exact mx_95 D cs n st hp

theorem mxb_96 (D : va_G) (cs : Nat → ClassId) (n : Nat) (st : Nat → Nat) (hp : Nat → va_E) : ∀ k, 96 ≤ k → k < 112 → mxP D cs n st hp k := by
  intro k h1 h2
  have hc : k = 96 ∨ k = 97 ∨ k = 98 ∨ k = 99 ∨ k = 100 ∨ k = 101 ∨ k = 102 ∨ k = 103 ∨ k = 104 ∨ k = 105 ∨ k = 106 ∨ k = 107 ∨ k = 108 ∨ k = 109 ∨ k = 110 ∨ k = 111 := by omega
  rcases hc with rfl | rfl | rfl | rfl | rfl | rfl | rfl | rfl | rfl | rfl | rfl | rfl | rfl | rfl | rfl | rfl
  · exact mx_96 D cs n st hp
  · exact mx_97 D cs n st hp
  · exact mx_98 D cs n st hp
  · exact mx_99 D cs n st hp
  · exact mx_100 D cs n st hp
  · exact mx_101 D cs n st hp
  · exact mx_102 D cs n st hp
  · exact mx_103 D cs n st hp
  · exact mx_104 D cs n st hp
  · exact mx_105 D cs n st hp
  · exact mx_106 D cs n st hp
  · exact mx_107 D cs n st hp
  · exact mx_108 D cs n st hp
  · exact mx_109 D cs n st hp
  · exact mx_110 D cs n st hp
  · exact mx_111 D cs n st hp

theorem mxb_112 (D : va_G) (cs : Nat → ClassId) (n : Nat) (st : Nat → Nat) (hp : Nat → va_E) : ∀ k, 112 ≤ k → k < 128 → mxP D cs n st hp k := by
  intro k h1 h2
  have hc : k = 112 ∨ k = 113 ∨ k = 114 ∨ k = 115 ∨ k = 116 ∨ k = 117 ∨ k = 118 ∨ k = 119 ∨ k = 120 ∨ k = 121 ∨ k = 122 ∨ k = 123 ∨ k = 124 ∨ k = 125 ∨ k = 126 ∨ k = 127 := by omega
  rcases hc with rfl | rfl | rfl | rfl | rfl | rfl | rfl | rfl | rfl | rfl | rfl | rfl | rfl | rfl | rfl | rfl
  · exact mx_112 D cs n st hp
  · exact mx_113 D cs n st hp
  · exact mx_114 D cs n st hp
  · exact mx_115 D cs n st hp
  · exact mx_116 D cs n st hp
  · exact mx_117 D cs n st hp
  · exact mx_118 D cs n st hp
  · exact mx_119 D cs n st hp
  · exact mx_120 D cs n st hp
  · exact mx_121 D cs n st hp
  · exact mx_122 D cs n st hp
  · exact mx_123 D cs n st hp
  · exact mx_124 D cs n st hp
  · exact mx_125 D cs n st hp
  · exact mx_126 D cs n st hp
  · exact mx_127 D cs n st hp

theorem mxb_128 (D : va_G) (cs : Nat → ClassId) (n : Nat) (st : Nat → Nat) (hp : Nat → va_E) : ∀ k, 128 ≤ k → k < 144 → mxP D cs n st hp k := by
  intro k h1 h2
  have hc : k = 128 ∨ k = 129 ∨ k = 130 ∨ k = 131 ∨ k = 132 ∨ k = 133 ∨ k = 134 ∨ k = 135 ∨ k = 136 ∨ k = 137 ∨ k = 138 ∨ k = 139 ∨ k = 140 ∨ k = 141 ∨ k = 142 ∨ k = 143 := by omega
  rcases hc with rfl | rfl | rfl | rfl | rfl | rfl | rfl | rfl | rfl | rfl | rfl | rfl | rfl | rfl | rfl | rfl
  · exact mx_128 D cs n st hp
  · exact mx_129 D cs n st hp
  · exact mx_130 D cs n st hp
  · exact mx_131 D cs n st hp
  · exact mx_132 D cs n st hp
  · exact mx_133 D cs n st hp
  · exact mx_134 D cs n st hp
  · exact mx_135 D cs n st hp
  · exact mx_136 D cs n st hp
  · exact mx_137 D cs n st hp
  · exact mx_138 D cs n st hp
  · exact mx_139 D cs n st hp
  · exact mx_140 D cs n st hp
  · exact mx_141 D cs n st hp
  · exact mx_142 D cs n st hp
  · exact mx_143 D cs n st hp

theorem mxb_144 (D : va_G) (cs : Nat → ClassId) (n : Nat) (st : Nat → Nat) (hp : Nat → va_E) : ∀ k, 144 ≤ k → k < 160 → mxP D cs n st hp k := by
  intro k h1 h2
  have hc : k = 144 ∨ k = 145 ∨ k = 146 ∨ k = 147 ∨ k = 148 ∨ k = 149 ∨ k = 150 ∨ k = 151 ∨ k = 152 ∨ k = 153 ∨ k = 154 ∨ k = 155 ∨ k = 156 ∨ k = 157 ∨ k = 158 ∨ k = 159 := by omega
  rcases hc with rfl | rfl | rfl | rfl | rfl | rfl | rfl | rfl | rfl | rfl | rfl | rfl | rfl | rfl | rfl | rfl
  · exact mx_144 D cs n st hp
  · exact mx_145 D cs n st hp
  · exact mx_146 D cs n st hp
  · exact mx_147 D cs n st hp
  · exact mx_148 D cs n st hp
  · exact mx_149 D cs n st hp
  · exact mx_150 D cs n st hp
  · exact mx_151 D cs n st hp
  · exact mx_152 D cs n st hp
  · exact mx_153 D cs n st hp
  · exact mx_154 D cs n st hp
  · exact mx_155 D cs n st hp
  · exact mx_156 D cs n st hp
  · exact mx_157 D cs n st hp
  · exact mx_158 D cs n st hp
  · exact mx_159 D cs n st hp

theorem mxb_160 (D : va_G) (cs : Nat → ClassId) (n : Nat) (st : Nat → Nat) (hp : Nat → va_E) : ∀ k, 160 ≤ k → k < 176 → mxP D cs n st hp k := by
  intro k h1 h2
  have hc : k = 160 ∨ k = 161 ∨ k = 162 ∨ k = 163 ∨ k = 164 ∨ k = 165 ∨ k = 166 ∨ k = 167 ∨ k = 168 ∨ k = 169 ∨ k = 170 ∨ k = 171 ∨ k = 172 ∨ k = 173 ∨ k = 174 ∨ k = 175 := by omega
  rcases hc with rfl | rfl | rfl | rfl | rfl | rfl | rfl | rfl | rfl | rfl | rfl | rfl | rfl | rfl | rfl | rfl
  · exact mx_160 D cs n st hp
  · exact mx_161 D cs n st hp
  · exact mx_162 D cs n st hp
  · exact mx_163 D cs n st hp
  · exact mx_164 D cs n st hp
  · exact mx_165 D cs n st hp
  · exact mx_166 D cs n st hp
  · exact mx_167 D cs n st hp
  · exact mx_168 D cs n st hp
  · exact mx_169 D cs n st hp
  · exact mx_170 D cs n st hp
  · exact mx_171 D cs n st hp
  · exact mx_172 D cs n st hp
  · exact mx_173 D cs n st hp
  · exact mx_174 D cs n st hp
  · exact mx_175 D cs n st hp

theorem mxb_176 (D : va_G) (cs : Nat → ClassId) (n : Nat) (st : Nat → Nat) (hp : Nat → va_E) : ∀ k, 176 ≤ k → k < 192 → mxP D cs n st hp k := by
  intro k h1 h2
  have hc : k = 176 ∨ k = 177 ∨ k = 178 ∨ k = 179 ∨ k = 180 ∨ k = 181 ∨ k = 182 ∨ k = 183 ∨ k = 184 ∨ k = 185 ∨ k = 186 ∨ k = 187 ∨ k = 188 ∨ k = 189 ∨ k = 190 ∨ k = 191 := by omega
  rcases hc with rfl | rfl | rfl | rfl | rfl | rfl | rfl | rfl | rfl | rfl | rfl | rfl | rfl | rfl | rfl | rfl
  · exact mx_176 D cs n st hp
  · exact mx_177 D cs n st hp
  · exact mx_178 D cs n st hp
  · exact mx_179 D cs n st hp
  · exact mx_180 D cs n st hp
  · exact mx_181 D cs n st hp
  · exact mx_182 D cs n st hp
  · exact mx_183 D cs n st hp
  · exact mx_184 D cs n st hp
  · exact mx_185 D cs n st hp
  · exact mx_186 D cs n st hp
  · exact mx_187 D cs n st hp
  · exact mx_188 D cs n st hp
  · exact mx_189 D cs n st hp
  · exact mx_190 D cs n st hp
  · exact mx_191 D cs n st hp

theorem mxb_192 (D : va_G) (cs : Nat → ClassId) (n : Nat) (st : Nat → Nat) (hp : Nat → va_E) : ∀ k, 192 ≤ k → k < 208 → mxP D cs n st hp k := by
  intro k h1 h2
  have hc : k = 192 ∨ k = 193 ∨ k = 194 ∨ k = 195 ∨ k = 196 ∨ k = 197 ∨ k = 198 ∨ k = 199 ∨ k = 200 ∨ k = 201 ∨ k = 202 ∨ k = 203 ∨ k = 204 ∨ k = 205 ∨ k = 206 ∨ k = 207 := by omega
  rcases hc with rfl | rfl | rfl | rfl | rfl | rfl | rfl | rfl | rfl | rfl | rfl | rfl | rfl | rfl | rfl | rfl
  · exact mx_192 D cs n st hp
  · exact mx_193 D cs n st hp
  · exact mx_194 D cs n st hp
  · exact mx_195 D cs n st hp
  · exact mx_196 D cs n st hp
  · exact mx_197 D cs n st hp
  · exact mx_198 D cs n st hp
  · exact mx_199 D cs n st hp
  · exact mx_200 D cs n st hp
  · exact mx_201 D cs n st hp
  · exact mx_202 D cs n st hp
  · exact mx_203 D cs n st hp
  · exact mx_204 D cs n st hp
  · exact mx_205 D cs n st hp
  · exact mx_206 D cs n st hp
  · exact mx_207 D cs n st hp

theorem mxb_208 (D : va_G) (cs : Nat → ClassId) (n : Nat) (st : Nat → Nat) (hp : Nat → va_E) : ∀ k, 208 ≤ k → k < 211 → mxP D cs n st hp k := by
  intro k h1 h2
  have hc : k = 208 ∨ k = 209 ∨ k = 210 := by omega
  rcases hc with rfl | rfl | rfl
  · exact mx_208 D cs n st hp
  · exact mx_209 D cs n st hp
  · exact mx_210 D cs n st hp

theorem mx_all (D : va_G) (cs : Nat → ClassId) (n : Nat) (st : Nat → Nat) (hp : Nat → va_E) : ∀ k, k < 211 → mxP D cs n st hp k := by
  intro k h
  by_cases h0 : k < 16
  · exact mxb_0 D cs n st hp k (by omega) h0
  by_cases h16 : k < 32
  · exact mxb_16 D cs n st hp k (by omega) h16
  by_cases h32 : k < 48
  · exact mxb_32 D cs n st hp k (by omega) h32
  by_cases h48 : k < 64
  · exact mxb_48 D cs n st hp k (by omega) h48
  by_cases h64 : k < 80
  · exact mxb_64 D cs n st hp k (by omega) h64
  by_cases h80 : k < 96
  · exact mxb_80 D cs n st hp k (by omega) h80
  by_cases h96 : k < 112
  · exact mxb_96 D cs n st hp k (by omega) h96
  by_cases h112 : k < 128
  · exact mxb_112 D cs n st hp k (by omega) h112
  by_cases h128 : k < 144
  · exact mxb_128 D cs n st hp k (by omega) h128
  by_cases h144 : k < 160
  · exact mxb_144 D cs n st hp k (by omega) h144
  by_cases h160 : k < 176
  · exact mxb_160 D cs n st hp k (by omega) h160
  by_cases h176 : k < 192
  · exact mxb_176 D cs n st hp k (by omega) h176
  by_cases h192 : k < 208
  · exact mxb_192 D cs n st hp k (by omega) h192
  by_cases h208 : k < 211
  · exact mxb_208 D cs n st hp k (by omega) h208
  omega
theorem mmb_0 (D : va_G) (cs : Nat → ClassId) (n : Nat) (st : Nat → Nat) (hp : Nat → va_E) : ∀ k, 0 ≤ k → k < 12 → mmP D cs n st hp k := by
  intro k h1 h2
  have hc : k = 0 ∨ k = 1 ∨ k = 2 ∨ k = 3 ∨ k = 4 ∨ k = 5 ∨ k = 6 ∨ k = 7 ∨ k = 8 ∨ k = 9 ∨ k = 10 ∨ k = 11 := by omega
  rcases hc with rfl | rfl | rfl | rfl | rfl | rfl | rfl | rfl | rfl | rfl | rfl | rfl
  · exact mm_0 D cs n st hp
  · exact mm_1 D cs n st hp
  · exact mm_2 D cs n st hp
  · exact mm_3 D cs n st hp
  · exact mm_4 D cs n st hp
  · exact mm_5 D cs n st hp
  · exact mm_6 D cs n st hp
  · exact mm_7 D cs n st hp
  · exact mm_8 D cs n st hp
  · exact mm_9 D cs n st hp
  · exact mm_10 D cs n st hp
  · exact mm_11 D cs n st hp

theorem mmb_12 (D : va_G) (cs : Nat → ClassId) (n : Nat) (st : Nat → Nat) (hp : Nat → va_E) : ∀ k, 12 ≤ k → k < 24 → mmP D cs n st hp k := by
  intro k h1 h2
  have hc : k = 12 ∨ k = 13 ∨ k = 14 ∨ k = 15 ∨ k = 16 ∨ k = 17 ∨ k = 18 ∨ k = 19 ∨ k = 20 ∨ k = 21 ∨ k = 22 ∨ k = 23 := by omega
  rcases hc with rfl | rfl | rfl | rfl | rfl | rfl | rfl | rfl | rfl | rfl | rfl | rfl
  · exact mm_12 D cs n st hp
  · exact mm_13 D cs n st hp
  · exact mm_14 D cs n st hp
  · exact mm_15 D cs n st hp
  · exact mm_16 D cs n st hp
  · exact mm_17 D cs n st hp
  · exact mm_18 D cs n st hp
  · exact mm_19 D cs n st hp
  · exact mm_20 D cs n st hp
  · exact mm_21 D cs n st hp
  · exact mm_22 D cs n st hp
  · exact mm_23 D cs n st hp

theorem mm_all (D : va_G) (cs : Nat → ClassId) (n : Nat) (st : Nat → Nat) (hp : Nat → va_E) : ∀ k, k < 24 → mmP D cs n st hp k := by
  intro k h
  by_cases h0 : k < 12
  · exact mmb_0 D cs n st hp k (by omega) h0
  · exact mmb_12 D cs n st hp k (by omega) h
