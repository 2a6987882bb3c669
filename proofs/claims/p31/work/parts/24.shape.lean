section
/-! the shape of the heap behind the constructors, printed by program (wip/gen_shape.py); roots: cells 0, 232; 294 cells -/
def kT_0 : List jC := [.inr (10, [.ref 13, .ref 1, .ref 181, .ref 195]), .inr (9, [.ref 2, .ref 3, .ref 4, .ref 5, .ref 6, .ref 7, .ref 8, .ref 9, .ref 10, .ref 11, .ref 12, .int 0]), .inl (0, 1928, .inl (fun _ => 0)), .inl (0, 1928, .inl (fun _ => 0)), .inl (0, 1928, .inl (fun _ => 0)), .inl (0, 1928, .inl (fun _ => 0)), .inl (0, 1928, .inl (fun _ => 0)), .inl (0, 256, .inl (fun _ => 0)), .inl (1, 200, .inl (fun _ => 0)), .inl (1, 200, .inl (fun _ => 0)), .inl (0, 200, .inl (fun _ => 0)), .inl (0, 200, .inl (fun _ => 0)), .inl (0, 200, .inl (fun _ => 0)), .inr (0, [.ref 1, .ref 14, .int 0, .ref 15, .ref 16, .ref 17, .int 0, .ref 18, .int 0, .ref 19, .int 0, .ref 20, .ref 21, .ref 22]), .inl (2, 4, .inr (.inr (.inr (.inr (fun i => ([23, 58, 93, 128] : List Nat)[i]?))))), .inl (0, 4, .inl (fun _ => 0)), .inl (1, 4, .inl (fun _ => 0)), .inl (0, 28, .inl (fun _ => 0)), .inl (3, 6, .inr (.inr (.inr (.inr (fun i => ([163, 166, 169, 172, 175, 178] : List Nat)[i]?))))), .inl (0, 20, .inl (fun _ => 0)), .inl (0, 48, .inl (fun _ => 0)), .inl (0, 24, .inl (fun _ => 0)), .inl (0, 200, .inl (fun _ => 0)), .inr (5, [.ref 24, .ref 25, .ref 26, .int 0, .ref 27, .int 0, .int 0]), .inl (0, 6, .inl (fun _ => 0)), .inl (0, 6, .inl (fun _ => 0)), .inl (1, 6, .inl (fun _ => 0)), .inl (4, 6, .inr (.inr (.inr (.inr (fun i => ([28, 33, 38, 43, 48, 53] : List Nat)[i]?))))), .inr (3, [.int 0, .int 0, .ref 29, .ref 30, .int 0, .ref 31, .ref 32, .int 0]), .inl (0, 6, .inl (fun _ => 0)), .inl (0, 6, .inl (fun _ => 0)), .inl (0, 24, .inl (fun _ => 0)), .inl (0, 7, .inl (fun _ => 0)), .inr (3, [.int 0, .int 0, .ref 34, .ref 35, .int 0, .ref 36, .ref 37, .int 0]), .inl (0, 6, .inl (fun _ => 0)), .inl (0, 6, .inl (fun _ => 0)), .inl (0, 24, .inl (fun _ => 0)), .inl (0, 7, .inl (fun _ => 0)), .inr (3, [.int 0, .int 0, .ref 39, .ref 40, .int 0, .ref 41, .ref 42, .int 0]), .inl (0, 6, .inl (fun _ => 0))]
def kT_1 : List jC := [.inl (0, 6, .inl (fun _ => 0)), .inl (0, 24, .inl (fun _ => 0)), .inl (0, 7, .inl (fun _ => 0)), .inr (3, [.int 0, .int 0, .ref 44, .ref 45, .int 0, .ref 46, .ref 47, .int 0]), .inl (0, 6, .inl (fun _ => 0)), .inl (0, 6, .inl (fun _ => 0)), .inl (0, 24, .inl (fun _ => 0)), .inl (0, 7, .inl (fun _ => 0)), .inr (3, [.int 0, .int 0, .ref 49, .ref 50, .int 0, .ref 51, .ref 52, .int 0]), .inl (0, 6, .inl (fun _ => 0)), .inl (0, 6, .inl (fun _ => 0)), .inl (0, 24, .inl (fun _ => 0)), .inl (0, 7, .inl (fun _ => 0)), .inr (3, [.int 0, .int 0, .ref 54, .ref 55, .int 0, .ref 56, .ref 57, .int 0]), .inl (0, 6, .inl (fun _ => 0)), .inl (0, 6, .inl (fun _ => 0)), .inl (0, 24, .inl (fun _ => 0)), .inl (0, 7, .inl (fun _ => 0)), .inr (5, [.ref 59, .ref 60, .ref 61, .int 0, .ref 62, .int 0, .int 0]), .inl (0, 6, .inl (fun _ => 0)), .inl (0, 6, .inl (fun _ => 0)), .inl (1, 6, .inl (fun _ => 0)), .inl (4, 6, .inr (.inr (.inr (.inr (fun i => ([63, 68, 73, 78, 83, 88] : List Nat)[i]?))))), .inr (3, [.int 0, .int 0, .ref 64, .ref 65, .int 0, .ref 66, .ref 67, .int 0]), .inl (0, 6, .inl (fun _ => 0)), .inl (0, 6, .inl (fun _ => 0)), .inl (0, 24, .inl (fun _ => 0)), .inl (0, 7, .inl (fun _ => 0)), .inr (3, [.int 0, .int 0, .ref 69, .ref 70, .int 0, .ref 71, .ref 72, .int 0]), .inl (0, 6, .inl (fun _ => 0)), .inl (0, 6, .inl (fun _ => 0)), .inl (0, 24, .inl (fun _ => 0)), .inl (0, 7, .inl (fun _ => 0)), .inr (3, [.int 0, .int 0, .ref 74, .ref 75, .int 0, .ref 76, .ref 77, .int 0]), .inl (0, 6, .inl (fun _ => 0)), .inl (0, 6, .inl (fun _ => 0)), .inl (0, 24, .inl (fun _ => 0)), .inl (0, 7, .inl (fun _ => 0)), .inr (3, [.int 0, .int 0, .ref 79, .ref 80, .int 0, .ref 81, .ref 82, .int 0]), .inl (0, 6, .inl (fun _ => 0))]
def kT_2 : List jC := [.inl (0, 6, .inl (fun _ => 0)), .inl (0, 24, .inl (fun _ => 0)), .inl (0, 7, .inl (fun _ => 0)), .inr (3, [.int 0, .int 0, .ref 84, .ref 85, .int 0, .ref 86, .ref 87, .int 0]), .inl (0, 6, .inl (fun _ => 0)), .inl (0, 6, .inl (fun _ => 0)), .inl (0, 24, .inl (fun _ => 0)), .inl (0, 7, .inl (fun _ => 0)), .inr (3, [.int 0, .int 0, .ref 89, .ref 90, .int 0, .ref 91, .ref 92, .int 0]), .inl (0, 6, .inl (fun _ => 0)), .inl (0, 6, .inl (fun _ => 0)), .inl (0, 24, .inl (fun _ => 0)), .inl (0, 7, .inl (fun _ => 0)), .inr (5, [.ref 94, .ref 95, .ref 96, .int 0, .ref 97, .int 0, .int 0]), .inl (0, 6, .inl (fun _ => 0)), .inl (0, 6, .inl (fun _ => 0)), .inl (1, 6, .inl (fun _ => 0)), .inl (4, 6, .inr (.inr (.inr (.inr (fun i => ([98, 103, 108, 113, 118, 123] : List Nat)[i]?))))), .inr (3, [.int 0, .int 0, .ref 99, .ref 100, .int 0, .ref 101, .ref 102, .int 0]), .inl (0, 6, .inl (fun _ => 0)), .inl (0, 6, .inl (fun _ => 0)), .inl (0, 24, .inl (fun _ => 0)), .inl (0, 7, .inl (fun _ => 0)), .inr (3, [.int 0, .int 0, .ref 104, .ref 105, .int 0, .ref 106, .ref 107, .int 0]), .inl (0, 6, .inl (fun _ => 0)), .inl (0, 6, .inl (fun _ => 0)), .inl (0, 24, .inl (fun _ => 0)), .inl (0, 7, .inl (fun _ => 0)), .inr (3, [.int 0, .int 0, .ref 109, .ref 110, .int 0, .ref 111, .ref 112, .int 0]), .inl (0, 6, .inl (fun _ => 0)), .inl (0, 6, .inl (fun _ => 0)), .inl (0, 24, .inl (fun _ => 0)), .inl (0, 7, .inl (fun _ => 0)), .inr (3, [.int 0, .int 0, .ref 114, .ref 115, .int 0, .ref 116, .ref 117, .int 0]), .inl (0, 6, .inl (fun _ => 0)), .inl (0, 6, .inl (fun _ => 0)), .inl (0, 24, .inl (fun _ => 0)), .inl (0, 7, .inl (fun _ => 0)), .inr (3, [.int 0, .int 0, .ref 119, .ref 120, .int 0, .ref 121, .ref 122, .int 0]), .inl (0, 6, .inl (fun _ => 0))]
def kT_3 : List jC := [.inl (0, 6, .inl (fun _ => 0)), .inl (0, 24, .inl (fun _ => 0)), .inl (0, 7, .inl (fun _ => 0)), .inr (3, [.int 0, .int 0, .ref 124, .ref 125, .int 0, .ref 126, .ref 127, .int 0]), .inl (0, 6, .inl (fun _ => 0)), .inl (0, 6, .inl (fun _ => 0)), .inl (0, 24, .inl (fun _ => 0)), .inl (0, 7, .inl (fun _ => 0)), .inr (5, [.ref 129, .ref 130, .ref 131, .int 0, .ref 132, .int 0, .int 0]), .inl (0, 6, .inl (fun _ => 0)), .inl (0, 6, .inl (fun _ => 0)), .inl (1, 6, .inl (fun _ => 0)), .inl (4, 6, .inr (.inr (.inr (.inr (fun i => ([133, 138, 143, 148, 153, 158] : List Nat)[i]?))))), .inr (3, [.int 0, .int 0, .ref 134, .ref 135, .int 0, .ref 136, .ref 137, .int 0]), .inl (0, 6, .inl (fun _ => 0)), .inl (0, 6, .inl (fun _ => 0)), .inl (0, 24, .inl (fun _ => 0)), .inl (0, 7, .inl (fun _ => 0)), .inr (3, [.int 0, .int 0, .ref 139, .ref 140, .int 0, .ref 141, .ref 142, .int 0]), .inl (0, 6, .inl (fun _ => 0)), .inl (0, 6, .inl (fun _ => 0)), .inl (0, 24, .inl (fun _ => 0)), .inl (0, 7, .inl (fun _ => 0)), .inr (3, [.int 0, .int 0, .ref 144, .ref 145, .int 0, .ref 146, .ref 147, .int 0]), .inl (0, 6, .inl (fun _ => 0)), .inl (0, 6, .inl (fun _ => 0)), .inl (0, 24, .inl (fun _ => 0)), .inl (0, 7, .inl (fun _ => 0)), .inr (3, [.int 0, .int 0, .ref 149, .ref 150, .int 0, .ref 151, .ref 152, .int 0]), .inl (0, 6, .inl (fun _ => 0)), .inl (0, 6, .inl (fun _ => 0)), .inl (0, 24, .inl (fun _ => 0)), .inl (0, 7, .inl (fun _ => 0)), .inr (3, [.int 0, .int 0, .ref 154, .ref 155, .int 0, .ref 156, .ref 157, .int 0]), .inl (0, 6, .inl (fun _ => 0)), .inl (0, 6, .inl (fun _ => 0)), .inl (0, 24, .inl (fun _ => 0)), .inl (0, 7, .inl (fun _ => 0)), .inr (3, [.int 0, .int 0, .ref 159, .ref 160, .int 0, .ref 161, .ref 162, .int 0]), .inl (0, 6, .inl (fun _ => 0))]
def kT_4 : List jC := [.inl (0, 6, .inl (fun _ => 0)), .inl (0, 24, .inl (fun _ => 0)), .inl (0, 7, .inl (fun _ => 0)), .inr (2, [.int 0, .int 0, .int 0, .int 0, .ref 164, .ref 165, .int 0]), .inl (0, 4, .inl (fun _ => 0)), .inl (0, 4, .inl (fun _ => 0)), .inr (2, [.int 0, .int 0, .int 0, .int 0, .ref 167, .ref 168, .int 0]), .inl (0, 4, .inl (fun _ => 0)), .inl (0, 4, .inl (fun _ => 0)), .inr (2, [.int 0, .int 0, .int 0, .int 0, .ref 170, .ref 171, .int 0]), .inl (0, 4, .inl (fun _ => 0)), .inl (0, 4, .inl (fun _ => 0)), .inr (2, [.int 0, .int 0, .int 0, .int 0, .ref 173, .ref 174, .int 0]), .inl (0, 4, .inl (fun _ => 0)), .inl (0, 4, .inl (fun _ => 0)), .inr (2, [.int 0, .int 0, .int 0, .int 0, .ref 176, .ref 177, .int 0]), .inl (0, 4, .inl (fun _ => 0)), .inl (0, 4, .inl (fun _ => 0)), .inr (2, [.int 0, .int 0, .int 0, .int 0, .ref 179, .ref 180, .int 0]), .inl (0, 4, .inl (fun _ => 0)), .inl (0, 4, .inl (fun _ => 0)), .inr (6, [.ref 13, .ref 1, .ref 186, .ref 182, .ref 183, .ref 184, .ref 185, .int 0, .int 0, .int 0]), .inl (0, 28, .inl (fun _ => 0)), .inl (0, 24, .inl (fun _ => 0)), .inl (0, 4, .inl (fun _ => 0)), .inl (0, 6, .inl (fun _ => 0)), .inr (4, [.ref 1, .int 200, .ref 187, .int 0, .ref 188, .ref 189, .ref 190, .int 0, .ref 191, .ref 192, .ref 193, .ref 194, .int 0, .int 0]), .inl (0, 256, .inl (fun _ => 0)), .inl (0, 776, .inl (fun _ => 0)), .inl (0, 776, .inl (fun _ => 0)), .inl (0, 776, .inl (fun _ => 0)), .inl (0, 1928, .inl (fun _ => 0)), .inl (0, 1928, .inl (fun _ => 0)), .inl (0, 200, .inl (fun _ => 0)), .inl (0, 576, .inl (fun _ => 0)), .inr (7, [.ref 13, .ref 196, .ref 204, .ref 213, .ref 202, .ref 222, .int 0, .int 0, .ref 203, .int (-1), .int 0, .int 0, .int 0]), .inr (8, [.ref 197, .ref 198, .ref 199, .ref 200, .ref 201, .int 0]), .inl (0, 16800, .inl (fun _ => 0)), .inl (0, 600, .inl (fun _ => 0)), .inl (0, 600, .inl (fun _ => 0))]
def kT_5 : List jC := [.inl (0, 600, .inl (fun _ => 0)), .inl (0, 1024, .inl (fun _ => 0)), .inl (0, 28, .inl (fun _ => 0)), .inl (0, 24, .inl (fun _ => 0)), .inr (4, [.ref 1, .int 776, .ref 205, .int 0, .ref 206, .ref 207, .ref 208, .int 0, .ref 209, .ref 210, .ref 211, .ref 212, .int 0, .int 0]), .inl (0, 256, .inl (fun _ => 0)), .inl (0, 776, .inl (fun _ => 0)), .inl (0, 776, .inl (fun _ => 0)), .inl (0, 776, .inl (fun _ => 0)), .inl (0, 1928, .inl (fun _ => 0)), .inl (0, 1928, .inl (fun _ => 0)), .inl (0, 200, .inl (fun _ => 0)), .inl (0, 576, .inl (fun _ => 0)), .inr (4, [.ref 1, .int 1352, .ref 214, .int 0, .ref 215, .ref 216, .ref 217, .int 0, .ref 218, .ref 219, .ref 220, .ref 221, .int 0, .int 0]), .inl (0, 256, .inl (fun _ => 0)), .inl (0, 776, .inl (fun _ => 0)), .inl (0, 776, .inl (fun _ => 0)), .inl (0, 776, .inl (fun _ => 0)), .inl (0, 1928, .inl (fun _ => 0)), .inl (0, 1928, .inl (fun _ => 0)), .inl (0, 200, .inl (fun _ => 0)), .inl (0, 576, .inl (fun _ => 0)), .inr (1, [.ref 1, .ref 204, .ref 202, .int 0, .ref 223, .ref 228, .ref 229, .ref 230, .ref 231]), .inl (5, 4, .inr (.inr (.inr (.inr (fun i => ([224, 225, 226, 227] : List Nat)[i]?))))), .inl (0, 200, .inl (fun _ => 0)), .inl (0, 200, .inl (fun _ => 0)), .inl (0, 200, .inl (fun _ => 0)), .inl (0, 200, .inl (fun _ => 0)), .inl (0, 4, .inl (fun _ => 0)), .inl (0, 6, .inl (fun _ => 0)), .inl (0, 200, .inl (fun _ => 0)), .inl (1, 200, .inl (fun _ => 0)), .inr (11, [.ref 233, .ref 234, .ref 235, .ref 236, .ref 237, .ref 238, .ref 239, .ref 240, .ref 241, .int 0, .int 200, .ref 242, .ref 243, .int 0, .ref 244, .ref 245, .ref 246, .ref 247, .ref 248, .ref 249, .ref 250, .ref 251, .int 0, .ref 252, .ref 253, .ref 254, .int 0, .int 0, .ref 255, .ref 256, .int 0, .ref 257, .ref 258, .ref 259, .ref 260, .ref 261, .ref 262, .ref 263, .ref 264, .ref 265, .ref 266, .ref 267, .ref 268, .ref 269, .ref 270, .ref 271, .int 0, .int 0, .ref 272, .int 0, .int (-1), .ref 273, .int 0, .ref 274, .ref 275, .int 0, .ref 276, .ref 277, .ref 278, .ref 279, .ref 280, .int 0, .ref 281, .ref 282, .ref 283, .ref 284, .ref 285, .ref 286, .ref 287, .int 0, .int 0, .int 0, .int (-6), .ref 288, .ref 289, .ref 290, .ref 291, .ref 292, .ref 293]), .inl (0, 1000, .inl (fun _ => 0)), .inl (0, 1000, .inl (fun _ => 0)), .inl (0, 1000, .inl (fun _ => 0)), .inl (0, 1000, .inl (fun _ => 0)), .inl (1, 1000, .inl (fun _ => 0)), .inl (1, 200, .inl (fun _ => 0)), .inl (0, 200, .inl (fun _ => 0))]
def kT_6 : List jC := [.inl (0, 200, .inl (fun _ => 0)), .inl (0, 200, .inl (fun _ => 0)), .inl (0, 1024, .inl (fun _ => 0)), .inl (0, 1000, .inl (fun _ => 0)), .inl (0, 4, .inl (fun _ => 0)), .inl (0, 24, .inl (fun _ => 0)), .inl (0, 24, .inl (fun _ => 0)), .inl (0, 4, .inl (fun _ => 0)), .inl (0, 24, .inl (fun _ => 0)), .inl (1, 24, .inl (fun _ => 0)), .inl (1, 4, .inl (fun _ => 0)), .inl (0, 24, .inl (fun _ => 0)), .inl (0, 600, .inl (fun _ => 0)), .inl (0, 24, .inl (fun _ => 0)), .inl (0, 20, .inl (fun _ => 0)), .inl (0, 4, .inl (fun _ => 0)), .inl (0, 24, .inl (fun _ => 0)), .inl (1, 6, .inl (fun _ => 0)), .inl (0, 6, .inl (fun _ => 0)), .inl (0, 6, .inl (fun _ => 0)), .inl (0, 6, .inl (fun _ => 0)), .inl (0, 6, .inl (fun _ => 0)), .inl (0, 24, .inl (fun _ => 0)), .inl (0, 24, .inl (fun _ => 0)), .inl (0, 4, .inl (fun _ => 0)), .inl (0, 24, .inl (fun _ => 0)), .inl (1, 200, .inl (fun _ => 0)), .inl (0, 200, .inl (fun _ => 0)), .inl (0, 1000, .inl (fun _ => 0)), .inl (0, 1000, .inl (fun _ => 0)), .inl (0, 1000, .inl (fun _ => 0)), .inl (1, 1000, .inl (fun _ => 0)), .inl (1, 1000, .inl (fun _ => 0)), .inl (0, 4, .inl (fun _ => 0)), .inl (0, 24, .inl (fun _ => 0)), .inl (0, 24, .inl (fun _ => 0)), .inl (0, 4, .inl (fun _ => 0)), .inl (0, 600, .inl (fun _ => 0)), .inl (0, 6, .inl (fun _ => 0)), .inl (0, 600, .inl (fun _ => 0))]
def kT_7 : List jC := [.inl (1, 1000, .inl (fun _ => 0)), .inl (0, 600, .inl (fun _ => 0)), .inl (0, 600, .inl (fun _ => 0)), .inl (0, 600, .inl (fun _ => 0)), .inl (0, 2400, .inl (fun _ => 0)), .inl (0, 14400, .inl (fun _ => 0)), .inl (0, 600, .inl (fun _ => 0)), .inl (0, 600, .inl (fun _ => 0)), .inl (0, 24, .inl (fun _ => 0)), .inl (0, 24, .inl (fun _ => 0)), .inl (0, 4, .inl (fun _ => 0)), .inl (0, 24, .inl (fun _ => 0)), .inl (0, 6, .inl (fun _ => 0)), .inl (0, 6, .inl (fun _ => 0))]
def kT : List jC := kT_0 ++ (kT_1 ++ (kT_2 ++ (kT_3 ++ (kT_4 ++ (kT_5 ++ (kT_6 ++ (kT_7)))))))
end
section
section JF
variable {L : Nat} {xs : Nat → Int32} {d mi pc : Nat} {lv : jL} {st : List Value} {h : List jC} {r : Option Value × List jC}
theorem jG_alen {a n : Nat} {f : Nat → Int32} {rest : List Value} (hi : jm_ins mi pc = some (.arraylength, 1)) (ha : h[a]? = some (.inl (0, n, .inl f))) (g : jG L xs (d + 1) mi (pc + 1) lv (.int (Int32.ofNat n) :: rest) h r) : jG L xs (d + 1) mi pc lv (.ref a :: rest) h r :=
  jG_step hi (Or.inr rfl) rfl rfl (by
    show (if d + 1 = 0 then none else jH L xs (decide (mi = 0)) (jm_ini mi) (jm_own mi) pc lv (.ref a :: rest) h .arraylength) = _
    rw [if_neg (Nat.succ_ne_zero d)]
    simp only [jH, ha]
    rfl) g
end JF
theorem jfill_ok (L : Nat) (xs : Nat → Int32) (d a n : Nat) (v : Int32) (f : Nat → Int32) (h : List jC) (hn : n < 2 ^ 31) (ha : h[a]? = some (.inl (0, n, .inl f))) : jMR L xs (d + 1) 227 [.ref a, .int v] h (none, h.set a (.inl (0, n, .inl (fun j => if j < n then v else f j)))) := by
  show jG L xs (d + 1) 227 0 [(0, .ref a), (1, .int v)] [] h _
  have hl := (List.getElem?_eq_some_iff.mp ha).1
  refine jG_seg 3 (pc' := 3) (lv' := [(2, .int 0), (0, .ref a), (1, .int v)]) (st' := [.ref a]) (h' := h) (fun N => rfl) ?_
  refine jG_alen rfl ha ?_
  refine jG_seg 1 (pc' := 5) (lv' := [(3, .int (nI n)), (2, .int 0), (0, .ref a), (1, .int v)]) (st' := []) (h' := h) (fun N => rfl) ?_
  by_cases h0 : n = 0
  · subst h0
    refine jG_seg 3 (pc' := 20) (lv' := [(3, .int (nI 0)), (2, .int 0), (0, .ref a), (1, .int v)]) (st' := []) (h' := h) (fun N => ?_) ?_
    · have e : jcmp .ge 0 (nI 0) = true := by decide
      show jrun L xs N (d + 1) 227 (if jcmp .ge 0 (nI 0) then 20 else 10) _ _ _ = _
      rw [e]
      rfl
    · have e : h.set a (.inl (0, 0, .inl (fun j => if j < 0 then v else f j))) = h := by
        have hf : (fun j => if j < 0 then v else f j) = f := funext fun j => if_neg (by omega)
        rw [hf]
        obtain ⟨hlt, he⟩ := List.getElem?_eq_some_iff.mp ha
        rw [← he]
        exact List.set_getElem_self hlt
      rw [e]
      exact jG_ret (i := .return_) (len := 1) rfl (Or.inr rfl) rfl
  · have hp : 0 < n := by omega
    have e : jcmp .ge 0 (nI n) = false := decide_eq_false (by rw [← nI_0]; exact nI_ge hp hn)
    refine jG_seg 6 (pc' := 13) (lv' := [(3, .int (nI n)), (2, .int 0), (0, .ref a), (1, .int v)]) (st' := [.int v, .int 0, .ref a]) (h' := h) (fun N => ?_) ?_
    · show jrun L xs (N + 3) (d + 1) 227 (if jcmp .ge 0 (nI n) then 20 else 10) _ _ _ = _
      rw [e]
      rfl
    · refine jG_iast rfl ha (decide_eq_true (by rw [← nI_0]; exact nI_in hp hn)) ?_
      refine jG_seg 2 (pc' := 5) (lv' := [(2, .int (nI 1)), (3, .int (nI n)), (0, .ref a), (1, .int v)]) (st' := []) (fun N => rfl) ?_
      have := jfill_loop L xs d a n v hn (n - 1) 1 (upd f 0 v) (h.set a (.inl (0, n, .inl (upd f 0 v)))) (by omega) (List.getElem?_set_self hl)
      rw [List.set_set] at this
      have hf : (fun j => if 1 ≤ j ∧ j < n then v else upd f 0 v j) = (fun j => if j < n then v else f j) := by
        funext j
        by_cases hj : j = 0
        · subst hj
          rw [if_neg (by omega), if_pos hp, pk_us]
        · rw [pk_un hj]
          by_cases h1 : j < n
          · rw [if_pos h1, if_pos (by omega)]
          · rw [if_neg h1, if_neg (by omega)]
      rw [hf] at this
      exact this
theorem jH_indep {L L' : Nat} {xs xs' : Nat → Int32} {ini : Bool} {k pc : Nat} {lv : jL} {st : List Value} {h : List jC} {i : Instr} : jH L xs false ini k pc lv st h i = jH L' xs' false ini k pc lv st h i := by
  cases i <;> first | rfl | (simp only [jH]; split <;> simp_all)
theorem jrun_indep (L L' : Nat) (xs xs' : Nat → Int32) : ∀ (n d mi pc : Nat) (lv : jL) (st : List Value) (h : List jC), mi ≠ 0 → jrun L xs n d mi pc lv st h = jrun L' xs' n d mi pc lv st h := by
  intro n
  induction n with
  | zero => intro d mi pc lv st h _; rfl
  | succ n ih =>
    intro d mi pc lv st h h0
    rw [jrun, jrun]
    cases hi : jm_ins mi pc with
    | none => rfl
    | some q =>
      obtain ⟨i, len⟩ := q
      dsimp only
      by_cases hl : jlen i = 0 ∨ len = jlen i
      · rw [if_pos hl, if_pos hl]
        cases he : jend mi st i with
        | some r0 => rfl
        | none =>
          dsimp only
          cases hc : jcall (jm_own mi) st h i with
          | some q =>
            obtain ⟨y, as, rest⟩ := q
            cases d with
            | zero => rfl
            | succ d' =>
              dsimp only
              by_cases hy : y ≠ 0 ∧ y < jm_n ∧ (lg_sl as).length ≤ jm_maxL y
              · rw [if_pos hy, if_pos hy, ih d' y 0 _ _ _ hy.1]
                cases hr : jrun L' xs' n d' y 0 (lv_args 0 as) [] h with
                | none => rfl
                | some q1 => exact ih _ _ _ _ _ _ h0
              · rw [if_neg hy, if_neg hy]
          | none =>
            dsimp only
            have hs : jstep L xs d mi pc lv st h i len = jstep L' xs' d mi pc lv st h i len := by
              unfold jstep
              rw [show decide (mi = 0) = false from decide_eq_false h0, jH_indep (L' := L') (xs' := xs')]
            rw [hs]
            cases hst : jstep L' xs' d mi pc lv st h i len with
            | none => rfl
            | some q => exact ih _ _ _ _ _ _ h0
      · rw [if_neg hl, if_neg hl]
end
section
theorem jG_get {L : Nat} {xs : Nat → Int32} {d mi pc : Nat} {lv : jL} {h : List jC} {r : Option Value × List jC} {idx a ci f : Nat} {fs : List Value} {v : Value} {rest : List Value} (hi : jm_ins mi pc = some (.getfield idx, 3)) (hf : jm_fld (jm_own mi) idx = some (ci, f)) (ha : h[a]? = some (.inr (ci, fs))) (hv : fs[f]? = some v) (g : jG L xs (d + 1) mi (pc + 3) lv (v :: rest) h r) : jG L xs (d + 1) mi pc lv (.ref a :: rest) h r :=
  jG_step hi (Or.inr rfl) rfl rfl (by
    show (if d + 1 = 0 then none else jH L xs (decide (mi = 0)) (jm_ini mi) (jm_own mi) pc lv (.ref a :: rest) h (.getfield idx)) = _
    rw [if_neg (Nat.succ_ne_zero d)]
    simp only [jH, hf, ha, hv]
    rfl) g
theorem jempty_loop (L : Nat) (xs : Nat → Int32) (d o a : Nat) (fs : List Value) (hfs : fs[11]? = some (.ref a)) (hoa : o ≠ a) : ∀ (m i : Nat) (f : Nat → Int32) (h : List jC), i + m = 1024 → h[o]? = some (.inr (11, fs)) → h[a]? = some (.inl (0, 1024, .inl f)) → jG L xs (d + 1) 146 2 [(1, .int (nI i)), (0, .ref o)] [] h (none, h.set a (.inl (0, 1024, .inl (fun j => if i ≤ j ∧ j < 1024 then -1 else f j)))) := by
  intro m
  induction m with
  | zero =>
    intro i f h hi ho ha
    have hin : i = 1024 := by omega
    subst hin
    refine jG_seg 3 (pc' := 22) (lv' := [(1, .int (nI 1024)), (0, .ref o)]) (st' := []) (h' := h) (fun N => ?_) ?_
    · have e : jcmp .ge (nI 1024) (Int16.ofInt 1024).toInt32 = true := by decide
      show jrun L xs N (d + 1) 146 (if jcmp .ge (nI 1024) (Int16.ofInt 1024).toInt32 then 22 else 9) _ _ _ = _
      rw [e]
      rfl
    · have e : h.set a (.inl (0, 1024, .inl (fun j => if 1024 ≤ j ∧ j < 1024 then -1 else f j))) = h := by
        have hf : (fun j => if 1024 ≤ j ∧ j < 1024 then -1 else f j) = f := funext fun j => if_neg (by omega)
        rw [hf]
        obtain ⟨hlt, he⟩ := List.getElem?_eq_some_iff.mp ha
        rw [← he]
        exact List.set_getElem_self hlt
      rw [e]
      exact jG_ret (i := .return_) (len := 1) rfl (Or.inr rfl) rfl
  | succ m ih =>
    intro i f h hi ho ha
    have hlt : i < 1024 := by omega
    have h16 : (Int16.ofInt 1024).toInt32 = nI 1024 := by decide
    have e : jcmp .ge (nI i) (Int16.ofInt 1024).toInt32 = false := by rw [h16]; exact decide_eq_false (nI_ge hlt (by decide))
    refine jG_seg 4 (pc' := 10) (lv' := [(1, .int (nI i)), (0, .ref o)]) (st' := [.ref o]) (h' := h) (fun N => ?_) ?_
    · show jrun L xs (N + 1) (d + 1) 146 (if jcmp .ge (nI i) (Int16.ofInt 1024).toInt32 then 22 else 9) _ _ _ = _
      rw [e]
      rfl
    · refine jG_get (idx := 42) rfl rfl ho hfs ?_
      refine jG_seg 2 (pc' := 15) (lv' := [(1, .int (nI i)), (0, .ref o)]) (st' := [.int (-1), .int (nI i), .ref a]) (h' := h) (fun N => rfl) ?_
      refine jG_iast rfl ha (decide_eq_true (nI_in hlt (by decide))) ?_
      rw [nI_clamp (Nat.lt_trans hlt (by decide))]
      refine jG_seg 2 (pc' := 2) (lv' := [(1, .int (nI i + 1)), (0, .ref o)]) (st' := []) (fun N => rfl) ?_
      rw [← nI_succ]
      have hl := (List.getElem?_eq_some_iff.mp ha).1
      have := ih (i + 1) (upd f i (-1)) (h.set a (.inl (0, 1024, .inl (upd f i (-1))))) (by omega) (by rw [List.getElem?_set_ne (Ne.symm hoa)]; exact ho) (List.getElem?_set_self hl)
      rw [List.set_set] at this
      have hf : (fun j => if i + 1 ≤ j ∧ j < 1024 then -1 else upd f i (-1) j) = (fun j => if i ≤ j ∧ j < 1024 then -1 else f j) := by
        funext j
        by_cases hj : j = i
        · subst hj
          rw [if_neg (by omega), if_pos ⟨Nat.le_refl _, hlt⟩, pk_us]
        · rw [pk_un hj]
          by_cases h1 : i ≤ j ∧ j < 1024
          · rw [if_pos h1, if_pos (by omega)]
          · rw [if_neg h1, if_neg (by omega)]
      rw [hf] at this
      exact this
theorem jempty_ok (L : Nat) (xs : Nat → Int32) (d o a : Nat) (fs : List Value) (f : Nat → Int32) (h : List jC) (hfs : fs[11]? = some (.ref a)) (hoa : o ≠ a) (ho : h[o]? = some (.inr (11, fs))) (ha : h[a]? = some (.inl (0, 1024, .inl f))) : jMR L xs (d + 1) 146 [.ref o] h (none, h.set a (.inl (0, 1024, .inl (fun j => if j < 1024 then -1 else f j)))) := by
  show jG L xs (d + 1) 146 0 [(0, .ref o)] [] h _
  refine jG_seg 2 (pc' := 2) (lv' := [(1, .int (nI 0)), (0, .ref o)]) (st' := []) (h' := h) (fun N => rfl) ?_
  have := jempty_loop L xs d o a fs hfs hoa 1024 0 f h rfl ho ha
  have hf : (fun j => if 0 ≤ j ∧ j < 1024 then (-1 : Int32) else f j) = (fun j => if j < 1024 then -1 else f j) := by
    funext j
    by_cases h1 : j < 1024
    · rw [if_pos h1, if_pos ⟨Nat.zero_le _, h1⟩]
    · rw [if_neg h1, if_neg (by omega)]
  rw [hf] at this
  exact this
/-- the summaries that the constructors need -/
def jS0 : jSm := fun y as h => if y = 227 then (match as with
    | [.ref a, .int v] => match h[a]? with
      | some (.inl (t, n, .inl f)) => if t = 0 ∧ n < 100000 then some (none, h.set a (.inl (0, n, .inl (fun j => if j < n then v else f j)))) else none
      | _ => none
    | _ => none)
  else if y = 146 then (match as with
    | [.ref o] => match h[o]? with
      | some (.inr (ci, fs)) => (match (fs[11]? : Option Value) with
        | some (.ref a) => (match h[a]? with
          | some (.inl (t, n, .inl f)) => if ci = 11 ∧ t = 0 ∧ n = 1024 ∧ o ≠ a then some (none, h.set a (.inl (0, 1024, .inl (fun j => if j < 1024 then -1 else f j)))) else none
          | _ => none)
        | _ => none)
      | _ => none
    | _ => none)
  else none
theorem jS0_ok (L : Nat) (xs : Nat → Int32) : jSmOK L xs (fun _ => 1) jS0 := by
  intro y as h r hs d hd
  have hd : 1 ≤ d := hd
  obtain ⟨d, rfl⟩ : ∃ d', d = d' + 1 := ⟨d - 1, by omega⟩
  unfold jS0 at hs
  split at hs
  · next hy =>
    subst hy
    split at hs
    · split at hs
      · next ha =>
        split at hs
        · next he =>
          cases hs
          obtain ⟨rfl, hn⟩ := he
          exact jfill_ok L xs d _ _ _ _ h (Nat.lt_trans hn (by decide)) ha
        · cases hs
      · cases hs
    · cases hs
  · split at hs
    · next hy =>
      subst hy
      split at hs
      · split at hs
        · next ho =>
          split at hs
          · next hfs =>
            split at hs
            · next ha =>
              split at hs
              · next he =>
                cases hs
                obtain ⟨rfl, rfl, rfl, hne⟩ := he
                exact jempty_ok L xs d _ _ _ _ h hfs hne ho ha
              · cases hs
            · cases hs
          · cases hs
        · cases hs
      · cases hs
    · cases hs
end
section
/-! the two constructors, evaluated -/
def jnew (ci : Nat) : jC := .inr (ci, (List.range (jm_nf ci)).map (fun j => defaultValue (jm_ty ci j)))
def jcA : Option (Option Value × List jC) := qrun (fun _ => 1) jS0 0 (fun _ => 0) 20000 200 108 0 [(0, .ref 0)] [] [jnew 10]
def jcB (h : List jC) : Option (Option Value × List jC) := qrun (fun _ => 1) jS0 0 (fun _ => 0) 20000 200 144 0 [(0, .ref 232)] [] (h ++ [jnew 11])
def kshp (t c : jC) : Bool := match t, c with
  | .inr (ci, ts), .inr (ci', fs) => decide (ci' = ci) && decide (fs = ts)
  | .inl (t, n, .inl _), .inl (t', n', .inl _) => decide (t' = t) && decide (n' = n)
  | .inl (t, n, .inr (.inr (.inr (.inr g)))), .inl (t', n', .inr (.inr (.inr (.inr g')))) => decide (t' = t) && (decide (n' = n) && (List.range n).all (fun j => decide (g' j = g j)))
  | _, _ => false
def kcon (c : jC) (j : Nat) : Int32 := match c with
  | .inr (_, fs) => (match (fs[j]? : Option Value) with
    | some (.int x) => x
    | _ => 0)
  | .inl (_, _, .inl g) => g j
  | _ => 0
def kof (h : List jC) : kS := fun k j => match h[k]? with
  | some c => kcon c j
  | none => 0
theorem kself (fs : List Value) : fs = fs.mapIdx (kval (fun j => match (fs[j]? : Option Value) with | some (.int x) => x | _ => 0)) := by
  apply List.ext_getElem?
  intro k
  rw [List.getElem?_mapIdx]
  cases h : fs[k]? with
  | none => rfl
  | some v => cases v <;> simp [kval, h]
theorem kshp_ok {t c : jC} (h : kshp t c = true) : kR t c (kcon c) := by
  unfold kshp at h
  split at h
  · next ci ts ci' fs =>
    rw [Bool.and_eq_true] at h
    have h1 := of_decide_eq_true h.1
    have h2 := of_decide_eq_true h.2
    subst h1
    subst h2
    exact ⟨rfl, kself fs⟩
  · rw [Bool.and_eq_true] at h
    exact ⟨of_decide_eq_true h.1, of_decide_eq_true h.2, fun _ _ => rfl⟩
  · rw [Bool.and_eq_true, Bool.and_eq_true] at h
    exact ⟨of_decide_eq_true h.1, of_decide_eq_true h.2.1, fun j hj => of_decide_eq_true (List.all_eq_true.mp h.2.2 j (List.mem_range.mpr hj))⟩
  · cases h
def kshps : List jC → List jC → Bool
  | [], [] => true
  | t :: ts, c :: cs => kshp t c && kshps ts cs
  | _, _ => false
theorem kshps_ok : ∀ (T h : List jC), kshps T h = true → kE T (kof h) h := by
  have key : ∀ (T h : List jC), kshps T h = true → ∀ (k : Nat) (t : jC), T[k]? = some t → ∃ c, h[k]? = some c ∧ kshp t c = true := by
    intro T
    induction T with
    | nil => intro h _ k t hk; simp at hk
    | cons t0 T ih =>
      intro h hs k t hk
      cases h with
      | nil => cases hs
      | cons c0 h =>
        unfold kshps at hs
        rw [Bool.and_eq_true] at hs
        cases k with
        | zero =>
          simp at hk
          subst hk
          exact ⟨c0, rfl, hs.1⟩
        | succ k =>
          simp at hk
          obtain ⟨c, h1, h2⟩ := ih h hs.2 k t hk
          exact ⟨c, by simpa using h1, h2⟩
  have len : ∀ (T h : List jC), kshps T h = true → h.length = T.length := by
    intro T
    induction T with
    | nil =>
      intro h hs
      cases h with
      | nil => rfl
      | cons c h => cases hs
    | cons t T ih =>
      intro h hs
      cases h with
      | nil => cases hs
      | cons c h =>
        unfold kshps at hs
        rw [Bool.and_eq_true] at hs
        simp [ih h hs.2]
  intro T h hs
  refine ⟨len T h hs, ?_⟩
  intro k t hk
  obtain ⟨c, h1, h2⟩ := key T h hs k t hk
  refine ⟨c, h1, ?_⟩
  have : kof h k = kcon c := by
    funext j
    unfold kof
    rw [h1]
  rw [this]
  exact kshp_ok h2
/-- of the contents: the heads of chains -/
def khd (h : List jC) (k n : Nat) : Bool := match h[k]? with
  | some c => (List.range n).all (fun j => decide (kcon c j = -1))
  | none => false
end
section
theorem kof_obj {h : List jC} (hs : kshps kT h = true) {k j ci : Nat} {ts : List Value} {x : Int32} (hk : kT[k]? = some (.inr (ci, ts))) (hj : ts[j]? = some (.int x)) : kof h k j = x := by
  have key : ∀ (T h : List jC), kshps T h = true → ∀ (k : Nat) (t : jC), T[k]? = some t → ∃ c, h[k]? = some c ∧ kshp t c = true := by
    intro T
    induction T with
    | nil => intro h _ k t hk; simp at hk
    | cons t0 T ih =>
      intro h hs k t hk
      cases h with
      | nil => cases hs
      | cons c0 h =>
        unfold kshps at hs
        rw [Bool.and_eq_true] at hs
        cases k with
        | zero =>
          simp at hk
          subst hk
          exact ⟨c0, rfl, hs.1⟩
        | succ k =>
          simp at hk
          obtain ⟨c, h1, h2⟩ := ih h hs.2 k t hk
          exact ⟨c, by simpa using h1, h2⟩
  obtain ⟨c, h1, h2⟩ := key kT h hs k _ hk
  obtain q | ⟨ci', fs⟩ := c
  · cases h2
  · have h3 : (decide (ci' = ci) && decide (fs = ts)) = true := h2
    rw [Bool.and_eq_true] at h3
    have h4 := of_decide_eq_true h3.2
    subst h4
    unfold kof
    rw [h1]
    show (match (fs[j]? : Option Value) with | some (.int x) => x | _ => 0) = x
    rw [hj]
theorem khd_ok {h : List jC} {k n j : Nat} (hh : khd h k n = true) (hj : j < n) : kof h k j = -1 := by
  unfold khd at hh
  unfold kof
  split at hh
  · next c hc =>
    exact of_decide_eq_true (List.all_eq_true.mp hh j (List.mem_range.mpr hj))
  · cases hh
end
section
/-! triples: from here, over the fixed shape, the method ends with an answer and contents of which Q holds -/
def kX (T : List jC) (L : Nat) (xs : Nat → Int32) (d mi pc : Nat) (lv : jL) (st : List Value) (σ : kS) (Q : Option Value → kS → Prop) : Prop := ∀ h, kE T σ h → ∃ r σ' h', jG L xs d mi pc lv st h (r, h') ∧ kE T σ' h' ∧ Q r σ'
def kXM (T : List jC) (L : Nat) (xs : Nat → Int32) (d y : Nat) (as : List Value) (σ : kS) (Q : Option Value → kS → Prop) : Prop := kX T L xs d y 0 (lv_args 0 as) [] σ Q
def kyok (y : Nat) (as : List Value) : Bool := decide (y ≠ 0) && (decide (y < jm_n) && decide ((lg_sl as).length ≤ jm_maxL y))
theorem kyok_ok {y : Nat} {as : List Value} (h : kyok y as = true) : y ≠ 0 ∧ y < jm_n ∧ (lg_sl as).length ≤ jm_maxL y := by
  unfold kyok at h
  rw [Bool.and_eq_true, Bool.and_eq_true] at h
  exact ⟨of_decide_eq_true h.1, of_decide_eq_true h.2.1, of_decide_eq_true h.2.2⟩
section KX
variable {T : List jC} {L : Nat} {xs : Nat → Int32} {d mi pc : Nat} {lv : jL} {st : List Value} {σ : kS} {Q : Option Value → kS → Prop}
theorem kX_one {pc1 : Nat} {lv1 : jL} {st1 : List Value} {σ1 : kS} (hs : kone T L xs d mi pc lv st σ = some (pc1, lv1, st1, σ1)) (g : kX T L xs d mi pc1 lv1 st1 σ1 Q) : kX T L xs d mi pc lv st σ Q := by
  intro h hE
  unfold kone at hs
  split at hs
  · cases hs
  · next i len hi =>
    split at hs
    · next hl =>
      split at hs
      · cases hs
      · next he =>
        split at hs
        · cases hs
        · next hc =>
          have hcn := kcall_none hE hl.2 hc
          split at hs
          · next pc2 lv2 st2 hA =>
            cases hs
            obtain ⟨r, σ', h', g1, g2⟩ := g h hE
            refine ⟨r, σ', h', jG_step hi hl.1 he hcn ?_ g1, g2⟩
            unfold jstep
            rw [hA]
          · next hA =>
            split at hs
            · cases hs
            · next hd =>
              obtain ⟨h1, q1, q2⟩ := kH_ok (ini := jm_ini mi) hE hs
              obtain ⟨r, σ', h', g1, g2⟩ := g h1 q2
              refine ⟨r, σ', h', jG_step hi hl.1 he hcn ?_ g1, g2⟩
              unfold jstep
              rw [hA]
              dsimp only
              rw [if_neg hd]
              exact q1
    · cases hs
theorem kX_ret {i : Instr} {len : Nat} {r : Option Value} (hi : jm_ins mi pc = some (i, len)) (hl : jlen i = 0 ∨ len = jlen i) (he : jend mi st i = some r) (hq : Q r σ) : kX T L xs d mi pc lv st σ Q := fun h hE => ⟨r, σ, h, jG_ret hi hl he, hE, hq⟩
theorem kX_cal {i : Instr} {len y : Nat} {as rest : List Value} {Q1 : Option Value → kS → Prop} (hm : kXM T L xs d y as σ Q1) (hi : jm_ins mi pc = some (i, len)) (hl : jlen i = 0 ∨ len = jlen i) (he : jend mi st i = none) (hc : jcall (jm_own mi) st T i = some (y, as, rest)) (hy : kyok y as = true)
    (g : ∀ r1 σ1, Q1 r1 σ1 → kX T L xs (d + 1) mi (pc + 3) lv (r1.toList ++ rest) σ1 Q) : kX T L xs (d + 1) mi pc lv st σ Q := by
  intro h hE
  obtain ⟨r1, σ1, h1, q1, q2, q3⟩ := hm h hE
  obtain ⟨r, σ', h', g1, g2⟩ := g r1 σ1 q3 h1 q2
  exact ⟨r, σ', h', jG_call hi hl he (kcall_ok hE hc) (kyok_ok hy) q1 g1, g2⟩
theorem kX_if {c : Bool} {p1 p2 : Nat} (ht : c = true → kX T L xs d mi p1 lv st σ Q) (hf : c = false → kX T L xs d mi p2 lv st σ Q) : kX T L xs d mi (if c = true then p1 else p2) lv st σ Q := by
  cases c with
  | true => exact ht rfl
  | false => exact hf rfl
theorem kX_post {Q1 : Option Value → kS → Prop} (g : kX T L xs d mi pc lv st σ Q1) (hq : ∀ r σ', Q1 r σ' → Q r σ') : kX T L xs d mi pc lv st σ Q := by
  intro h hE
  obtain ⟨r, σ', h', g1, g2, g3⟩ := g h hE
  exact ⟨r, σ', h', g1, g2, hq _ _ g3⟩
theorem kX_iald {j : Int32} {a n : Nat} {g0 : Nat → Int32} {rest : List Value} (hi : jm_ins mi pc = some (.iaload, 1)) (ha : T[a]? = some (.inl (0, n, .inl g0))) (hj : jin j n = true) (g : kX T L xs (d + 1) mi (pc + 1) lv (.int (σ a j.toNatClampNeg) :: rest) σ Q) : kX T L xs (d + 1) mi pc lv (.int j :: .ref a :: rest) σ Q :=
  kX_one (by unfold kone; rw [hi]; simp [jlen, kplain, jend, jcall, jA, kH, ha, hj]) g
theorem kX_bald {j : Int32} {a n : Nat} {g0 : Nat → Int32} {rest : List Value} (hi : jm_ins mi pc = some (.baload, 1)) (ha : T[a]? = some (.inl (1, n, .inl g0))) (hj : jin j n = true) (g : kX T L xs (d + 1) mi (pc + 1) lv (.int (σ a j.toNatClampNeg) :: rest) σ Q) : kX T L xs (d + 1) mi pc lv (.int j :: .ref a :: rest) σ Q :=
  kX_one (by unfold kone; rw [hi]; simp [jlen, kplain, jend, jcall, jA, kH, ha, hj]) g
theorem kX_iast {x j : Int32} {a n : Nat} {g0 : Nat → Int32} {rest : List Value} (hi : jm_ins mi pc = some (.iastore, 1)) (ha : T[a]? = some (.inl (0, n, .inl g0))) (hj : jin j n = true) (g : kX T L xs (d + 1) mi (pc + 1) lv rest (va_up σ a (upd (σ a) j.toNatClampNeg x)) Q) : kX T L xs (d + 1) mi pc lv (.int x :: .int j :: .ref a :: rest) σ Q :=
  kX_one (by unfold kone; rw [hi]; simp [jlen, kplain, jend, jcall, jA, kH, ha, hj]) g
theorem kX_bast {x j : Int32} {a n : Nat} {g0 : Nat → Int32} {rest : List Value} (hi : jm_ins mi pc = some (.bastore, 1)) (ha : T[a]? = some (.inl (1, n, .inl g0))) (hj : jin j n = true) (hx : x = 0 ∨ x = 1) (g : kX T L xs (d + 1) mi (pc + 1) lv rest (va_up σ a (upd (σ a) j.toNatClampNeg x)) Q) : kX T L xs (d + 1) mi pc lv (.int x :: .int j :: .ref a :: rest) σ Q :=
  kX_one (by unfold kone; rw [hi]; simp [jlen, kplain, jend, jcall, jA, kH, ha, hj, hx]) g
theorem kX_aald {j : Int32} {a n t : Nat} {g0 : Nat → Option Nat} {rest : List Value} (hi : jm_ins mi pc = some (.aaload, 1)) (ha : T[a]? = some (.inl (t, n, .inr (.inr (.inr (.inr g0)))))) (h2 : 2 ≤ t) (ht : t < jm_nat) (hj : jin j n = true) (g : kX T L xs (d + 1) mi (pc + 1) lv (jrf (g0 j.toNatClampNeg) :: rest) σ Q) : kX T L xs (d + 1) mi pc lv (.int j :: .ref a :: rest) σ Q :=
  kX_one (by unfold kone; rw [hi]; simp [jlen, kplain, jend, jcall, jA, kH, ha, hj, h2, ht]) g
end KX
theorem kX_fill {T : List jC} (L : Nat) (xs : Nat → Int32) (d : Nat) {a n : Nat} {g0 : Nat → Int32} (v : Int32) (σ : kS) (ha : T[a]? = some (.inl (0, n, .inl g0))) (hn : n < 2 ^ 31) : kXM T L xs (d + 1) 227 [.ref a, .int v] σ (fun r σ' => r = none ∧ σ' = va_up σ a (fun j => if j < n then v else σ a j)) := by
  intro h hE
  obtain ⟨g, h0, hg⟩ := hE.arr ha
  refine ⟨none, _, _, jfill_ok L xs d a n v g h hn h0, hE.set ha ⟨rfl, rfl, fun j hj => ?_⟩, rfl, rfl⟩
  show (if j < n then v else g j) = (if j < n then v else σ a j)
  rw [if_pos hj, if_pos hj]
/-- a switch whose number is outside -/
theorem kX_tabO {T : List jC} {L : Nat} {xs : Nat → Int32} {d mi pc : Nat} {lv : jL} {rest : List Value} {σ : kS} {Q : Option Value → kS → Prop} {dflt lo hi : Int} {offs : Array Int} {len t : Nat} {x : Int32} (hi' : jm_ins mi pc = some (.tableswitch dflt lo hi offs, len)) (ho : x.toInt < lo ∨ hi < x.toInt) (ht : jt pc dflt = some t) (g : kX T L xs d mi t lv rest σ Q) : kX T L xs d mi pc lv (.int x :: rest) σ Q :=
  kX_one (by unfold kone; rw [hi']; simp [jlen, kplain, jend, jcall, jA, jgo, ho, ht]) g
theorem kp_out {w : Int32} (n : Nat) (h : ∀ k, k < n → w ≠ nI k) (hn : n < 2 ^ 31) : w.toInt < 0 ∨ (n : Int) - 1 < w.toInt := by
  rcases pk_ix w hn with h1 | h1 | ⟨j, h1, h2⟩
  · left
    have := Int32.lt_iff_toInt_lt.mp h1
    simpa using this
  · right
    have := Int32.le_iff_toInt_le.mp h1
    rw [nI_toInt hn] at this
    omega
  · exact absurd h2 (h j h1)
end
