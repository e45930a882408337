/-! THE LAYOUT: what the two constructors leave at fixed places -/
def fixK : List (Nat × Nat × Nat) := [(3, 111, 0), (4, 109, 0), (5, 1, 200), (6, 1, 84), (7, 16, 4), (8, 12, 50), (9, 17, 6), (10, 110, 0), (11, 1, 24), (16, 103, 0), (17, 18, 12), (18, 10, 12), (19, 1, 12), (20, 1, 13), (21, 1, 13), (22, 1, 13), (23, 1, 256), (72, 104, 0), (73, 1, 12), (78, 1, 7), (91, 112, 0), (92, 1, 5), (93, 1, 5), (94, 1, 5), (95, 1, 240), (96, 1, 180), (97, 1, 60), (98, 3, 60), (99, 1, 720), (100, 3, 60), (101, 1, 180), (102, 1, 60), (103, 1, 5), (104, 1, 60), (105, 1, 60), (106, 1, 60), (107, 1, 60), (108, 1, 60), (109, 1, 200), (110, 1, 50), (111, 1, 24), (112, 1, 6), (113, 1, 6), (114, 1, 6), (115, 2, 360), (116, 1, 144), (117, 1, 4), (118, 1, 4), (119, 1, 4), (120, 1, 12)]
def fixR : List (Nat × Nat × Nat) := [(3, 0, 4), (3, 1, 7), (3, 2, 8), (3, 3, 9), (3, 4, 10), (3, 5, 12), (3, 6, 16), (3, 7, 72), (3, 8, 78), (4, 0, 5), (4, 1, 6), (10, 0, 11), (16, 3, 17), (16, 4, 18), (16, 5, 19), (16, 6, 20), (16, 7, 21), (16, 8, 22), (16, 9, 23), (72, 0, 73), (72, 4, 74), (91, 1, 92), (91, 2, 93), (91, 3, 94), (91, 4, 95), (91, 5, 96), (91, 6, 97), (91, 7, 98), (91, 8, 99), (91, 9, 100), (91, 10, 101), (91, 11, 102), (91, 12, 103), (91, 13, 104), (91, 14, 105), (91, 15, 106), (91, 16, 107), (91, 17, 108), (91, 18, 109), (91, 21, 110), (91, 22, 111), (91, 24, 112), (91, 25, 113), (91, 26, 114), (91, 27, 115), (91, 29, 116), (91, 30, 117), (91, 31, 118), (91, 32, 119), (91, 44, 120)]
/-- an object of Tables with its three rows behind it -/
def TabOK (h : AH) (t : Nat) : Prop := gK h t = 108 ∧ gR h t 0 = t + 1 ∧ gR h t 1 = t + 2 ∧ gR h t 2 = t + 3 ∧ (gK h (t + 1) = 1 ∧ gN h (t + 1) = 12) ∧ (gK h (t + 2) = 1 ∧ gN h (t + 2) = 4) ∧ gK h (t + 3) = 1 ∧ gN h (t + 3) = 3
def ShOK (h : AH) (s : Nat) : Prop := gR h 9 s = 79 + 2 * s ∧ gK h (79 + 2 * s) = 107 ∧ gR h (79 + 2 * s) 0 = 80 + 2 * s ∧ gK h (80 + 2 * s) = 2 ∧ gN h (80 + 2 * s) = 60
def Fix (h : AH) : Prop := (∀ q ∈ fixK, gK h q.1 = q.2.1 ∧ (q.2.1 < 100 → gN h q.1 = q.2.2)) ∧ (∀ q ∈ fixR, gR h q.1 q.2.1 = q.2.2) ∧ TabOK h 12 ∧ TabOK h 74 ∧ (∀ i : Nat, i < 12 → gR h 17 i = 24 + 4 * i ∧ TabOK h (24 + 4 * i)) ∧ ∀ s : Nat, s < 6 → ShOK h s
theorem K3 {h : AH} (H : Fix h) : gK h 3 = 111 := (H.1 (3, 111, 0) (List.mem_of_getElem? (i := 0) rfl)).1
theorem K4 {h : AH} (H : Fix h) : gK h 4 = 109 := (H.1 (4, 109, 0) (List.mem_of_getElem? (i := 1) rfl)).1
theorem K5 {h : AH} (H : Fix h) : gK h 5 = 1 := (H.1 (5, 1, 200) (List.mem_of_getElem? (i := 2) rfl)).1
theorem N5 {h : AH} (H : Fix h) : gN h 5 = 200 := (H.1 (5, 1, 200) (List.mem_of_getElem? (i := 2) rfl)).2 (by decide)
theorem K6 {h : AH} (H : Fix h) : gK h 6 = 1 := (H.1 (6, 1, 84) (List.mem_of_getElem? (i := 3) rfl)).1
theorem N6 {h : AH} (H : Fix h) : gN h 6 = 84 := (H.1 (6, 1, 84) (List.mem_of_getElem? (i := 3) rfl)).2 (by decide)
theorem K7 {h : AH} (H : Fix h) : gK h 7 = 16 := (H.1 (7, 16, 4) (List.mem_of_getElem? (i := 4) rfl)).1
theorem N7 {h : AH} (H : Fix h) : gN h 7 = 4 := (H.1 (7, 16, 4) (List.mem_of_getElem? (i := 4) rfl)).2 (by decide)
theorem K8 {h : AH} (H : Fix h) : gK h 8 = 12 := (H.1 (8, 12, 50) (List.mem_of_getElem? (i := 5) rfl)).1
theorem N8 {h : AH} (H : Fix h) : gN h 8 = 50 := (H.1 (8, 12, 50) (List.mem_of_getElem? (i := 5) rfl)).2 (by decide)
theorem K9 {h : AH} (H : Fix h) : gK h 9 = 17 := (H.1 (9, 17, 6) (List.mem_of_getElem? (i := 6) rfl)).1
theorem N9 {h : AH} (H : Fix h) : gN h 9 = 6 := (H.1 (9, 17, 6) (List.mem_of_getElem? (i := 6) rfl)).2 (by decide)
theorem K10 {h : AH} (H : Fix h) : gK h 10 = 110 := (H.1 (10, 110, 0) (List.mem_of_getElem? (i := 7) rfl)).1
theorem K11 {h : AH} (H : Fix h) : gK h 11 = 1 := (H.1 (11, 1, 24) (List.mem_of_getElem? (i := 8) rfl)).1
theorem N11 {h : AH} (H : Fix h) : gN h 11 = 24 := (H.1 (11, 1, 24) (List.mem_of_getElem? (i := 8) rfl)).2 (by decide)
theorem K16 {h : AH} (H : Fix h) : gK h 16 = 103 := (H.1 (16, 103, 0) (List.mem_of_getElem? (i := 9) rfl)).1
theorem K17 {h : AH} (H : Fix h) : gK h 17 = 18 := (H.1 (17, 18, 12) (List.mem_of_getElem? (i := 10) rfl)).1
theorem N17 {h : AH} (H : Fix h) : gN h 17 = 12 := (H.1 (17, 18, 12) (List.mem_of_getElem? (i := 10) rfl)).2 (by decide)
theorem K18 {h : AH} (H : Fix h) : gK h 18 = 10 := (H.1 (18, 10, 12) (List.mem_of_getElem? (i := 11) rfl)).1
theorem N18 {h : AH} (H : Fix h) : gN h 18 = 12 := (H.1 (18, 10, 12) (List.mem_of_getElem? (i := 11) rfl)).2 (by decide)
theorem K19 {h : AH} (H : Fix h) : gK h 19 = 1 := (H.1 (19, 1, 12) (List.mem_of_getElem? (i := 12) rfl)).1
theorem N19 {h : AH} (H : Fix h) : gN h 19 = 12 := (H.1 (19, 1, 12) (List.mem_of_getElem? (i := 12) rfl)).2 (by decide)
theorem K20 {h : AH} (H : Fix h) : gK h 20 = 1 := (H.1 (20, 1, 13) (List.mem_of_getElem? (i := 13) rfl)).1
theorem N20 {h : AH} (H : Fix h) : gN h 20 = 13 := (H.1 (20, 1, 13) (List.mem_of_getElem? (i := 13) rfl)).2 (by decide)
theorem K21 {h : AH} (H : Fix h) : gK h 21 = 1 := (H.1 (21, 1, 13) (List.mem_of_getElem? (i := 14) rfl)).1
theorem N21 {h : AH} (H : Fix h) : gN h 21 = 13 := (H.1 (21, 1, 13) (List.mem_of_getElem? (i := 14) rfl)).2 (by decide)
theorem K22 {h : AH} (H : Fix h) : gK h 22 = 1 := (H.1 (22, 1, 13) (List.mem_of_getElem? (i := 15) rfl)).1
theorem N22 {h : AH} (H : Fix h) : gN h 22 = 13 := (H.1 (22, 1, 13) (List.mem_of_getElem? (i := 15) rfl)).2 (by decide)
theorem K23 {h : AH} (H : Fix h) : gK h 23 = 1 := (H.1 (23, 1, 256) (List.mem_of_getElem? (i := 16) rfl)).1
theorem N23 {h : AH} (H : Fix h) : gN h 23 = 256 := (H.1 (23, 1, 256) (List.mem_of_getElem? (i := 16) rfl)).2 (by decide)
theorem K72 {h : AH} (H : Fix h) : gK h 72 = 104 := (H.1 (72, 104, 0) (List.mem_of_getElem? (i := 17) rfl)).1
theorem K73 {h : AH} (H : Fix h) : gK h 73 = 1 := (H.1 (73, 1, 12) (List.mem_of_getElem? (i := 18) rfl)).1
theorem N73 {h : AH} (H : Fix h) : gN h 73 = 12 := (H.1 (73, 1, 12) (List.mem_of_getElem? (i := 18) rfl)).2 (by decide)
theorem K78 {h : AH} (H : Fix h) : gK h 78 = 1 := (H.1 (78, 1, 7) (List.mem_of_getElem? (i := 19) rfl)).1
theorem N78 {h : AH} (H : Fix h) : gN h 78 = 7 := (H.1 (78, 1, 7) (List.mem_of_getElem? (i := 19) rfl)).2 (by decide)
theorem K91 {h : AH} (H : Fix h) : gK h 91 = 112 := (H.1 (91, 112, 0) (List.mem_of_getElem? (i := 20) rfl)).1
theorem K92 {h : AH} (H : Fix h) : gK h 92 = 1 := (H.1 (92, 1, 5) (List.mem_of_getElem? (i := 21) rfl)).1
theorem N92 {h : AH} (H : Fix h) : gN h 92 = 5 := (H.1 (92, 1, 5) (List.mem_of_getElem? (i := 21) rfl)).2 (by decide)
theorem K93 {h : AH} (H : Fix h) : gK h 93 = 1 := (H.1 (93, 1, 5) (List.mem_of_getElem? (i := 22) rfl)).1
theorem N93 {h : AH} (H : Fix h) : gN h 93 = 5 := (H.1 (93, 1, 5) (List.mem_of_getElem? (i := 22) rfl)).2 (by decide)
theorem K94 {h : AH} (H : Fix h) : gK h 94 = 1 := (H.1 (94, 1, 5) (List.mem_of_getElem? (i := 23) rfl)).1
theorem N94 {h : AH} (H : Fix h) : gN h 94 = 5 := (H.1 (94, 1, 5) (List.mem_of_getElem? (i := 23) rfl)).2 (by decide)
theorem K95 {h : AH} (H : Fix h) : gK h 95 = 1 := (H.1 (95, 1, 240) (List.mem_of_getElem? (i := 24) rfl)).1
theorem N95 {h : AH} (H : Fix h) : gN h 95 = 240 := (H.1 (95, 1, 240) (List.mem_of_getElem? (i := 24) rfl)).2 (by decide)
theorem K96 {h : AH} (H : Fix h) : gK h 96 = 1 := (H.1 (96, 1, 180) (List.mem_of_getElem? (i := 25) rfl)).1
theorem N96 {h : AH} (H : Fix h) : gN h 96 = 180 := (H.1 (96, 1, 180) (List.mem_of_getElem? (i := 25) rfl)).2 (by decide)
theorem K97 {h : AH} (H : Fix h) : gK h 97 = 1 := (H.1 (97, 1, 60) (List.mem_of_getElem? (i := 26) rfl)).1
theorem N97 {h : AH} (H : Fix h) : gN h 97 = 60 := (H.1 (97, 1, 60) (List.mem_of_getElem? (i := 26) rfl)).2 (by decide)
theorem K98 {h : AH} (H : Fix h) : gK h 98 = 3 := (H.1 (98, 3, 60) (List.mem_of_getElem? (i := 27) rfl)).1
theorem N98 {h : AH} (H : Fix h) : gN h 98 = 60 := (H.1 (98, 3, 60) (List.mem_of_getElem? (i := 27) rfl)).2 (by decide)
theorem K99 {h : AH} (H : Fix h) : gK h 99 = 1 := (H.1 (99, 1, 720) (List.mem_of_getElem? (i := 28) rfl)).1
theorem N99 {h : AH} (H : Fix h) : gN h 99 = 720 := (H.1 (99, 1, 720) (List.mem_of_getElem? (i := 28) rfl)).2 (by decide)
theorem K100 {h : AH} (H : Fix h) : gK h 100 = 3 := (H.1 (100, 3, 60) (List.mem_of_getElem? (i := 29) rfl)).1
theorem N100 {h : AH} (H : Fix h) : gN h 100 = 60 := (H.1 (100, 3, 60) (List.mem_of_getElem? (i := 29) rfl)).2 (by decide)
theorem K101 {h : AH} (H : Fix h) : gK h 101 = 1 := (H.1 (101, 1, 180) (List.mem_of_getElem? (i := 30) rfl)).1
theorem N101 {h : AH} (H : Fix h) : gN h 101 = 180 := (H.1 (101, 1, 180) (List.mem_of_getElem? (i := 30) rfl)).2 (by decide)
theorem K102 {h : AH} (H : Fix h) : gK h 102 = 1 := (H.1 (102, 1, 60) (List.mem_of_getElem? (i := 31) rfl)).1
theorem N102 {h : AH} (H : Fix h) : gN h 102 = 60 := (H.1 (102, 1, 60) (List.mem_of_getElem? (i := 31) rfl)).2 (by decide)
theorem K103 {h : AH} (H : Fix h) : gK h 103 = 1 := (H.1 (103, 1, 5) (List.mem_of_getElem? (i := 32) rfl)).1
theorem N103 {h : AH} (H : Fix h) : gN h 103 = 5 := (H.1 (103, 1, 5) (List.mem_of_getElem? (i := 32) rfl)).2 (by decide)
theorem K104 {h : AH} (H : Fix h) : gK h 104 = 1 := (H.1 (104, 1, 60) (List.mem_of_getElem? (i := 33) rfl)).1
theorem N104 {h : AH} (H : Fix h) : gN h 104 = 60 := (H.1 (104, 1, 60) (List.mem_of_getElem? (i := 33) rfl)).2 (by decide)
theorem K105 {h : AH} (H : Fix h) : gK h 105 = 1 := (H.1 (105, 1, 60) (List.mem_of_getElem? (i := 34) rfl)).1
theorem N105 {h : AH} (H : Fix h) : gN h 105 = 60 := (H.1 (105, 1, 60) (List.mem_of_getElem? (i := 34) rfl)).2 (by decide)
theorem K106 {h : AH} (H : Fix h) : gK h 106 = 1 := (H.1 (106, 1, 60) (List.mem_of_getElem? (i := 35) rfl)).1
theorem N106 {h : AH} (H : Fix h) : gN h 106 = 60 := (H.1 (106, 1, 60) (List.mem_of_getElem? (i := 35) rfl)).2 (by decide)
theorem K107 {h : AH} (H : Fix h) : gK h 107 = 1 := (H.1 (107, 1, 60) (List.mem_of_getElem? (i := 36) rfl)).1
theorem N107 {h : AH} (H : Fix h) : gN h 107 = 60 := (H.1 (107, 1, 60) (List.mem_of_getElem? (i := 36) rfl)).2 (by decide)
theorem K108 {h : AH} (H : Fix h) : gK h 108 = 1 := (H.1 (108, 1, 60) (List.mem_of_getElem? (i := 37) rfl)).1
theorem N108 {h : AH} (H : Fix h) : gN h 108 = 60 := (H.1 (108, 1, 60) (List.mem_of_getElem? (i := 37) rfl)).2 (by decide)
theorem K109 {h : AH} (H : Fix h) : gK h 109 = 1 := (H.1 (109, 1, 200) (List.mem_of_getElem? (i := 38) rfl)).1
theorem N109 {h : AH} (H : Fix h) : gN h 109 = 200 := (H.1 (109, 1, 200) (List.mem_of_getElem? (i := 38) rfl)).2 (by decide)
theorem K110 {h : AH} (H : Fix h) : gK h 110 = 1 := (H.1 (110, 1, 50) (List.mem_of_getElem? (i := 39) rfl)).1
theorem N110 {h : AH} (H : Fix h) : gN h 110 = 50 := (H.1 (110, 1, 50) (List.mem_of_getElem? (i := 39) rfl)).2 (by decide)
theorem K111 {h : AH} (H : Fix h) : gK h 111 = 1 := (H.1 (111, 1, 24) (List.mem_of_getElem? (i := 40) rfl)).1
theorem N111 {h : AH} (H : Fix h) : gN h 111 = 24 := (H.1 (111, 1, 24) (List.mem_of_getElem? (i := 40) rfl)).2 (by decide)
theorem K112 {h : AH} (H : Fix h) : gK h 112 = 1 := (H.1 (112, 1, 6) (List.mem_of_getElem? (i := 41) rfl)).1
theorem N112 {h : AH} (H : Fix h) : gN h 112 = 6 := (H.1 (112, 1, 6) (List.mem_of_getElem? (i := 41) rfl)).2 (by decide)
theorem K113 {h : AH} (H : Fix h) : gK h 113 = 1 := (H.1 (113, 1, 6) (List.mem_of_getElem? (i := 42) rfl)).1
theorem N113 {h : AH} (H : Fix h) : gN h 113 = 6 := (H.1 (113, 1, 6) (List.mem_of_getElem? (i := 42) rfl)).2 (by decide)
theorem K114 {h : AH} (H : Fix h) : gK h 114 = 1 := (H.1 (114, 1, 6) (List.mem_of_getElem? (i := 43) rfl)).1
theorem N114 {h : AH} (H : Fix h) : gN h 114 = 6 := (H.1 (114, 1, 6) (List.mem_of_getElem? (i := 43) rfl)).2 (by decide)
theorem K115 {h : AH} (H : Fix h) : gK h 115 = 2 := (H.1 (115, 2, 360) (List.mem_of_getElem? (i := 44) rfl)).1
theorem N115 {h : AH} (H : Fix h) : gN h 115 = 360 := (H.1 (115, 2, 360) (List.mem_of_getElem? (i := 44) rfl)).2 (by decide)
theorem K116 {h : AH} (H : Fix h) : gK h 116 = 1 := (H.1 (116, 1, 144) (List.mem_of_getElem? (i := 45) rfl)).1
theorem N116 {h : AH} (H : Fix h) : gN h 116 = 144 := (H.1 (116, 1, 144) (List.mem_of_getElem? (i := 45) rfl)).2 (by decide)
theorem K117 {h : AH} (H : Fix h) : gK h 117 = 1 := (H.1 (117, 1, 4) (List.mem_of_getElem? (i := 46) rfl)).1
theorem N117 {h : AH} (H : Fix h) : gN h 117 = 4 := (H.1 (117, 1, 4) (List.mem_of_getElem? (i := 46) rfl)).2 (by decide)
theorem K118 {h : AH} (H : Fix h) : gK h 118 = 1 := (H.1 (118, 1, 4) (List.mem_of_getElem? (i := 47) rfl)).1
theorem N118 {h : AH} (H : Fix h) : gN h 118 = 4 := (H.1 (118, 1, 4) (List.mem_of_getElem? (i := 47) rfl)).2 (by decide)
theorem K119 {h : AH} (H : Fix h) : gK h 119 = 1 := (H.1 (119, 1, 4) (List.mem_of_getElem? (i := 48) rfl)).1
theorem N119 {h : AH} (H : Fix h) : gN h 119 = 4 := (H.1 (119, 1, 4) (List.mem_of_getElem? (i := 48) rfl)).2 (by decide)
theorem K120 {h : AH} (H : Fix h) : gK h 120 = 1 := (H.1 (120, 1, 12) (List.mem_of_getElem? (i := 49) rfl)).1
theorem N120 {h : AH} (H : Fix h) : gN h 120 = 12 := (H.1 (120, 1, 12) (List.mem_of_getElem? (i := 49) rfl)).2 (by decide)
theorem R3_0 {h : AH} (H : Fix h) : gR h 3 0 = 4 := H.2.1 (3, 0, 4) (List.mem_of_getElem? (i := 0) rfl)
theorem R3_1 {h : AH} (H : Fix h) : gR h 3 1 = 7 := H.2.1 (3, 1, 7) (List.mem_of_getElem? (i := 1) rfl)
theorem R3_2 {h : AH} (H : Fix h) : gR h 3 2 = 8 := H.2.1 (3, 2, 8) (List.mem_of_getElem? (i := 2) rfl)
theorem R3_3 {h : AH} (H : Fix h) : gR h 3 3 = 9 := H.2.1 (3, 3, 9) (List.mem_of_getElem? (i := 3) rfl)
theorem R3_4 {h : AH} (H : Fix h) : gR h 3 4 = 10 := H.2.1 (3, 4, 10) (List.mem_of_getElem? (i := 4) rfl)
theorem R3_5 {h : AH} (H : Fix h) : gR h 3 5 = 12 := H.2.1 (3, 5, 12) (List.mem_of_getElem? (i := 5) rfl)
theorem R3_6 {h : AH} (H : Fix h) : gR h 3 6 = 16 := H.2.1 (3, 6, 16) (List.mem_of_getElem? (i := 6) rfl)
theorem R3_7 {h : AH} (H : Fix h) : gR h 3 7 = 72 := H.2.1 (3, 7, 72) (List.mem_of_getElem? (i := 7) rfl)
theorem R3_8 {h : AH} (H : Fix h) : gR h 3 8 = 78 := H.2.1 (3, 8, 78) (List.mem_of_getElem? (i := 8) rfl)
theorem R4_0 {h : AH} (H : Fix h) : gR h 4 0 = 5 := H.2.1 (4, 0, 5) (List.mem_of_getElem? (i := 9) rfl)
theorem R4_1 {h : AH} (H : Fix h) : gR h 4 1 = 6 := H.2.1 (4, 1, 6) (List.mem_of_getElem? (i := 10) rfl)
theorem R10_0 {h : AH} (H : Fix h) : gR h 10 0 = 11 := H.2.1 (10, 0, 11) (List.mem_of_getElem? (i := 11) rfl)
theorem R16_3 {h : AH} (H : Fix h) : gR h 16 3 = 17 := H.2.1 (16, 3, 17) (List.mem_of_getElem? (i := 12) rfl)
theorem R16_4 {h : AH} (H : Fix h) : gR h 16 4 = 18 := H.2.1 (16, 4, 18) (List.mem_of_getElem? (i := 13) rfl)
theorem R16_5 {h : AH} (H : Fix h) : gR h 16 5 = 19 := H.2.1 (16, 5, 19) (List.mem_of_getElem? (i := 14) rfl)
theorem R16_6 {h : AH} (H : Fix h) : gR h 16 6 = 20 := H.2.1 (16, 6, 20) (List.mem_of_getElem? (i := 15) rfl)
theorem R16_7 {h : AH} (H : Fix h) : gR h 16 7 = 21 := H.2.1 (16, 7, 21) (List.mem_of_getElem? (i := 16) rfl)
theorem R16_8 {h : AH} (H : Fix h) : gR h 16 8 = 22 := H.2.1 (16, 8, 22) (List.mem_of_getElem? (i := 17) rfl)
theorem R16_9 {h : AH} (H : Fix h) : gR h 16 9 = 23 := H.2.1 (16, 9, 23) (List.mem_of_getElem? (i := 18) rfl)
theorem R72_0 {h : AH} (H : Fix h) : gR h 72 0 = 73 := H.2.1 (72, 0, 73) (List.mem_of_getElem? (i := 19) rfl)
theorem R72_4 {h : AH} (H : Fix h) : gR h 72 4 = 74 := H.2.1 (72, 4, 74) (List.mem_of_getElem? (i := 20) rfl)
theorem R91_1 {h : AH} (H : Fix h) : gR h 91 1 = 92 := H.2.1 (91, 1, 92) (List.mem_of_getElem? (i := 21) rfl)
theorem R91_2 {h : AH} (H : Fix h) : gR h 91 2 = 93 := H.2.1 (91, 2, 93) (List.mem_of_getElem? (i := 22) rfl)
theorem R91_3 {h : AH} (H : Fix h) : gR h 91 3 = 94 := H.2.1 (91, 3, 94) (List.mem_of_getElem? (i := 23) rfl)
theorem R91_4 {h : AH} (H : Fix h) : gR h 91 4 = 95 := H.2.1 (91, 4, 95) (List.mem_of_getElem? (i := 24) rfl)
theorem R91_5 {h : AH} (H : Fix h) : gR h 91 5 = 96 := H.2.1 (91, 5, 96) (List.mem_of_getElem? (i := 25) rfl)
theorem R91_6 {h : AH} (H : Fix h) : gR h 91 6 = 97 := H.2.1 (91, 6, 97) (List.mem_of_getElem? (i := 26) rfl)
theorem R91_7 {h : AH} (H : Fix h) : gR h 91 7 = 98 := H.2.1 (91, 7, 98) (List.mem_of_getElem? (i := 27) rfl)
theorem R91_8 {h : AH} (H : Fix h) : gR h 91 8 = 99 := H.2.1 (91, 8, 99) (List.mem_of_getElem? (i := 28) rfl)
theorem R91_9 {h : AH} (H : Fix h) : gR h 91 9 = 100 := H.2.1 (91, 9, 100) (List.mem_of_getElem? (i := 29) rfl)
theorem R91_10 {h : AH} (H : Fix h) : gR h 91 10 = 101 := H.2.1 (91, 10, 101) (List.mem_of_getElem? (i := 30) rfl)
theorem R91_11 {h : AH} (H : Fix h) : gR h 91 11 = 102 := H.2.1 (91, 11, 102) (List.mem_of_getElem? (i := 31) rfl)
theorem R91_12 {h : AH} (H : Fix h) : gR h 91 12 = 103 := H.2.1 (91, 12, 103) (List.mem_of_getElem? (i := 32) rfl)
theorem R91_13 {h : AH} (H : Fix h) : gR h 91 13 = 104 := H.2.1 (91, 13, 104) (List.mem_of_getElem? (i := 33) rfl)
theorem R91_14 {h : AH} (H : Fix h) : gR h 91 14 = 105 := H.2.1 (91, 14, 105) (List.mem_of_getElem? (i := 34) rfl)
theorem R91_15 {h : AH} (H : Fix h) : gR h 91 15 = 106 := H.2.1 (91, 15, 106) (List.mem_of_getElem? (i := 35) rfl)
theorem R91_16 {h : AH} (H : Fix h) : gR h 91 16 = 107 := H.2.1 (91, 16, 107) (List.mem_of_getElem? (i := 36) rfl)
theorem R91_17 {h : AH} (H : Fix h) : gR h 91 17 = 108 := H.2.1 (91, 17, 108) (List.mem_of_getElem? (i := 37) rfl)
theorem R91_18 {h : AH} (H : Fix h) : gR h 91 18 = 109 := H.2.1 (91, 18, 109) (List.mem_of_getElem? (i := 38) rfl)
theorem R91_21 {h : AH} (H : Fix h) : gR h 91 21 = 110 := H.2.1 (91, 21, 110) (List.mem_of_getElem? (i := 39) rfl)
theorem R91_22 {h : AH} (H : Fix h) : gR h 91 22 = 111 := H.2.1 (91, 22, 111) (List.mem_of_getElem? (i := 40) rfl)
theorem R91_24 {h : AH} (H : Fix h) : gR h 91 24 = 112 := H.2.1 (91, 24, 112) (List.mem_of_getElem? (i := 41) rfl)
theorem R91_25 {h : AH} (H : Fix h) : gR h 91 25 = 113 := H.2.1 (91, 25, 113) (List.mem_of_getElem? (i := 42) rfl)
theorem R91_26 {h : AH} (H : Fix h) : gR h 91 26 = 114 := H.2.1 (91, 26, 114) (List.mem_of_getElem? (i := 43) rfl)
theorem R91_27 {h : AH} (H : Fix h) : gR h 91 27 = 115 := H.2.1 (91, 27, 115) (List.mem_of_getElem? (i := 44) rfl)
theorem R91_29 {h : AH} (H : Fix h) : gR h 91 29 = 116 := H.2.1 (91, 29, 116) (List.mem_of_getElem? (i := 45) rfl)
theorem R91_30 {h : AH} (H : Fix h) : gR h 91 30 = 117 := H.2.1 (91, 30, 117) (List.mem_of_getElem? (i := 46) rfl)
theorem R91_31 {h : AH} (H : Fix h) : gR h 91 31 = 118 := H.2.1 (91, 31, 118) (List.mem_of_getElem? (i := 47) rfl)
theorem R91_32 {h : AH} (H : Fix h) : gR h 91 32 = 119 := H.2.1 (91, 32, 119) (List.mem_of_getElem? (i := 48) rfl)
theorem R91_44 {h : AH} (H : Fix h) : gR h 91 44 = 120 := H.2.1 (91, 44, 120) (List.mem_of_getElem? (i := 49) rfl)
