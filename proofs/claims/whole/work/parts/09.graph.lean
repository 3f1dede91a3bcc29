/-! CORE, 5: the cells once both objects are made: 0 the class's object, 76 the reference's, 95 and 96 the law's two arrays -/
def xgl : List xGC := [(14, 0, fun j => match j with | 0 => some 1 | 1 => some 4 | 2 => some 7 | 3 => some 33 | 4 => some 35 | 5 => some 45 | 6 => some 55 | 7 => some 72 | 8 => some 75 | _ => none), (13, 0, fun j => match j with | 2 => some 2 | 3 => some 3 | _ => none), (1, 64, fun _ => none), (1, 64, fun _ => none), (13, 0, fun j => match j with | 2 => some 5 | 3 => some 6 | _ => none), (1, 64, fun _ => none), (1, 64, fun _ => none), (9, 0, fun j => match j with | 0 => some 8 | _ => none), (6, 8, fun j => if j < 8 then some (9 + 3 * j) else none), (13, 0, fun j => match j with | 2 => some 10 | 3 => some 11 | _ => none), (1, 64, fun _ => none), (1, 64, fun _ => none), (13, 0, fun j => match j with | 2 => some 13 | 3 => some 14 | _ => none), (1, 64, fun _ => none), (1, 64, fun _ => none), (13, 0, fun j => match j with | 2 => some 16 | 3 => some 17 | _ => none), (1, 64, fun _ => none), (1, 64, fun _ => none), (13, 0, fun j => match j with | 2 => some 19 | 3 => some 20 | _ => none), (1, 64, fun _ => none), (1, 64, fun _ => none), (13, 0, fun j => match j with | 2 => some 22 | 3 => some 23 | _ => none), (1, 64, fun _ => none), (1, 64, fun _ => none), (13, 0, fun j => match j with | 2 => some 25 | 3 => some 26 | _ => none), (1, 64, fun _ => none), (1, 64, fun _ => none), (13, 0, fun j => match j with | 2 => some 28 | 3 => some 29 | _ => none), (1, 64, fun _ => none), (1, 64, fun _ => none), (13, 0, fun j => match j with | 2 => some 31 | 3 => some 32 | _ => none), (1, 64, fun _ => none), (1, 64, fun _ => none), (10, 0, fun j => match j with | 0 => some 34 | _ => none), (1, 72, fun _ => none), (12, 0, fun j => match j with | 0 => some 36 | 5 => some 37 | 6 => some 38 | 7 => some 39 | 8 => some 40 | 9 => some 41 | 10 => some 42 | 11 => some 43 | 12 => some 44 | _ => none), (8, 0, fun _ => none), (2, 64, fun _ => none), (1, 64, fun _ => none), (1, 64, fun _ => none), (1, 64, fun _ => none), (1, 64, fun _ => none), (1, 64, fun _ => none), (1, 64, fun _ => none), (2, 16, fun _ => none), (12, 0, fun j => match j with | 0 => some 46 | 5 => some 47 | 6 => some 48 | 7 => some 49 | 8 => some 50 | 9 => some 51 | 10 => some 52 | 11 => some 53 | 12 => some 54 | _ => none), (8, 0, fun _ => none), (2, 64, fun _ => none), (1, 64, fun _ => none), (1, 64, fun _ => none), (1, 64, fun _ => none), (1, 64, fun _ => none), (1, 64, fun _ => none), (1, 64, fun _ => none), (2, 16, fun _ => none), (11, 0, fun j => match j with | 0 => some 56 | 1 => some 69 | 2 => some 70 | 3 => some 71 | _ => none), (5, 12, fun j => if j < 12 then some (57 + j) else none), (1, 64, fun _ => none), (1, 64, fun _ => none), (1, 64, fun _ => none), (1, 64, fun _ => none), (1, 64, fun _ => none), (1, 64, fun _ => none), (1, 64, fun _ => none), (1, 64, fun _ => none), (1, 64, fun _ => none), (1, 64, fun _ => none), (1, 64, fun _ => none), (1, 64, fun _ => none), (1, 64, fun _ => none), (1, 64, fun _ => none), (1, 64, fun _ => none), (7, 0, fun j => match j with | 0 => some 73 | 1 => some 74 | _ => none), (3, 64, fun _ => none), (1, 64, fun _ => none), (1, 64, fun _ => none), (15, 0, fun j => match j with | 3 => some 77 | 4 => some 78 | 8 => some 79 | 9 => some 80 | 10 => some 81 | 12 => some 82 | 17 => some 83 | 20 => some 84 | 21 => some 85 | 22 => some 86 | 23 => some 87 | 24 => some 88 | 25 => some 89 | 27 => some 90 | 28 => some 91 | 29 => some 92 | 30 => some 93 | 31 => some 94 | _ => none), (1, 64, fun _ => none), (1, 64, fun _ => none), (1, 16, fun _ => none), (1, 512, fun _ => none), (1, 512, fun _ => none), (1, 72, fun _ => none), (1, 64, fun _ => none), (2, 64, fun _ => none), (1, 64, fun _ => none), (1, 64, fun _ => none), (1, 64, fun _ => none), (1, 64, fun _ => none), (1, 64, fun _ => none), (1, 64, fun _ => none), (1, 64, fun _ => none), (3, 64, fun _ => none), (1, 64, fun _ => none), (1, 64, fun _ => none), (2, 1, fun _ => none), (4, 1, fun _ => none)]
def xG0 : xG := fun k => xgl.getD k (0, 0, fun _ => none)
theorem g0 : (xG0 0).1 = 14 := rfl
theorem r0_0 : (xG0 0).2.2 0 = some 1 := rfl
theorem r0_1 : (xG0 0).2.2 1 = some 4 := rfl
theorem r0_2 : (xG0 0).2.2 2 = some 7 := rfl
theorem r0_3 : (xG0 0).2.2 3 = some 33 := rfl
theorem r0_4 : (xG0 0).2.2 4 = some 35 := rfl
theorem r0_5 : (xG0 0).2.2 5 = some 45 := rfl
theorem r0_6 : (xG0 0).2.2 6 = some 55 := rfl
theorem r0_7 : (xG0 0).2.2 7 = some 72 := rfl
theorem r0_8 : (xG0 0).2.2 8 = some 75 := rfl
theorem g1 : (xG0 1).1 = 13 := rfl
theorem r1_2 : (xG0 1).2.2 2 = some 2 := rfl
theorem r1_3 : (xG0 1).2.2 3 = some 3 := rfl
theorem g2 : (xG0 2).1 = 1 := rfl
theorem s2 : (xG0 2).2.1 = 64 := rfl
theorem g3 : (xG0 3).1 = 1 := rfl
theorem s3 : (xG0 3).2.1 = 64 := rfl
theorem g4 : (xG0 4).1 = 13 := rfl
theorem r4_2 : (xG0 4).2.2 2 = some 5 := rfl
theorem r4_3 : (xG0 4).2.2 3 = some 6 := rfl
theorem g5 : (xG0 5).1 = 1 := rfl
theorem s5 : (xG0 5).2.1 = 64 := rfl
theorem g6 : (xG0 6).1 = 1 := rfl
theorem s6 : (xG0 6).2.1 = 64 := rfl
theorem g7 : (xG0 7).1 = 9 := rfl
theorem r7_0 : (xG0 7).2.2 0 = some 8 := rfl
theorem g8 : (xG0 8).1 = 6 := rfl
theorem s8 : (xG0 8).2.1 = 8 := rfl
theorem g9 : (xG0 9).1 = 13 := rfl
theorem r9_2 : (xG0 9).2.2 2 = some 10 := rfl
theorem r9_3 : (xG0 9).2.2 3 = some 11 := rfl
theorem g10 : (xG0 10).1 = 1 := rfl
theorem s10 : (xG0 10).2.1 = 64 := rfl
theorem g11 : (xG0 11).1 = 1 := rfl
theorem s11 : (xG0 11).2.1 = 64 := rfl
theorem g12 : (xG0 12).1 = 13 := rfl
theorem r12_2 : (xG0 12).2.2 2 = some 13 := rfl
theorem r12_3 : (xG0 12).2.2 3 = some 14 := rfl
theorem g13 : (xG0 13).1 = 1 := rfl
theorem s13 : (xG0 13).2.1 = 64 := rfl
theorem g14 : (xG0 14).1 = 1 := rfl
theorem s14 : (xG0 14).2.1 = 64 := rfl
theorem g15 : (xG0 15).1 = 13 := rfl
theorem r15_2 : (xG0 15).2.2 2 = some 16 := rfl
theorem r15_3 : (xG0 15).2.2 3 = some 17 := rfl
theorem g16 : (xG0 16).1 = 1 := rfl
theorem s16 : (xG0 16).2.1 = 64 := rfl
theorem g17 : (xG0 17).1 = 1 := rfl
theorem s17 : (xG0 17).2.1 = 64 := rfl
theorem g18 : (xG0 18).1 = 13 := rfl
theorem r18_2 : (xG0 18).2.2 2 = some 19 := rfl
theorem r18_3 : (xG0 18).2.2 3 = some 20 := rfl
theorem g19 : (xG0 19).1 = 1 := rfl
theorem s19 : (xG0 19).2.1 = 64 := rfl
theorem g20 : (xG0 20).1 = 1 := rfl
theorem s20 : (xG0 20).2.1 = 64 := rfl
theorem g21 : (xG0 21).1 = 13 := rfl
theorem r21_2 : (xG0 21).2.2 2 = some 22 := rfl
theorem r21_3 : (xG0 21).2.2 3 = some 23 := rfl
theorem g22 : (xG0 22).1 = 1 := rfl
theorem s22 : (xG0 22).2.1 = 64 := rfl
theorem g23 : (xG0 23).1 = 1 := rfl
theorem s23 : (xG0 23).2.1 = 64 := rfl
theorem g24 : (xG0 24).1 = 13 := rfl
theorem r24_2 : (xG0 24).2.2 2 = some 25 := rfl
theorem r24_3 : (xG0 24).2.2 3 = some 26 := rfl
theorem g25 : (xG0 25).1 = 1 := rfl
theorem s25 : (xG0 25).2.1 = 64 := rfl
theorem g26 : (xG0 26).1 = 1 := rfl
theorem s26 : (xG0 26).2.1 = 64 := rfl
theorem g27 : (xG0 27).1 = 13 := rfl
theorem r27_2 : (xG0 27).2.2 2 = some 28 := rfl
theorem r27_3 : (xG0 27).2.2 3 = some 29 := rfl
theorem g28 : (xG0 28).1 = 1 := rfl
theorem s28 : (xG0 28).2.1 = 64 := rfl
theorem g29 : (xG0 29).1 = 1 := rfl
theorem s29 : (xG0 29).2.1 = 64 := rfl
theorem g30 : (xG0 30).1 = 13 := rfl
theorem r30_2 : (xG0 30).2.2 2 = some 31 := rfl
theorem r30_3 : (xG0 30).2.2 3 = some 32 := rfl
theorem g31 : (xG0 31).1 = 1 := rfl
theorem s31 : (xG0 31).2.1 = 64 := rfl
theorem g32 : (xG0 32).1 = 1 := rfl
theorem s32 : (xG0 32).2.1 = 64 := rfl
theorem g33 : (xG0 33).1 = 10 := rfl
theorem r33_0 : (xG0 33).2.2 0 = some 34 := rfl
theorem g34 : (xG0 34).1 = 1 := rfl
theorem s34 : (xG0 34).2.1 = 72 := rfl
theorem g35 : (xG0 35).1 = 12 := rfl
theorem r35_0 : (xG0 35).2.2 0 = some 36 := rfl
theorem r35_5 : (xG0 35).2.2 5 = some 37 := rfl
theorem r35_6 : (xG0 35).2.2 6 = some 38 := rfl
theorem r35_7 : (xG0 35).2.2 7 = some 39 := rfl
theorem r35_8 : (xG0 35).2.2 8 = some 40 := rfl
theorem r35_9 : (xG0 35).2.2 9 = some 41 := rfl
theorem r35_10 : (xG0 35).2.2 10 = some 42 := rfl
theorem r35_11 : (xG0 35).2.2 11 = some 43 := rfl
theorem r35_12 : (xG0 35).2.2 12 = some 44 := rfl
theorem g36 : (xG0 36).1 = 8 := rfl
theorem g37 : (xG0 37).1 = 2 := rfl
theorem s37 : (xG0 37).2.1 = 64 := rfl
theorem g38 : (xG0 38).1 = 1 := rfl
theorem s38 : (xG0 38).2.1 = 64 := rfl
theorem g39 : (xG0 39).1 = 1 := rfl
theorem s39 : (xG0 39).2.1 = 64 := rfl
theorem g40 : (xG0 40).1 = 1 := rfl
theorem s40 : (xG0 40).2.1 = 64 := rfl
theorem g41 : (xG0 41).1 = 1 := rfl
theorem s41 : (xG0 41).2.1 = 64 := rfl
theorem g42 : (xG0 42).1 = 1 := rfl
theorem s42 : (xG0 42).2.1 = 64 := rfl
theorem g43 : (xG0 43).1 = 1 := rfl
theorem s43 : (xG0 43).2.1 = 64 := rfl
theorem g44 : (xG0 44).1 = 2 := rfl
theorem s44 : (xG0 44).2.1 = 16 := rfl
theorem g45 : (xG0 45).1 = 12 := rfl
theorem r45_0 : (xG0 45).2.2 0 = some 46 := rfl
theorem r45_5 : (xG0 45).2.2 5 = some 47 := rfl
theorem r45_6 : (xG0 45).2.2 6 = some 48 := rfl
theorem r45_7 : (xG0 45).2.2 7 = some 49 := rfl
theorem r45_8 : (xG0 45).2.2 8 = some 50 := rfl
theorem r45_9 : (xG0 45).2.2 9 = some 51 := rfl
theorem r45_10 : (xG0 45).2.2 10 = some 52 := rfl
theorem r45_11 : (xG0 45).2.2 11 = some 53 := rfl
theorem r45_12 : (xG0 45).2.2 12 = some 54 := rfl
theorem g46 : (xG0 46).1 = 8 := rfl
theorem g47 : (xG0 47).1 = 2 := rfl
theorem s47 : (xG0 47).2.1 = 64 := rfl
theorem g48 : (xG0 48).1 = 1 := rfl
theorem s48 : (xG0 48).2.1 = 64 := rfl
theorem g49 : (xG0 49).1 = 1 := rfl
theorem s49 : (xG0 49).2.1 = 64 := rfl
theorem g50 : (xG0 50).1 = 1 := rfl
theorem s50 : (xG0 50).2.1 = 64 := rfl
theorem g51 : (xG0 51).1 = 1 := rfl
theorem s51 : (xG0 51).2.1 = 64 := rfl
theorem g52 : (xG0 52).1 = 1 := rfl
theorem s52 : (xG0 52).2.1 = 64 := rfl
theorem g53 : (xG0 53).1 = 1 := rfl
theorem s53 : (xG0 53).2.1 = 64 := rfl
theorem g54 : (xG0 54).1 = 2 := rfl
theorem s54 : (xG0 54).2.1 = 16 := rfl
theorem g55 : (xG0 55).1 = 11 := rfl
theorem r55_0 : (xG0 55).2.2 0 = some 56 := rfl
theorem r55_1 : (xG0 55).2.2 1 = some 69 := rfl
theorem r55_2 : (xG0 55).2.2 2 = some 70 := rfl
theorem r55_3 : (xG0 55).2.2 3 = some 71 := rfl
theorem g56 : (xG0 56).1 = 5 := rfl
theorem s56 : (xG0 56).2.1 = 12 := rfl
theorem g57 : (xG0 57).1 = 1 := rfl
theorem s57 : (xG0 57).2.1 = 64 := rfl
theorem g58 : (xG0 58).1 = 1 := rfl
theorem s58 : (xG0 58).2.1 = 64 := rfl
theorem g59 : (xG0 59).1 = 1 := rfl
theorem s59 : (xG0 59).2.1 = 64 := rfl
theorem g60 : (xG0 60).1 = 1 := rfl
theorem s60 : (xG0 60).2.1 = 64 := rfl
theorem g61 : (xG0 61).1 = 1 := rfl
theorem s61 : (xG0 61).2.1 = 64 := rfl
theorem g62 : (xG0 62).1 = 1 := rfl
theorem s62 : (xG0 62).2.1 = 64 := rfl
theorem g63 : (xG0 63).1 = 1 := rfl
theorem s63 : (xG0 63).2.1 = 64 := rfl
theorem g64 : (xG0 64).1 = 1 := rfl
theorem s64 : (xG0 64).2.1 = 64 := rfl
theorem g65 : (xG0 65).1 = 1 := rfl
theorem s65 : (xG0 65).2.1 = 64 := rfl
theorem g66 : (xG0 66).1 = 1 := rfl
theorem s66 : (xG0 66).2.1 = 64 := rfl
theorem g67 : (xG0 67).1 = 1 := rfl
theorem s67 : (xG0 67).2.1 = 64 := rfl
theorem g68 : (xG0 68).1 = 1 := rfl
theorem s68 : (xG0 68).2.1 = 64 := rfl
theorem g69 : (xG0 69).1 = 1 := rfl
theorem s69 : (xG0 69).2.1 = 64 := rfl
theorem g70 : (xG0 70).1 = 1 := rfl
theorem s70 : (xG0 70).2.1 = 64 := rfl
theorem g71 : (xG0 71).1 = 1 := rfl
theorem s71 : (xG0 71).2.1 = 64 := rfl
theorem g72 : (xG0 72).1 = 7 := rfl
theorem r72_0 : (xG0 72).2.2 0 = some 73 := rfl
theorem r72_1 : (xG0 72).2.2 1 = some 74 := rfl
theorem g73 : (xG0 73).1 = 3 := rfl
theorem s73 : (xG0 73).2.1 = 64 := rfl
theorem g74 : (xG0 74).1 = 1 := rfl
theorem s74 : (xG0 74).2.1 = 64 := rfl
theorem g75 : (xG0 75).1 = 1 := rfl
theorem s75 : (xG0 75).2.1 = 64 := rfl
theorem g76 : (xG0 76).1 = 15 := rfl
theorem r76_3 : (xG0 76).2.2 3 = some 77 := rfl
theorem r76_4 : (xG0 76).2.2 4 = some 78 := rfl
theorem r76_8 : (xG0 76).2.2 8 = some 79 := rfl
theorem r76_9 : (xG0 76).2.2 9 = some 80 := rfl
theorem r76_10 : (xG0 76).2.2 10 = some 81 := rfl
theorem r76_12 : (xG0 76).2.2 12 = some 82 := rfl
theorem r76_17 : (xG0 76).2.2 17 = some 83 := rfl
theorem r76_20 : (xG0 76).2.2 20 = some 84 := rfl
theorem r76_21 : (xG0 76).2.2 21 = some 85 := rfl
theorem r76_22 : (xG0 76).2.2 22 = some 86 := rfl
theorem r76_23 : (xG0 76).2.2 23 = some 87 := rfl
theorem r76_24 : (xG0 76).2.2 24 = some 88 := rfl
theorem r76_25 : (xG0 76).2.2 25 = some 89 := rfl
theorem r76_27 : (xG0 76).2.2 27 = some 90 := rfl
theorem r76_28 : (xG0 76).2.2 28 = some 91 := rfl
theorem r76_29 : (xG0 76).2.2 29 = some 92 := rfl
theorem r76_30 : (xG0 76).2.2 30 = some 93 := rfl
theorem r76_31 : (xG0 76).2.2 31 = some 94 := rfl
theorem g77 : (xG0 77).1 = 1 := rfl
theorem s77 : (xG0 77).2.1 = 64 := rfl
theorem g78 : (xG0 78).1 = 1 := rfl
theorem s78 : (xG0 78).2.1 = 64 := rfl
theorem g79 : (xG0 79).1 = 1 := rfl
theorem s79 : (xG0 79).2.1 = 16 := rfl
theorem g80 : (xG0 80).1 = 1 := rfl
theorem s80 : (xG0 80).2.1 = 512 := rfl
theorem g81 : (xG0 81).1 = 1 := rfl
theorem s81 : (xG0 81).2.1 = 512 := rfl
theorem g82 : (xG0 82).1 = 1 := rfl
theorem s82 : (xG0 82).2.1 = 72 := rfl
theorem g83 : (xG0 83).1 = 1 := rfl
theorem s83 : (xG0 83).2.1 = 64 := rfl
theorem g84 : (xG0 84).1 = 2 := rfl
theorem s84 : (xG0 84).2.1 = 64 := rfl
theorem g85 : (xG0 85).1 = 1 := rfl
theorem s85 : (xG0 85).2.1 = 64 := rfl
theorem g86 : (xG0 86).1 = 1 := rfl
theorem s86 : (xG0 86).2.1 = 64 := rfl
theorem g87 : (xG0 87).1 = 1 := rfl
theorem s87 : (xG0 87).2.1 = 64 := rfl
theorem g88 : (xG0 88).1 = 1 := rfl
theorem s88 : (xG0 88).2.1 = 64 := rfl
theorem g89 : (xG0 89).1 = 1 := rfl
theorem s89 : (xG0 89).2.1 = 64 := rfl
theorem g90 : (xG0 90).1 = 1 := rfl
theorem s90 : (xG0 90).2.1 = 64 := rfl
theorem g91 : (xG0 91).1 = 1 := rfl
theorem s91 : (xG0 91).2.1 = 64 := rfl
theorem g92 : (xG0 92).1 = 3 := rfl
theorem s92 : (xG0 92).2.1 = 64 := rfl
theorem g93 : (xG0 93).1 = 1 := rfl
theorem s93 : (xG0 93).2.1 = 64 := rfl
theorem g94 : (xG0 94).1 = 1 := rfl
theorem s94 : (xG0 94).2.1 = 64 := rfl
theorem g95 : (xG0 95).1 = 2 := rfl
theorem s95 : (xG0 95).2.1 = 1 := rfl
theorem g96 : (xG0 96).1 = 4 := rfl
theorem s96 : (xG0 96).2.1 = 1 := rfl
theorem r8 {i : Nat} (h : i < 8) : (xG0 8).2.2 i = some (9 + 3 * i) := if_pos h
theorem r56 {i : Nat} (h : i < 12) : (xG0 56).2.2 i = some (57 + i) := if_pos h
theorem gv {i : Nat} (h : i < 12) : (xG0 (57 + i)).1 = 1 ∧ (xG0 (57 + i)).2.1 = 64 := by
  match i, h with
  | 0, _ => exact ⟨rfl, rfl⟩
  | 1, _ => exact ⟨rfl, rfl⟩
  | 2, _ => exact ⟨rfl, rfl⟩
  | 3, _ => exact ⟨rfl, rfl⟩
  | 4, _ => exact ⟨rfl, rfl⟩
  | 5, _ => exact ⟨rfl, rfl⟩
  | 6, _ => exact ⟨rfl, rfl⟩
  | 7, _ => exact ⟨rfl, rfl⟩
  | 8, _ => exact ⟨rfl, rfl⟩
  | 9, _ => exact ⟨rfl, rfl⟩
  | 10, _ => exact ⟨rfl, rfl⟩
  | 11, _ => exact ⟨rfl, rfl⟩
/-- a picture's cells; the nodes' -/
def isPic (k : Nat) : Prop := (xG0 k).1 = 13 ∧ (xG0 k).2.2 2 = some (k + 1) ∧ (xG0 k).2.2 3 = some (k + 2) ∧ (xG0 (k + 1)).1 = 1 ∧ (xG0 (k + 1)).2.1 = 64 ∧ (xG0 (k + 2)).1 = 1 ∧ (xG0 (k + 2)).2.1 = 64
theorem isPic_1 : isPic 1 := ⟨rfl, rfl, rfl, rfl, rfl, rfl, rfl⟩
theorem isPic_4 : isPic 4 := ⟨rfl, rfl, rfl, rfl, rfl, rfl, rfl⟩
theorem isPic_k {i : Nat} (h : i < 8) : isPic (9 + 3 * i) := by
  match i, h with
  | 0, _ => exact ⟨rfl, rfl, rfl, rfl, rfl, rfl, rfl⟩
  | 1, _ => exact ⟨rfl, rfl, rfl, rfl, rfl, rfl, rfl⟩
  | 2, _ => exact ⟨rfl, rfl, rfl, rfl, rfl, rfl, rfl⟩
  | 3, _ => exact ⟨rfl, rfl, rfl, rfl, rfl, rfl, rfl⟩
  | 4, _ => exact ⟨rfl, rfl, rfl, rfl, rfl, rfl, rfl⟩
  | 5, _ => exact ⟨rfl, rfl, rfl, rfl, rfl, rfl, rfl⟩
  | 6, _ => exact ⟨rfl, rfl, rfl, rfl, rfl, rfl, rfl⟩
  | 7, _ => exact ⟨rfl, rfl, rfl, rfl, rfl, rfl, rfl⟩
theorem isPic.g {k : Nat} (h : isPic k) : (xG0 k).1 = 6 + 7 := h.1
theorem isPic.r2 {k : Nat} (h : isPic k) : (xG0 k).2.2 2 = some (k + 1) := h.2.1
theorem isPic.r3 {k : Nat} (h : isPic k) : (xG0 k).2.2 3 = some (k + 2) := h.2.2.1
theorem isPic.g1 {k : Nat} (h : isPic k) : (xG0 (k + 1)).1 = 1 := h.2.2.2.1
theorem isPic.s1 {k : Nat} (h : isPic k) : (xG0 (k + 1)).2.1 = 64 := h.2.2.2.2.1
theorem isPic.g2 {k : Nat} (h : isPic k) : (xG0 (k + 2)).1 = 1 := h.2.2.2.2.2.1
theorem isPic.s2 {k : Nat} (h : isPic k) : (xG0 (k + 2)).2.1 = 64 := h.2.2.2.2.2.2
def isNod (k : Nat) : Prop := k = 35 ∨ k = 45
theorem isNod.g {k : Nat} (h : isNod k) : (xG0 k).1 = 5 + 7 := by rcases h with rfl | rfl <;> rfl
theorem isNod.r0 {k : Nat} (h : isNod k) : (xG0 k).2.2 0 = some (k + 1) := by rcases h with rfl | rfl <;> rfl
theorem isNod.r5 {k : Nat} (h : isNod k) : (xG0 k).2.2 5 = some (k + 2) := by rcases h with rfl | rfl <;> rfl
theorem isNod.r6 {k : Nat} (h : isNod k) : (xG0 k).2.2 6 = some (k + 3) := by rcases h with rfl | rfl <;> rfl
theorem isNod.r7 {k : Nat} (h : isNod k) : (xG0 k).2.2 7 = some (k + 4) := by rcases h with rfl | rfl <;> rfl
theorem isNod.r8 {k : Nat} (h : isNod k) : (xG0 k).2.2 8 = some (k + 5) := by rcases h with rfl | rfl <;> rfl
theorem isNod.r9 {k : Nat} (h : isNod k) : (xG0 k).2.2 9 = some (k + 6) := by rcases h with rfl | rfl <;> rfl
theorem isNod.r10 {k : Nat} (h : isNod k) : (xG0 k).2.2 10 = some (k + 7) := by rcases h with rfl | rfl <;> rfl
theorem isNod.r11 {k : Nat} (h : isNod k) : (xG0 k).2.2 11 = some (k + 8) := by rcases h with rfl | rfl <;> rfl
theorem isNod.r12 {k : Nat} (h : isNod k) : (xG0 k).2.2 12 = some (k + 9) := by rcases h with rfl | rfl <;> rfl
theorem isNod.g1 {k : Nat} (h : isNod k) : (xG0 (k + 1)).1 = 1 + 7 := by rcases h with rfl | rfl <;> rfl
theorem isNod.g2 {k : Nat} (h : isNod k) : (xG0 (k + 2)).1 = 2 := by rcases h with rfl | rfl <;> rfl
theorem isNod.s2 {k : Nat} (h : isNod k) : (xG0 (k + 2)).2.1 = 64 := by rcases h with rfl | rfl <;> rfl
theorem isNod.g3 {k : Nat} (h : isNod k) : (xG0 (k + 3)).1 = 1 := by rcases h with rfl | rfl <;> rfl
theorem isNod.s3 {k : Nat} (h : isNod k) : (xG0 (k + 3)).2.1 = 64 := by rcases h with rfl | rfl <;> rfl
theorem isNod.g4 {k : Nat} (h : isNod k) : (xG0 (k + 4)).1 = 1 := by rcases h with rfl | rfl <;> rfl
theorem isNod.s4 {k : Nat} (h : isNod k) : (xG0 (k + 4)).2.1 = 64 := by rcases h with rfl | rfl <;> rfl
theorem isNod.g5 {k : Nat} (h : isNod k) : (xG0 (k + 5)).1 = 1 := by rcases h with rfl | rfl <;> rfl
theorem isNod.s5 {k : Nat} (h : isNod k) : (xG0 (k + 5)).2.1 = 64 := by rcases h with rfl | rfl <;> rfl
theorem isNod.g6 {k : Nat} (h : isNod k) : (xG0 (k + 6)).1 = 1 := by rcases h with rfl | rfl <;> rfl
theorem isNod.s6 {k : Nat} (h : isNod k) : (xG0 (k + 6)).2.1 = 64 := by rcases h with rfl | rfl <;> rfl
theorem isNod.g7 {k : Nat} (h : isNod k) : (xG0 (k + 7)).1 = 1 := by rcases h with rfl | rfl <;> rfl
theorem isNod.s7 {k : Nat} (h : isNod k) : (xG0 (k + 7)).2.1 = 64 := by rcases h with rfl | rfl <;> rfl
theorem isNod.g8 {k : Nat} (h : isNod k) : (xG0 (k + 8)).1 = 1 := by rcases h with rfl | rfl <;> rfl
theorem isNod.s8 {k : Nat} (h : isNod k) : (xG0 (k + 8)).2.1 = 64 := by rcases h with rfl | rfl <;> rfl
theorem isNod.g9 {k : Nat} (h : isNod k) : (xG0 (k + 9)).1 = 2 := by rcases h with rfl | rfl <;> rfl
theorem isNod.s9 {k : Nat} (h : isNod k) : (xG0 (k + 9)).2.1 = 16 := by rcases h with rfl | rfl <;> rfl
def isGrd (k : Nat) : Prop := k = 36 ∨ k = 46
theorem isGrd.g {k : Nat} (h : isGrd k) : (xG0 k).1 = 1 + 7 := by rcases h with rfl | rfl <;> rfl
abbrev q0 (Q : Option Value → xA → xB → xD → Prop) : xQ := fun r N G A B D => N = 97 ∧ G = xG0 ∧ Q r A B D
abbrev x0 (QX : String → xA → xB → xD → Prop) : xQX := fun E N G A B D => N = 97 ∧ G = xG0 ∧ QX E A B D
abbrev nx : String → xA → xB → xD → Prop := fun _ _ _ _ => False
abbrev eqQ (v : Option Value) (A1 : xA) (B1 : xB) (D1 : xD) : Option Value → xA → xB → xD → Prop := fun r A B D => r = v ∧ A = A1 ∧ B = B1 ∧ D = D1
abbrev go0 (M : xMI) (Q : Option Value → xA → xB → xD → Prop) (QX : String → xA → xB → xD → Prop) (cs sl pc : Nat) (lv : xLV) (st : List Value) (A : xA) (B : xB) (D : xD) : Prop := xgo M 97 (q0 Q) (x0 QX) cs sl pc lv st 97 xG0 A B D
abbrev does0 (M : xMI) (av : List Value) (A : xA) (B : xB) (D : xD) (Q : Option Value → xA → xB → xD → Prop) (QX : String → xA → xB → xD → Prop) : Prop := xdoes M av 97 xG0 A B D (q0 Q) (x0 QX)
theorem does_go {M : xMI} {av : List Value} {A : xA} {B : xB} {D : xD} {Q : Option Value → xA → xB → xD → Prop} {QX : String → xA → xB → xD → Prop} (hpn : plainName (mY M).cls = true) (hh : mH M = []) (hlen : (lg_sl av).length ≤ mL M) {lv : xLV} (hl : lv_args 0 av = lv) (k : go0 M Q QX 0 0 0 lv [] A B D) : does0 M av A B D Q QX := by
  subst hl
  exact xdoes_go hpn hh hlen k
section XR0
variable {M : xMI} {Q : Option Value → xA → xB → xD → Prop} {QX : String → xA → xB → xD → Prop} {cs sl pc : Nat} {lv : xLV} {st : List Value} {A : xA} {B : xB} {D : xD}
theorem go_ret {r : Option Value} (hd : xret M pc r) (hc : cs ≤ (mO M).cells) (hs : sl ≤ (mO M).slots) (k : Q r A B D) : go0 M Q QX cs sl pc lv r.toList A B D := xi_ret hd hc hs ⟨rfl, rfl, k⟩
/-- calls of what never throws -/
theorem cV {M2 : xMI} {av : List Value} {P : Option Value → xA → xB → xD → Prop} {idx n kr ci : Nat} {q : vw_C} (hd : decode (mC M) pc = .ok (.invokevirtual idx, 3)) (hw : xlV (mY M).cls idx M2 n) (hh : mH M2 = []) (hz : (mO M2).cells = 0 ∧ (mO M2).slots = 0) (hn : av.length = n) (hR : (mO M2).frames + 1 ≤ (mO M).frames ∧ 8 + (mL M2 + 11) + (mO M2).locals ≤ (mO M).locals) (hcs : cs ≤ (mO M).cells ∧ sl ≤ (mO M).slots) (hst : (st.map fun v => v.category).sum ≤ 8)
    (hg : (xG0 kr).1 = ci + 7) (hc : vwCl[ci]? = some q) (hcn : q.1 = (mY M2).cls) (hC : does0 M2 (.ref kr :: av) A B D P nx) (kk : ∀ r A' B' D', P r A' B' D' → go0 M Q QX cs sl (pc + 3) lv (r.toList ++ st) A' B' D') : go0 M Q QX cs sl pc lv (av.reverse ++ .ref kr :: st) A B D := by
  refine xi_callV hd hw hh hn ⟨hR.1, hR.2, by rw [hz.1]; exact hcs.1, by rw [hz.2]; exact hcs.2⟩ hst hg hc hcn hC (fun E N' G' A' B' D' h => h.2.2.elim) (fun r N' G' A' B' D' h => ?_)
  obtain ⟨rfl, rfl, h⟩ := h
  refine ⟨Or.inl rfl, ?_⟩
  rw [hz.1, hz.2]
  exact kk r A' B' D' h
theorem cV1 {M2 : xMI} {av : List Value} {v : Option Value} {A1 : xA} {B1 : xB} {D1 : xD} {idx n kr ci : Nat} {q : vw_C} (hd : decode (mC M) pc = .ok (.invokevirtual idx, 3)) (hw : xlV (mY M).cls idx M2 n) (hh : mH M2 = []) (hz : (mO M2).cells = 0 ∧ (mO M2).slots = 0) (hn : av.length = n) (hR : (mO M2).frames + 1 ≤ (mO M).frames ∧ 8 + (mL M2 + 11) + (mO M2).locals ≤ (mO M).locals) (hcs : cs ≤ (mO M).cells ∧ sl ≤ (mO M).slots) (hst : (st.map fun v => v.category).sum ≤ 8)
    (hg : (xG0 kr).1 = ci + 7) (hc : vwCl[ci]? = some q) (hcn : q.1 = (mY M2).cls) (hC : does0 M2 (.ref kr :: av) A B D (eqQ v A1 B1 D1) nx) (kk : go0 M Q QX cs sl (pc + 3) lv (v.toList ++ st) A1 B1 D1) : go0 M Q QX cs sl pc lv (av.reverse ++ .ref kr :: st) A B D :=
  cV hd hw hh hz hn hR hcs hst hg hc hcn hC (fun r A' B' D' h => by obtain ⟨rfl, rfl, rfl, rfl⟩ := h; exact kk)
theorem cS {M2 : xMI} {av : List Value} {P : Option Value → xA → xB → xD → Prop} {idx n : Nat} (hd : decode (mC M) pc = .ok (.invokestatic idx, 3)) (hw : xlS (mY M).cls idx M2 n) (hh : mH M2 = []) (hz : (mO M2).cells = 0 ∧ (mO M2).slots = 0) (hn : av.length = n) (hR : (mO M2).frames + 1 ≤ (mO M).frames ∧ 8 + (mL M2 + 11) + (mO M2).locals ≤ (mO M).locals) (hcs : cs ≤ (mO M).cells ∧ sl ≤ (mO M).slots) (hst : (st.map fun v => v.category).sum ≤ 8)
    (hC : does0 M2 av A B D P nx) (kk : ∀ r A' B' D', P r A' B' D' → go0 M Q QX cs sl (pc + 3) lv (r.toList ++ st) A' B' D') : go0 M Q QX cs sl pc lv (av.reverse ++ st) A B D := by
  refine xi_callS hd hw hh hn ⟨hR.1, hR.2, by rw [hz.1]; exact hcs.1, by rw [hz.2]; exact hcs.2⟩ hst hC (fun E N' G' A' B' D' h => h.2.2.elim) (fun r N' G' A' B' D' h => ?_)
  obtain ⟨rfl, rfl, h⟩ := h
  refine ⟨Or.inl rfl, ?_⟩
  rw [hz.1, hz.2]
  exact kk r A' B' D' h
theorem cS1 {M2 : xMI} {av : List Value} {v : Option Value} {A1 : xA} {B1 : xB} {D1 : xD} {idx n : Nat} (hd : decode (mC M) pc = .ok (.invokestatic idx, 3)) (hw : xlS (mY M).cls idx M2 n) (hh : mH M2 = []) (hz : (mO M2).cells = 0 ∧ (mO M2).slots = 0) (hn : av.length = n) (hR : (mO M2).frames + 1 ≤ (mO M).frames ∧ 8 + (mL M2 + 11) + (mO M2).locals ≤ (mO M).locals) (hcs : cs ≤ (mO M).cells ∧ sl ≤ (mO M).slots) (hst : (st.map fun v => v.category).sum ≤ 8)
    (hC : does0 M2 av A B D (eqQ v A1 B1 D1) nx) (kk : go0 M Q QX cs sl (pc + 3) lv (v.toList ++ st) A1 B1 D1) : go0 M Q QX cs sl pc lv (av.reverse ++ st) A B D :=
  cS hd hw hh hz hn hR hcs hst hC (fun r A' B' D' h => by obtain ⟨rfl, rfl, rfl, rfl⟩ := h; exact kk)
/-- array rows by a natural index -/
theorem ia {kk nn j : Nat} {i : Int32} (hd : decode (mC M) pc = .ok (.iaload, 1)) (hg : (xG0 kk).1 = 1) (hn : (xG0 kk).2.1 = nn) (hi : i = nI j) (hj : j < nn) (hs : nn < 2 ^ 31) (k : go0 M Q QX cs sl (pc + 1) lv (.int (A kk j) :: st) A B D) : go0 M Q QX cs sl pc lv (.int i :: .ref kk :: st) A B D := by
  subst hi
  refine xi_iaload hd hg hn (vp_in_nI hj hs) ?_
  rw [nI_clamp (Nat.lt_trans hj hs)]
  exact k
theorem la {kk nn j : Nat} {i : Int32} (hd : decode (mC M) pc = .ok (.laload, 1)) (hg : (xG0 kk).1 = 2) (hn : (xG0 kk).2.1 = nn) (hi : i = nI j) (hj : j < nn) (hs : nn < 2 ^ 31) (k : go0 M Q QX cs sl (pc + 1) lv (.long (B kk j) :: st) A B D) : go0 M Q QX cs sl pc lv (.int i :: .ref kk :: st) A B D := by
  subst hi
  refine xi_laload hd hg hn (vp_in_nI hj hs) ?_
  rw [nI_clamp (Nat.lt_trans hj hs)]
  exact k
theorem za {kk nn j : Nat} {i : Int32} (hd : decode (mC M) pc = .ok (.baload, 1)) (hg : (xG0 kk).1 = 3) (hn : (xG0 kk).2.1 = nn) (hi : i = nI j) (hj : j < nn) (hs : nn < 2 ^ 31) (k : go0 M Q QX cs sl (pc + 1) lv (.int (A kk j) :: st) A B D) : go0 M Q QX cs sl pc lv (.int i :: .ref kk :: st) A B D := by
  subst hi
  refine xi_baload hd hg hn (vp_in_nI hj hs) ?_
  rw [nI_clamp (Nat.lt_trans hj hs)]
  exact k
theorem is {kk nn j : Nat} {i x : Int32} (hd : decode (mC M) pc = .ok (.iastore, 1)) (hg : (xG0 kk).1 = 1) (hn : (xG0 kk).2.1 = nn) (hi : i = nI j) (hj : j < nn) (hs : nn < 2 ^ 31) (k : go0 M Q QX cs sl (pc + 1) lv st (updA A kk j x) B D) : go0 M Q QX cs sl pc lv (.int x :: .int i :: .ref kk :: st) A B D := by
  subst hi
  refine xi_iastore hd hg hn (vp_in_nI hj hs) ?_
  rw [nI_clamp (Nat.lt_trans hj hs)]
  exact k
theorem zs {kk nn j : Nat} {i x : Int32} (hd : decode (mC M) pc = .ok (.bastore, 1)) (hg : (xG0 kk).1 = 3) (hn : (xG0 kk).2.1 = nn) (hi : i = nI j) (hj : j < nn) (hs : nn < 2 ^ 31) (hz : x = 0 ∨ x = 1) (k : go0 M Q QX cs sl (pc + 1) lv st (updA A kk j x) B D) : go0 M Q QX cs sl pc lv (.int x :: .int i :: .ref kk :: st) A B D := by
  subst hi
  refine xi_bastore hd hg hn (vp_in_nI hj hs) hz ?_
  rw [nI_clamp (Nat.lt_trans hj hs)]
  exact k
theorem ls {kk nn j : Nat} {i : Int32} {x : Int64} (hd : decode (mC M) pc = .ok (.lastore, 1)) (hg : (xG0 kk).1 = 2) (hn : (xG0 kk).2.1 = nn) (hi : i = nI j) (hj : j < nn) (hs : nn < 2 ^ 31) (k : go0 M Q QX cs sl (pc + 1) lv st A (updB B kk j x) D) : go0 M Q QX cs sl pc lv (.long x :: .int i :: .ref kk :: st) A B D := by
  subst hi
  refine xi_lastore hd hg hn (vp_in_nI hj hs) ?_
  rw [nI_clamp (Nat.lt_trans hj hs)]
  exact k
end XR0
/-- a loop that counts up -/
theorem up_ind {n : Nat} {P : Nat → Prop} (h : ∀ j, j ≤ n → (j < n → P (j + 1)) → P j) : ∀ j, j ≤ n → P j := by
  have key : ∀ d j, j + d = n → P j := by
    intro d
    induction d with
    | zero => intro j hj; exact h j (by omega) (fun q => by omega)
    | succ d ih => intro j hj; exact h j (by omega) (fun _ => ih (j + 1) (by omega))
  intro j hj
  exact key (n - j) j (by omega)
theorem dn_ind {P : Nat → Prop} (h : ∀ j, (∀ i, j = i + 1 → P i) → P j) : ∀ j, P j := by
  intro j
  induction j with
  | zero => exact h 0 (fun i hi => by omega)
  | succ j ih => exact h (j + 1) (fun i hi => by cases hi; exact ih)
