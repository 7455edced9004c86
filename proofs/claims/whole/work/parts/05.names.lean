/-! the tables' words that a run needs -/
def keepW (w : Cond) : Bool := goodWord w || (match w with
  | .arrayOver (.object _) => true
  | .methodLinkNest _ _ _ _ => true
  | _ => false)
def zt : List Cond := lw_tbl.filter keepW
def RX0 : String := "MinorTables$Grid"
def TX0 : u_T := fun k => match k with
  | 0 => ("MinorTables$Grid", "numbers", "[J", true)
  | 1 => ("MinorTables$Grid", "parts", "[J", true)
  | _ => ("MinorTables$Grid", "lines", "I", false)
theorem nmX0 : ∀ a, a < 3 → ∀ b, b < 3 → a ≠ b → (TX0 a).2.1 ≠ (TX0 b).2.1 := by decide +kernel
def RX1 : String := "MinorTables$Rows"
def TX1 : u_T := fun k => match k with
  | 0 => ("MinorTables$Rows", "cells", "[I", true)
  | 1 => ("MinorTables$Rows", "most", "I", true)
  | _ => ("MinorTables$Rows", "held", "I", false)
theorem nmX1 : ∀ a, a < 3 → ∀ b, b < 3 → a ≠ b → (TX1 a).2.1 ≠ (TX1 b).2.1 := by decide +kernel
def RX2 : String := "MinorTables$Scene"
def TX2 : u_T := fun k => match k with
  | 0 => ("MinorTables$Scene", "table", "LMinorTables$Grid;", true)
  | 1 => ("MinorTables$Scene", "chips", "LMinorTables$Rows;", true)
  | 2 => ("MinorTables$Scene", "vector", "[J", true)
  | 3 => ("MinorTables$Scene", "notes", "LMinorTables$Rows;", true)
  | 4 => ("MinorTables$Scene", "seen", "LMinorTables$Rows;", true)
  | 5 => ("MinorTables$Scene", "events", "LMinorTables$Rows;", true)
  | _ => ("MinorTables$Scene", "book", "LMinorTables$Rows;", true)
theorem nmX2 : ∀ a, a < 7 → ∀ b, b < 7 → a ≠ b → (TX2 a).2.1 ≠ (TX2 b).2.1 := by decide +kernel
def RX3 : String := "MinorTables$Straights"
def TX3 : u_T := fun k => match k with
  | 0 => ("MinorTables$Straights", "atNought", "[J", true)
  | 1 => ("MinorTables$Straights", "growth", "[J", true)
  | _ => ("MinorTables$Straights", "held", "I", false)
theorem nmX3 : ∀ a, a < 3 → ∀ b, b < 3 → a ≠ b → (TX3 a).2.1 ≠ (TX3 b).2.1 := by decide +kernel
def RX4 : String := "MinorTables$Tape"
def TX4 : u_T := fun k => match k with
  | 0 => ("MinorTables$Tape", "items", "[J", true)
  | 1 => ("MinorTables$Tape", "sort", "I", false)
  | _ => ("MinorTables$Tape", "held", "I", false)
theorem nmX4 : ∀ a, a < 3 → ∀ b, b < 3 → a ≠ b → (TX4 a).2.1 ≠ (TX4 b).2.1 := by decide +kernel
def RX5 : String := "MinorTables$Text"
def TX5 : u_T := fun k => match k with
  | 0 => ("MinorTables$Text", "signs", "[I", true)
  | 1 => ("MinorTables$Text", "clauses", "LMinorTables$Rows;", true)
  | 2 => ("MinorTables$Text", "held", "I", false)
  | 3 => ("MinorTables$Text", "place", "I", false)
  | _ => ("MinorTables$Text", "number", "I", false)
theorem nmX5 : ∀ a, a < 5 → ∀ b, b < 5 → a ≠ b → (TX5 a).2.1 ≠ (TX5 b).2.1 := by decide +kernel
def RX6 : String := "MinorTables"
def TX6 : u_T := fun k => match k with
  | 0 => ("MinorTables", "now", "LMinorTables$Scene;", true)
  | 1 => ("MinorTables", "kept", "LMinorTables$Scene;", true)
  | 2 => ("MinorTables", "imageTaken", "Z", false)
  | 3 => ("MinorTables", "result", "LMinorTables$Grid;", true)
  | 4 => ("MinorTables", "straights", "LMinorTables$Straights;", true)
  | 5 => ("MinorTables", "text", "LMinorTables$Text;", true)
  | 6 => ("MinorTables", "tapes", "[LMinorTables$Tape;", true)
  | 7 => ("MinorTables", "ways", "[J", true)
  | 8 => ("MinorTables", "unlikeValues", "[J", true)
  | _ => ("MinorTables", "tableTimesVector", "[J", true)
theorem nmX6 : ∀ a, a < 10 → ∀ b, b < 10 → a ≠ b → (TX6 a).2.1 ≠ (TX6 b).2.1 := by decide +kernel
def RX7 : String := "MinorTablesModel"
def TX7 : u_T := fun k => match k with
  | 0 => ("MinorTablesModel", "n", "I", false)
  | 1 => ("MinorTablesModel", "table", "[I", true)
  | 2 => ("MinorTablesModel", "vector", "[I", true)
  | 3 => ("MinorTablesModel", "spare", "[I", true)
  | 4 => ("MinorTablesModel", "noted", "[I", true)
  | 5 => ("MinorTablesModel", "notes", "I", false)
  | 6 => ("MinorTablesModel", "times", "[J", true)
  | 7 => ("MinorTablesModel", "unlike", "[J", true)
  | 8 => ("MinorTablesModel", "chips", "I", false)
  | 9 => ("MinorTablesModel", "chipKinds", "[I", true)
  | 10 => ("MinorTablesModel", "chipLines", "[I", true)
  | 11 => ("MinorTablesModel", "chipTimes", "[I", true)
  | 12 => ("MinorTablesModel", "ways", "[J", true)
  | 13 => ("MinorTablesModel", "then", "[J", true)
  | 14 => ("MinorTablesModel", "text", "[I", true)
  | 15 => ("MinorTablesModel", "texted", "I", false)
  | 16 => ("MinorTablesModel", "at", "I", false)
  | 17 => ("MinorTablesModel", "isWrong", "Z", false)
  | 18 => ("MinorTablesModel", "letters", "[I", true)
  | 19 => ("MinorTablesModel", "ones", "[I", true)
  | 20 => ("MinorTablesModel", "others", "[I", true)
  | 21 => ("MinorTablesModel", "numbers", "[I", true)
  | 22 => ("MinorTablesModel", "clauses", "I", false)
  | 23 => ("MinorTablesModel", "seenRows", "[I", true)
  | 24 => ("MinorTablesModel", "seenColumns", "[I", true)
  | 25 => ("MinorTablesModel", "seenMinors", "[I", true)
  | 26 => ("MinorTablesModel", "seen", "I", false)
  | 27 => ("MinorTablesModel", "eventSorts", "[I", true)
  | 28 => ("MinorTablesModel", "eventOf", "[I", true)
  | 29 => ("MinorTablesModel", "events", "I", false)
  | 30 => ("MinorTablesModel", "bookSpots", "[I", true)
  | 31 => ("MinorTablesModel", "bookNumbers", "[I", true)
  | 32 => ("MinorTablesModel", "booked", "I", false)
  | 33 => ("MinorTablesModel", "sorts", "[I", true)
  | 34 => ("MinorTablesModel", "sizes", "[I", true)
  | 35 => ("MinorTablesModel", "items", "[J", true)
  | 36 => ("MinorTablesModel", "moved", "[J", true)
  | 37 => ("MinorTablesModel", "keptN", "I", false)
  | 38 => ("MinorTablesModel", "keptTable", "[I", true)
  | 39 => ("MinorTablesModel", "keptVector", "[I", true)
  | 40 => ("MinorTablesModel", "keptChips", "[I", true)
  | 41 => ("MinorTablesModel", "keptNoted", "[I", true)
  | 42 => ("MinorTablesModel", "keptSeen", "[I", true)
  | 43 => ("MinorTablesModel", "keptEvents", "[I", true)
  | 44 => ("MinorTablesModel", "keptBook", "[I", true)
  | 45 => ("MinorTablesModel", "keptChipMany", "I", false)
  | 46 => ("MinorTablesModel", "keptNotes", "I", false)
  | 47 => ("MinorTablesModel", "keptSeenMany", "I", false)
  | 48 => ("MinorTablesModel", "keptEventMany", "I", false)
  | _ => ("MinorTablesModel", "keptBooked", "I", false)
theorem nmX7 : ∀ a, a < 50 → ∀ b, b < 50 → a ≠ b → (TX7 a).2.1 ≠ (TX7 b).2.1 := by decide +kernel
abbrev vcl : List vw_C := [(RX0, TX0, 3), (RX1, TX1, 3), (RX2, TX2, 7), (RX3, TX3, 3), (RX4, TX4, 3), (RX5, TX5, 5), (RX6, TX6, 10), (RX7, TX7, 50)]
def cnm : List String := ["MinorTables$Grid", "MinorTables$Rows", "MinorTables$Scene", "MinorTables$Straights", "MinorTables$Tape", "MinorTables$Text", "MinorTables", "MinorTablesModel", "MinorTablesLaw", "java/lang/Integer", "java/lang/Math", "java/util/Arrays"]
def cn (o : Nat) : String := match nth cnm o with
  | some x => x
  | none => ""
def frt : List (Nat × Nat × Nat × Nat × Nat) := [(0, 9, 0, 0, 90), (0, 15, 0, 1, 91), (0, 22, 0, 2, 92), (1, 13, 1, 1, 111), (1, 19, 1, 0, 110), (1, 23, 1, 2, 112), (2, 12, 2, 0, 121), (2, 23, 2, 1, 123), (2, 27, 2, 2, 125), (2, 31, 2, 3, 127), (2, 34, 2, 4, 129), (2, 37, 2, 5, 131), (2, 40, 2, 6, 133), (3, 9, 3, 0, 158), (3, 15, 3, 1, 159), (3, 18, 3, 2, 160), (4, 9, 4, 0, 199), (4, 15, 4, 1, 200), (4, 19, 4, 2, 201), (5, 9, 5, 0, 176), (5, 20, 5, 1, 177), (5, 24, 5, 2, 178), (5, 31, 5, 3, 179), (5, 56, 5, 4, 180), (6, 14, 6, 0, 209), (6, 18, 6, 1, 210), (6, 24, 6, 3, 212), (6, 31, 6, 4, 213), (6, 38, 6, 5, 214), (6, 44, 6, 6, 215), (6, 48, 6, 7, 216), (6, 52, 6, 8, 217), (6, 55, 6, 9, 218), (6, 59, 2, 0, 122), (6, 70, 2, 1, 124), (6, 79, 2, 2, 126), (6, 88, 2, 3, 128), (6, 267, 2, 4, 130), (6, 287, 2, 5, 132), (6, 297, 2, 6, 134), (6, 314, 6, 2, 211), (7, 15, 7, 0, 832), (7, 19, 7, 1, 833), (7, 23, 7, 2, 834), (7, 26, 7, 3, 835), (7, 29, 7, 4, 836), (7, 32, 7, 6, 838), (7, 36, 7, 7, 839), (7, 39, 7, 9, 841), (7, 42, 7, 10, 842), (7, 45, 7, 11, 843), (7, 48, 7, 12, 844), (7, 51, 7, 13, 845), (7, 54, 7, 14, 846), (7, 57, 7, 18, 850), (7, 60, 7, 19, 851), (7, 63, 7, 20, 852), (7, 66, 7, 21, 853), (7, 69, 7, 23, 855), (7, 72, 7, 24, 856), (7, 75, 7, 25, 857), (7, 78, 7, 27, 859), (7, 81, 7, 28, 860), (7, 84, 7, 30, 862), (7, 87, 7, 31, 863), (7, 90, 7, 33, 865), (7, 93, 7, 34, 866), (7, 96, 7, 35, 867), (7, 99, 7, 36, 868), (7, 102, 7, 38, 870), (7, 105, 7, 39, 871), (7, 108, 7, 40, 872), (7, 111, 7, 41, 873), (7, 114, 7, 42, 874), (7, 117, 7, 43, 875), (7, 120, 7, 44, 876), (7, 126, 7, 8, 840), (7, 129, 7, 5, 837), (7, 217, 7, 15, 847), (7, 220, 7, 16, 848), (7, 226, 7, 17, 849), (7, 237, 7, 22, 854), (7, 270, 7, 26, 858), (7, 281, 7, 29, 861), (7, 290, 7, 32, 864), (7, 304, 7, 37, 869), (7, 307, 7, 45, 877), (7, 310, 7, 46, 878), (7, 313, 7, 47, 879), (7, 316, 7, 48, 880), (7, 319, 7, 49, 881)]
def mrt : List (Nat × Nat × Nat × Bool × Nat) := [(0, 18, 3, false, 82), (0, 26, 7, false, 86), (0, 30, 6, false, 278), (0, 34, 115, true, 264), (0, 38, 5, false, 267), (0, 42, 116, true, 271), (0, 45, 11, false, 297), (0, 55, 2, false, 523), (0, 59, 211, false, 496), (0, 64, 22, false, 502), (0, 68, 21, false, 506), (0, 71, 20, false, 510), (0, 78, 23, false, 488), (0, 81, 19, false, 492), (0, 84, 24, false, 481), (0, 87, 25, false, 477), (0, 90, 28, false, 519), (0, 93, 30, false, 527), (1, 26, 33, false, 329), (1, 30, 34, false, 350), (1, 34, 37, false, 557), (1, 37, 35, false, 771), (1, 40, 36, false, 772), (2, 11, 0, false, 78), (2, 20, 31, false, 103), (2, 43, 4, false, 766), (2, 47, 39, false, 767), (2, 50, 1, false, 384), (2, 54, 42, false, 389), (3, 22, 48, false, 640), (4, 22, 212, false, 793), (4, 28, 57, false, 802), (4, 32, 54, false, 818), (5, 17, 31, false, 175), (5, 28, 35, false, 414), (5, 34, 71, false, 415), (5, 38, 68, false, 441), (5, 42, 66, false, 419), (5, 46, 69, false, 423), (5, 50, 67, false, 426), (5, 53, 72, false, 430), (5, 59, 70, false, 434), (5, 62, 73, false, 437), (5, 65, 36, false, 445), (6, 13, 40, true, 72), (6, 23, 0, false, 151), (6, 30, 45, true, 154), (6, 37, 59, true, 170), (6, 58, 51, true, 195), (6, 62, 1, false, 244), (6, 66, 3, false, 248), (6, 74, 35, false, 249), (6, 82, 212, false, 253), (6, 91, 8, false, 260), (6, 95, 9, false, 274), (6, 99, 114, false, 282), (6, 103, 10, false, 285), (6, 107, 12, false, 293), (6, 110, 13, false, 305), (6, 113, 125, false, 313), (6, 117, 33, false, 321), (6, 121, 36, false, 325), (6, 125, 32, false, 334), (6, 128, 128, false, 342), (6, 131, 17, false, 364), (6, 137, 4, false, 372), (6, 141, 42, false, 380), (6, 144, 43, false, 385), (6, 147, 44, false, 390), (6, 150, 61, false, 398), (6, 151, 63, false, 402), (6, 154, 65, false, 410), (6, 157, 62, false, 446), (6, 158, 64, false, 450), (6, 162, 37, false, 346), (6, 166, 138, false, 454), (6, 169, 26, false, 473), (6, 172, 25, false, 514), (6, 175, 27, false, 515), (6, 178, 123, false, 531), (6, 182, 124, false, 534), (6, 185, 34, false, 543), (6, 188, 18, false, 548), (6, 193, 38, false, 553), (6, 196, 19, false, 558), (6, 200, 115, false, 567), (6, 203, 116, false, 568), (6, 206, 24, false, 569), (6, 209, 117, false, 574), (6, 212, 132, false, 577), (6, 216, 121, false, 581), (6, 228, 133, false, 592), (6, 232, 2, false, 600), (6, 235, 211, false, 601), (6, 240, 118, false, 606), (6, 243, 30, false, 610), (6, 247, 134, false, 611), (6, 251, 135, false, 619), (6, 254, 49, false, 636), (6, 257, 130, false, 656), (6, 260, 131, false, 660), (6, 264, 129, false, 664), (6, 272, 136, false, 678), (6, 275, 50, false, 682), (6, 278, 28, false, 690), (6, 281, 29, false, 691), (6, 284, 16, false, 699), (6, 290, 139, false, 707), (6, 293, 140, false, 715), (6, 300, 120, false, 738), (6, 304, 52, false, 742), (6, 307, 141, false, 746), (6, 311, 41, false, 762), (6, 318, 60, false, 781), (6, 319, 53, false, 789), (6, 322, 54, false, 750), (6, 325, 56, false, 798), (6, 328, 55, false, 754), (6, 331, 58, false, 814), (6, 335, 122, false, 584), (6, 343, 6, false, 538), (6, 345, 119, false, 317), (6, 348, 126, false, 354), (6, 351, 127, false, 357), (6, 354, 15, false, 360), (6, 357, 46, false, 623), (6, 358, 23, false, 627), (6, 361, 137, false, 628), (6, 365, 47, false, 632), (6, 368, 75, false, 458), (6, 371, 76, false, 459), (6, 374, 79, false, 460), (6, 377, 80, false, 461), (6, 380, 81, false, 462), (6, 383, 78, false, 463), (6, 386, 82, false, 464), (6, 390, 14, false, 722), (7, 5, 144, false, 1093), (7, 123, 147, false, 828), (7, 136, 142, false, 989), (7, 140, 148, false, 996), (7, 148, 149, false, 1002), (7, 152, 152, false, 1009), (7, 160, 143, false, 1034), (7, 163, 158, false, 1038), (7, 167, 157, false, 1030), (7, 173, 161, false, 1052), (7, 177, 162, false, 1049), (7, 180, 167, false, 1075), (7, 184, 166, false, 1059), (7, 188, 164, false, 1063), (7, 192, 165, false, 1067), (7, 196, 168, false, 1071), (7, 200, 170, false, 1087), (7, 204, 145, false, 1090), (7, 208, 171, false, 1083), (7, 211, 179, false, 1124), (7, 223, 185, false, 1153), (7, 230, 186, false, 1157), (7, 240, 187, false, 1161), (7, 243, 150, false, 1171), (7, 246, 151, false, 1172), (7, 249, 176, false, 1173), (7, 253, 177, false, 1174), (7, 256, 183, false, 1175), (7, 259, 154, false, 1176), (7, 262, 155, false, 1177), (7, 264, 188, false, 1149), (7, 267, 189, false, 1167), (7, 277, 192, false, 1188), (7, 286, 197, false, 1209), (7, 295, 201, false, 1225), (7, 300, 203, false, 1234), (8, 9, 74, false, 64), (8, 12, 146, false, 824), (8, 13, 75, false, 240), (8, 17, 150, false, 983), (8, 18, 76, false, 256), (8, 22, 151, false, 992), (8, 23, 77, false, 289), (8, 27, 153, false, 1005), (8, 28, 78, false, 301), (8, 31, 154, false, 1012), (8, 32, 79, false, 309), (8, 36, 176, false, 1108), (8, 37, 80, false, 330), (8, 40, 177, false, 1112), (8, 41, 81, false, 338), (8, 44, 183, false, 1136), (8, 45, 82, false, 376), (8, 48, 155, false, 1016), (8, 49, 83, false, 394), (8, 52, 184, false, 1140), (8, 53, 84, false, 406), (8, 56, 190, false, 1145), (8, 57, 85, false, 465), (8, 60, 156, false, 1022), (8, 61, 86, false, 469), (8, 64, 169, false, 1055), (8, 65, 87, false, 539), (8, 68, 178, false, 1116), (8, 69, 88, false, 544), (8, 73, 159, false, 1026), (8, 74, 89, false, 559), (8, 77, 160, false, 1041), (8, 78, 90, false, 563), (8, 82, 163, false, 1045), (8, 83, 91, false, 570), (8, 86, 172, false, 1079), (8, 87, 92, false, 596), (8, 90, 173, false, 1096), (8, 91, 93, false, 602), (8, 94, 174, false, 1100), (8, 95, 94, false, 615), (8, 98, 175, false, 1104), (8, 99, 95, false, 644), (8, 102, 180, false, 1120), (8, 103, 96, false, 648), (8, 106, 181, false, 1128), (8, 107, 97, false, 652), (8, 110, 182, false, 1132), (8, 111, 98, false, 668), (8, 114, 191, false, 1178), (8, 115, 99, false, 674), (8, 118, 193, false, 1184), (8, 119, 100, false, 686), (8, 122, 194, false, 1192), (8, 123, 101, false, 695), (8, 126, 195, false, 1196), (8, 127, 102, false, 703), (8, 130, 196, false, 1200), (8, 131, 103, false, 711), (8, 134, 198, false, 1205), (8, 135, 104, false, 726), (8, 138, 199, false, 1213), (8, 139, 105, false, 730), (8, 142, 200, false, 1217), (8, 143, 106, false, 734), (8, 146, 207, false, 1245), (8, 147, 107, false, 758), (8, 150, 208, false, 1249), (8, 151, 108, false, 773), (8, 154, 209, false, 1253), (8, 155, 109, false, 777), (8, 158, 210, false, 1257), (8, 159, 110, false, 785), (8, 162, 202, false, 1221), (8, 165, 111, false, 794), (8, 169, 204, false, 1230), (8, 170, 112, false, 806), (8, 173, 205, false, 1237), (8, 174, 113, false, 810), (8, 178, 206, false, 1241)]
def nrt : List (Nat × Nat × Nat × Nat) := [(0, 3, 998, 81), (0, 49, 992, 368), (0, 75, 991, 485), (1, 1, 998, 106), (1, 7, 990, 107), (2, 3, 998, 75), (3, 3, 998, 157), (4, 3, 998, 198), (4, 36, 999, 819), (5, 3, 998, 173), (6, 5, 998, 67), (6, 220, 990, 590), (6, 225, 991, 591), (6, 339, 994, 587), (6, 388, 993, 719), (7, 9, 998, 827)]
theorem tb_tables_1_1 {w : Cond} (h : w ∈ tables_1_1) (hk : keepW w = true) : w ∈ zt := List.mem_filter.mpr ⟨by simp only [lw_tbl, tables_1, List.mem_append]; simp only [h, true_or, or_true], hk⟩
theorem tb_tables_1_2 {w : Cond} (h : w ∈ tables_1_2) (hk : keepW w = true) : w ∈ zt := List.mem_filter.mpr ⟨by simp only [lw_tbl, tables_1, List.mem_append]; simp only [h, true_or, or_true], hk⟩
theorem tb_tables_1_3 {w : Cond} (h : w ∈ tables_1_3) (hk : keepW w = true) : w ∈ zt := List.mem_filter.mpr ⟨by simp only [lw_tbl, tables_1, List.mem_append]; simp only [h, true_or, or_true], hk⟩
theorem tb_tables_1_4 {w : Cond} (h : w ∈ tables_1_4) (hk : keepW w = true) : w ∈ zt := List.mem_filter.mpr ⟨by simp only [lw_tbl, tables_1, List.mem_append]; simp only [h, true_or, or_true], hk⟩
theorem tb_tables_1_5 {w : Cond} (h : w ∈ tables_1_5) (hk : keepW w = true) : w ∈ zt := List.mem_filter.mpr ⟨by simp only [lw_tbl, tables_1, List.mem_append]; simp only [h, true_or, or_true], hk⟩
theorem tb_tables_1_6 {w : Cond} (h : w ∈ tables_1_6) (hk : keepW w = true) : w ∈ zt := List.mem_filter.mpr ⟨by simp only [lw_tbl, tables_1, List.mem_append]; simp only [h, true_or, or_true], hk⟩
def sgg0 : List (MethodName × ByteArray × Nat × Option FieldType × Nat × Nat × Nat × Nat × Nat) := [(⟨"MinorTables$Grid", "<init>", "()V"⟩, prog_2_method_1_code, 1, none, 2, 80, 79, 0, 52), (⟨"MinorTables$Grid", "lines", "()I"⟩, prog_2_method_2_code, 1, some .int, 1, 247, 245, 246, 52), (⟨"MinorTables$Grid", "sets", "()I"⟩, prog_2_method_3_code, 1, some .int, 1, 526, 524, 525, 52), (⟨"MinorTables$Grid", "becomeUnit", "(I)V"⟩, prog_2_method_4_code, 4, none, 1, 85, 83, 84, 52), (⟨"MinorTables$Grid", "copyFrom", "(LMinorTables$Grid;)V"⟩, prog_2_method_5_code, 4, none, 1, 375, 373, 374, 52), (⟨"MinorTables$Grid", "isLine", "(I)Z"⟩, prog_2_method_6_code, 2, some .boolean, 1, 270, 269, 0, 52), (⟨"MinorTables$Grid", "at", "(II)J"⟩, prog_2_method_7_code, 5, some .long, 1, 281, 279, 280, 52), (⟨"MinorTables$Grid", "put", "(IIJ)V"⟩, prog_2_method_8_code, 7, none, 1, 89, 87, 88, 52), (⟨"MinorTables$Grid", "hasSpot", "(I)Z"⟩, prog_2_method_9_code, 2, some .boolean, 1, 263, 261, 262, 52), (⟨"MinorTables$Grid", "atSpot", "(I)J"⟩, prog_2_method_10_code, 2, some .long, 1, 277, 275, 276, 52), (⟨"MinorTables$Grid", "putSpot", "(IJ)V"⟩, prog_2_method_11_code, 4, none, 1, 288, 286, 287, 52), (⟨"MinorTables$Grid", "swap", "(IIII)V"⟩, prog_2_method_12_code, 7, none, 1, 300, 299, 1, 52), (⟨"MinorTables$Grid", "turnOver", "()V"⟩, prog_2_method_13_code, 3, none, 1, 296, 294, 295, 52), (⟨"MinorTables$Grid", "turnAround", "()V"⟩, prog_2_method_14_code, 4, none, 1, 308, 306, 307, 52), (⟨"MinorTables$Grid", "swapRows", "(I)V"⟩, prog_2_method_15_code, 3, none, 1, 725, 723, 724, 52), (⟨"MinorTables$Grid", "addColumn", "(III)V"⟩, prog_2_method_16_code, 5, none, 1, 363, 361, 362, 52)]
def sgg1 : List (MethodName × ByteArray × Nat × Option FieldType × Nat × Nat × Nat × Nat × Nat) := [(⟨"MinorTables$Grid", "together", "()J"⟩, prog_2_method_17_code, 5, some .long, 1, 702, 700, 701, 52), (⟨"MinorTables$Grid", "greatest", "()J"⟩, prog_2_method_18_code, 5, some .long, 1, 367, 365, 366, 52), (⟨"MinorTables$Grid", "hasMinor", "(II)Z"⟩, prog_2_method_19_code, 3, some .boolean, 1, 551, 549, 550, 52), (⟨"MinorTables$Grid", "determinant", "(II)J"⟩, prog_2_method_20_code, 4, some .long, 1, 495, 493, 494, 52), (⟨"MinorTables$Grid", "partOf", "(I)J"⟩, prog_2_method_21_code, 2, some .long, 1, 513, 512, 14, 52), (⟨"MinorTables$Grid", "expandLastRow", "(II)J"⟩, prog_2_method_22_code, 10, some .long, 1, 509, 508, 13, 52), (⟨"MinorTables$Grid", "lineOf", "(II)I"⟩, prog_2_method_23_code, 5, some .int, 1, 505, 504, 12, 52), (⟨"MinorTables$Grid", "block", "(II)I"⟩, prog_2_method_24_code, 3, some .int, 1, 491, 489, 490, 52), (⟨"MinorTables$Grid", "firstMinor", "(II)J"⟩, prog_2_method_25_code, 4, some .long, 1, 484, 482, 483, 52), (⟨"MinorTables$Grid", "amiss", "()I"⟩, prog_2_method_26_code, 3, some .int, 1, 480, 478, 479, 52), (⟨"MinorTables$Grid", "isPositive", "()Z"⟩, prog_2_method_27_code, 1, some .boolean, 1, 476, 474, 475, 52), (⟨"MinorTables$Grid", "above", "()I"⟩, prog_2_method_28_code, 3, some .int, 1, 518, 516, 517, 52), (⟨"MinorTables$Grid", "aboveOf", "(I)I"⟩, prog_2_method_29_code, 5, some .int, 1, 522, 520, 521, 52), (⟨"MinorTables$Grid", "minorsOf", "(I)I"⟩, prog_2_method_30_code, 4, some .int, 1, 694, 692, 693, 52), (⟨"MinorTables$Grid", "isOfOrder", "(III)Z"⟩, prog_2_method_31_code, 4, some .boolean, 1, 530, 528, 529, 52), (⟨"MinorTables$Rows", "<init>", "(I)V"⟩, prog_3_method_1_code, 2, none, 2, 105, 104, 0, 53)]
def sgg2 : List (MethodName × ByteArray × Nat × Option FieldType × Nat × Nat × Nat × Nat × Nat) := [(⟨"MinorTables$Rows", "held", "()I"⟩, prog_3_method_2_code, 1, some .int, 1, 337, 335, 336, 53), (⟨"MinorTables$Rows", "isFull", "()Z"⟩, prog_3_method_3_code, 1, some .boolean, 1, 324, 322, 323, 53), (⟨"MinorTables$Rows", "has", "(I)Z"⟩, prog_3_method_4_code, 2, some .boolean, 1, 353, 351, 352, 53), (⟨"MinorTables$Rows", "empty", "()V"⟩, prog_3_method_5_code, 1, none, 1, 252, 250, 251, 53), (⟨"MinorTables$Rows", "add", "(III)I"⟩, prog_3_method_6_code, 5, some .int, 1, 328, 326, 327, 53), (⟨"MinorTables$Rows", "cell", "(II)I"⟩, prog_3_method_7_code, 4, some .int, 1, 349, 347, 348, 53), (⟨"MinorTables$Rows", "holds", "(II)Z"⟩, prog_3_method_8_code, 4, some .boolean, 1, 556, 554, 555, 53), (⟨"MinorTables$Rows", "copyFrom", "(LMinorTables$Rows;)V"⟩, prog_3_method_9_code, 4, none, 1, 770, 768, 769, 53), (⟨"MinorTables$Scene", "<init>", "()V"⟩, prog_4_method_1_code, 1, none, 2, 74, 73, 0, 51), (⟨"MinorTables$Scene", "copyFrom", "(LMinorTables$Scene;)V"⟩, prog_4_method_2_code, 3, none, 1, 765, 763, 764, 51), (⟨"MinorTables$Scene", "isInVector", "(I)Z"⟩, prog_4_method_3_code, 2, some .boolean, 1, 383, 381, 382, 51), (⟨"MinorTables$Scene", "vectorAt", "(I)J"⟩, prog_4_method_4_code, 2, some .long, 1, 388, 386, 387, 51), (⟨"MinorTables$Scene", "putInVector", "(IJ)V"⟩, prog_4_method_5_code, 4, none, 1, 393, 391, 392, 51), (⟨"MinorTables$Straights", "<init>", "()V"⟩, prog_5_method_1_code, 1, none, 2, 156, 155, 0, 55), (⟨"MinorTables$Straights", "empty", "()V"⟩, prog_5_method_2_code, 1, none, 1, 626, 624, 625, 55), (⟨"MinorTables$Straights", "add", "(JJ)V"⟩, prog_5_method_3_code, 5, none, 1, 635, 633, 634, 55)]
def sgg3 : List (MethodName × ByteArray × Nat × Option FieldType × Nat × Nat × Nat × Nat × Nat) := [(⟨"MinorTables$Straights", "valueBy", "(II)J"⟩, prog_5_method_4_code, 4, some .long, 1, 643, 642, 22, 55), (⟨"MinorTables$Straights", "areAllAbove", "(I)Z"⟩, prog_5_method_5_code, 3, some .boolean, 1, 639, 637, 638, 55), (⟨"MinorTables$Straights", "areAllNought", "(I)Z"⟩, prog_5_method_6_code, 3, some .boolean, 1, 685, 683, 684, 55), (⟨"MinorTables$Tape", "<init>", "()V"⟩, prog_6_method_1_code, 1, none, 2, 197, 196, 0, 57), (⟨"MinorTables$Tape", "sort", "()I"⟩, prog_6_method_2_code, 1, some .int, 1, 745, 743, 744, 57), (⟨"MinorTables$Tape", "become", "(II)V"⟩, prog_6_method_3_code, 3, none, 1, 792, 790, 791, 57), (⟨"MinorTables$Tape", "hasPlaces", "(II)Z"⟩, prog_6_method_4_code, 3, some .boolean, 1, 753, 751, 752, 57), (⟨"MinorTables$Tape", "at", "(I)J"⟩, prog_6_method_5_code, 2, some .long, 1, 757, 755, 756, 57), (⟨"MinorTables$Tape", "put", "(IJ)V"⟩, prog_6_method_6_code, 4, none, 1, 801, 799, 800, 57), (⟨"MinorTables$Tape", "cut", "(J)J"⟩, prog_6_method_7_code, 3, some .long, 1, 805, 804, 31, 57), (⟨"MinorTables$Tape", "copyItems", "(ILMinorTables$Tape;II)V"⟩, prog_6_method_8_code, 6, none, 1, 817, 815, 816, 57), (⟨"MinorTables$Text", "<init>", "()V"⟩, prog_7_method_1_code, 1, none, 2, 172, 171, 0, 56), (⟨"MinorTables$Text", "held", "()I"⟩, prog_7_method_2_code, 1, some .int, 1, 784, 782, 783, 56), (⟨"MinorTables$Text", "isFull", "()Z"⟩, prog_7_method_3_code, 1, some .boolean, 1, 401, 399, 400, 56), (⟨"MinorTables$Text", "empty", "()V"⟩, prog_7_method_4_code, 1, none, 1, 449, 447, 448, 56), (⟨"MinorTables$Text", "add", "(I)I"⟩, prog_7_method_5_code, 2, some .int, 1, 405, 403, 404, 56)]
def sgg4 : List (MethodName × ByteArray × Nat × Option FieldType × Nat × Nat × Nat × Nat × Nat) := [(⟨"MinorTables$Text", "clauses", "()LMinorTables$Rows;"⟩, prog_7_method_6_code, 1, some (.object "MinorTables$Rows"), 1, 453, 451, 452, 56), (⟨"MinorTables$Text", "findFault", "()I"⟩, prog_7_method_7_code, 2, some .int, 1, 413, 411, 412, 56), (⟨"MinorTables$Text", "signHere", "()I"⟩, prog_7_method_8_code, 1, some .int, 1, 422, 421, 6, 56), (⟨"MinorTables$Text", "isDigitHere", "()Z"⟩, prog_7_method_9_code, 1, some .boolean, 1, 429, 428, 7, 56), (⟨"MinorTables$Text", "pass", "(I)Z"⟩, prog_7_method_10_code, 2, some .boolean, 1, 444, 443, 10, 56), (⟨"MinorTables$Text", "digitsBehind", "(I)I"⟩, prog_7_method_11_code, 1, some .int, 0, 425, 424, 0, 56), (⟨"MinorTables$Text", "hasNumber", "(I)Z"⟩, prog_7_method_12_code, 1, some .boolean, 0, 436, 435, 0, 56), (⟨"MinorTables$Text", "passClause", "()Z"⟩, prog_7_method_13_code, 5, some .boolean, 1, 418, 417, 5, 56), (⟨"MinorTables$Text", "passDigit", "()I"⟩, prog_7_method_14_code, 2, some .int, 1, 433, 432, 8, 56), (⟨"MinorTables$Text", "passNumber", "()Z"⟩, prog_7_method_15_code, 2, some .boolean, 1, 440, 439, 9, 56), (⟨"MinorTables", "<init>", "()V"⟩, prog_1_method_1_code, 2, none, 2, 66, 65, 0, 50), (⟨"MinorTables", "size", "(I)I"⟩, prog_1_method_2_code, 3, some .int, 1, 243, 241, 242, 50), (⟨"MinorTables", "set", "(II)I"⟩, prog_1_method_3_code, 4, some .int, 1, 259, 257, 258, 50), (⟨"MinorTables", "turn", "()I"⟩, prog_1_method_4_code, 1, some .int, 1, 292, 290, 291, 50), (⟨"MinorTables", "flip", "()I"⟩, prog_1_method_5_code, 1, some .int, 1, 304, 302, 303, 50), (⟨"MinorTables", "chip", "(III)I"⟩, prog_1_method_6_code, 4, some .int, 1, 312, 310, 311, 50)]
def sgg5 : List (MethodName × ByteArray × Nat × Option FieldType × Nat × Nat × Nat × Nat × Nat) := [(⟨"MinorTables", "clear", "()I"⟩, prog_1_method_7_code, 2, some .int, 1, 333, 331, 332, 50), (⟨"MinorTables", "take", "()I"⟩, prog_1_method_8_code, 1, some .int, 1, 341, 339, 340, 50), (⟨"MinorTables", "vector", "(II)I"⟩, prog_1_method_9_code, 4, some .int, 1, 379, 377, 378, 50), (⟨"MinorTables", "feed", "(I)I"⟩, prog_1_method_10_code, 2, some .int, 1, 397, 395, 396, 50), (⟨"MinorTables", "read", "()I"⟩, prog_1_method_11_code, 6, some .int, 1, 409, 407, 408, 50), (⟨"MinorTables", "of", "(II)I"⟩, prog_1_method_12_code, 3, some .int, 1, 468, 466, 467, 50), (⟨"MinorTables", "told", "(I)I"⟩, prog_1_method_13_code, 2, some .int, 1, 472, 470, 471, 50), (⟨"MinorTables", "chipOf", "(II)I"⟩, prog_1_method_14_code, 3, some .int, 1, 542, 540, 541, 50), (⟨"MinorTables", "minor", "(II)J"⟩, prog_1_method_15_code, 3, some .long, 1, 547, 545, 546, 50), (⟨"MinorTables", "noted", "(I)I"⟩, prog_1_method_16_code, 2, some .int, 1, 562, 560, 561, 50), (⟨"MinorTables", "first", "(I)J"⟩, prog_1_method_17_code, 2, some .long, 1, 566, 564, 565, 50), (⟨"MinorTables", "factor", "(II)J"⟩, prog_1_method_18_code, 5, some .long, 1, 573, 571, 572, 50), (⟨"MinorTables", "sum", "(I)J"⟩, prog_1_method_19_code, 5, some .long, 1, 599, 597, 598, 50), (⟨"MinorTables", "unlike", "(I)I"⟩, prog_1_method_20_code, 5, some .int, 1, 605, 603, 604, 50), (⟨"MinorTables", "may", "(II)I"⟩, prog_1_method_21_code, 7, some .int, 1, 618, 616, 617, 50), (⟨"MinorTables", "product", "(I)J"⟩, prog_1_method_22_code, 2, some .long, 1, 647, 645, 646, 50)]
def sgg6 : List (MethodName × ByteArray × Nat × Option FieldType × Nat × Nat × Nat × Nat × Nat) := [(⟨"MinorTables", "productMinor", "(II)J"⟩, prog_1_method_23_code, 3, some .long, 1, 651, 649, 650, 50), (⟨"MinorTables", "paths", "(II)J"⟩, prog_1_method_24_code, 4, some .long, 1, 655, 653, 654, 50), (⟨"MinorTables", "see", "(III)I"⟩, prog_1_method_25_code, 4, some .int, 1, 671, 669, 670, 50), (⟨"MinorTables", "fits", "(II)I"⟩, prog_1_method_26_code, 6, some .int, 1, 677, 675, 676, 50), (⟨"MinorTables", "odds", "(II)J"⟩, prog_1_method_27_code, 3, some .long, 1, 689, 687, 688, 50), (⟨"MinorTables", "mean", "(I)J"⟩, prog_1_method_28_code, 3, some .long, 1, 698, 696, 697, 50), (⟨"MinorTables", "event", "(II)I"⟩, prog_1_method_29_code, 3, some .int, 1, 706, 704, 705, 50), (⟨"MinorTables", "after", "(I)J"⟩, prog_1_method_30_code, 3, some .long, 1, 714, 712, 713, 50), (⟨"MinorTables", "book", "(II)I"⟩, prog_1_method_31_code, 3, some .int, 1, 729, 727, 728, 50), (⟨"MinorTables", "looked", "()I"⟩, prog_1_method_32_code, 3, some .int, 1, 733, 731, 732, 50), (⟨"MinorTables", "judge", "(II)I"⟩, prog_1_method_33_code, 4, some .int, 1, 737, 735, 736, 50), (⟨"MinorTables", "image", "()I"⟩, prog_1_method_34_code, 1, some .int, 1, 761, 759, 760, 50), (⟨"MinorTables", "undo", "()I"⟩, prog_1_method_35_code, 1, some .int, 1, 776, 774, 775, 50), (⟨"MinorTables", "count", "(I)I"⟩, prog_1_method_36_code, 2, some .int, 1, 780, 778, 779, 50), (⟨"MinorTables", "tape", "(III)I"⟩, prog_1_method_37_code, 5, some .int, 1, 788, 786, 787, 50), (⟨"MinorTables", "item", "(IIJ)I"⟩, prog_1_method_38_code, 6, some .int, 1, 797, 795, 796, 50)]
def sgg7 : List (MethodName × ByteArray × Nat × Option FieldType × Nat × Nat × Nat × Nat × Nat) := [(⟨"MinorTables", "peek", "(II)J"⟩, prog_1_method_39_code, 4, some .long, 1, 809, 807, 808, 50), (⟨"MinorTables", "shift", "(IIIII)I"⟩, prog_1_method_40_code, 8, some .int, 1, 813, 811, 812, 50), (⟨"MinorTables", "raised", "(J)I"⟩, prog_1_method_41_code, 2, some .int, 0, 284, 283, 0, 50), (⟨"MinorTables", "rowOf", "(I)I"⟩, prog_1_method_42_code, 1, some .int, 0, 266, 265, 0, 50), (⟨"MinorTables", "columnOf", "(I)I"⟩, prog_1_method_43_code, 1, some .int, 0, 273, 272, 0, 50), (⟨"MinorTables", "isNoughtOrOne", "(I)Z"⟩, prog_1_method_44_code, 1, some .boolean, 0, 576, 575, 0, 50), (⟨"MinorTables", "isOrder", "(I)Z"⟩, prog_1_method_45_code, 2, some .boolean, 1, 609, 608, 18, 50), (⟨"MinorTables", "isLineWithOneBehind", "(I)Z"⟩, prog_1_method_46_code, 2, some .boolean, 1, 320, 319, 3, 50), (⟨"MinorTables", "tapeAt", "(I)LMinorTables$Tape;"⟩, prog_1_method_47_code, 2, some (.object "MinorTables$Tape"), 1, 741, 740, 29, 50), (⟨"MinorTables", "inLowestTerms", "(JJI)J"⟩, prog_1_method_48_code, 7, some .long, 0, 583, 582, 0, 50), (⟨"MinorTables", "commonDivisor", "(JJ)J"⟩, prog_1_method_49_code, 11, some .long, 0, 586, 585, 0, 50), (⟨"MinorTables", "changes", "([J)I"⟩, prog_1_method_50_code, 5, some .int, 0, 533, 532, 0, 50), (⟨"MinorTables", "changesOfTableTimesVector", "()I"⟩, prog_1_method_51_code, 5, some .int, 1, 537, 536, 15, 50), (⟨"MinorTables", "isChipPlace", "(II)Z"⟩, prog_1_method_52_code, 3, some .boolean, 1, 316, 315, 2, 50), (⟨"MinorTables", "lineAhead", "(II)I"⟩, prog_1_method_53_code, 2, some .int, 0, 356, 355, 0, 50), (⟨"MinorTables", "lineBehind", "(II)I"⟩, prog_1_method_54_code, 2, some .int, 0, 359, 358, 0, 50)]
def sgg8 : List (MethodName × ByteArray × Nat × Option FieldType × Nat × Nat × Nat × Nat × Nat) := [(⟨"MinorTables", "multiplyChips", "()V"⟩, prog_1_method_55_code, 5, none, 1, 345, 344, 4, 50), (⟨"MinorTables", "waysTo", "(I)J"⟩, prog_1_method_56_code, 2, some .long, 1, 667, 666, 25, 50), (⟨"MinorTables", "putWays", "(IJ)V"⟩, prog_1_method_57_code, 4, none, 1, 659, 658, 23, 50), (⟨"MinorTables", "walkThrough", "(III)V"⟩, prog_1_method_58_code, 8, none, 1, 663, 662, 24, 50), (⟨"MinorTables", "edgeMinor", "(IIZ)J"⟩, prog_1_method_59_code, 6, some .long, 1, 580, 579, 16, 50), (⟨"MinorTables", "factorBesideTheMiddle", "(IIZI)J"⟩, prog_1_method_60_code, 9, some .long, 1, 595, 594, 17, 50), (⟨"MinorTables", "keepUnlike", "(IJ)I"⟩, prog_1_method_61_code, 5, some .int, 1, 614, 613, 19, 50), (⟨"MinorTables", "drawFirstMinors", "(I)V"⟩, prog_1_method_62_code, 7, none, 1, 622, 621, 20, 50), (⟨"MinorTables", "drawSeen", "(I)Z"⟩, prog_1_method_63_code, 7, some .boolean, 1, 681, 680, 26, 50), (⟨"MinorTables", "minorWith", "(IIII)J"⟩, prog_1_method_64_code, 9, some .long, 1, 631, 630, 21, 50), (⟨"MinorTables", "doClause", "(III)I"⟩, prog_1_method_65_code, 4, some .int, 1, 457, 456, 11, 50), (⟨"MinorTables", "isEventPlace", "(II)Z"⟩, prog_1_method_66_code, 3, some .boolean, 1, 710, 709, 27, 50), (⟨"MinorTables", "happen", "(II)V"⟩, prog_1_method_67_code, 3, none, 1, 718, 717, 28, 50), (⟨"MinorTables", "judgeNumbers", "(LMinorTables$Tape;I)I"⟩, prog_1_method_68_code, 7, some .int, 1, 749, 748, 30, 50), (⟨"MinorTablesModel", "in", "(JJJ)Z"⟩, prog_9_method_1_code, 6, some .boolean, 0, 991, 990, 0, 58), (⟨"MinorTablesModel", "bits", "(I)I"⟩, prog_9_method_2_code, 3, some .int, 0, 1036, 1035, 0, 58)]
def sgg9 : List (MethodName × ByteArray × Nat × Option FieldType × Nat × Nat × Nat × Nat × Nat) := [(⟨"MinorTablesModel", "common", "(JJ)J"⟩, prog_9_method_3_code, 10, some .long, 0, 1095, 1094, 0, 58), (⟨"MinorTablesModel", "part", "(JJI)J"⟩, prog_9_method_4_code, 7, some .long, 0, 1092, 1091, 0, 58), (⟨"MinorTablesModel", "<init>", "()V"⟩, prog_9_method_5_code, 1, none, 2, 826, 825, 0, 58), (⟨"MinorTablesModel", "begins", "()V"⟩, prog_9_method_6_code, 2, none, 1, 831, 830, 32, 58), (⟨"MinorTablesModel", "isSpot", "(I)Z"⟩, prog_9_method_7_code, 2, some .boolean, 1, 999, 998, 33, 58), (⟨"MinorTablesModel", "cell", "(I)I"⟩, prog_9_method_8_code, 1, some .int, 0, 1004, 1003, 0, 58), (⟨"MinorTablesModel", "size", "(I)I"⟩, prog_9_method_9_code, 3, some .int, 1, 986, 984, 985, 58), (⟨"MinorTablesModel", "set", "(II)I"⟩, prog_9_method_10_code, 4, some .int, 1, 995, 993, 994, 58), (⟨"MinorTablesModel", "turns", "([I)V"⟩, prog_9_method_11_code, 4, none, 0, 1011, 1010, 0, 58), (⟨"MinorTablesModel", "turn", "()I"⟩, prog_9_method_12_code, 1, some .int, 1, 1008, 1006, 1007, 58), (⟨"MinorTablesModel", "flip", "()I"⟩, prog_9_method_13_code, 3, some .int, 1, 1015, 1013, 1014, 58), (⟨"MinorTablesModel", "vector", "(II)I"⟩, prog_9_method_14_code, 4, some .int, 1, 1019, 1017, 1018, 58), (⟨"MinorTablesModel", "of", "(II)I"⟩, prog_9_method_15_code, 3, some .int, 1, 1025, 1023, 1024, 58), (⟨"MinorTablesModel", "isMinor", "(II)Z"⟩, prog_9_method_16_code, 3, some .boolean, 1, 1033, 1032, 34, 58), (⟨"MinorTablesModel", "minorOf", "([III)J"⟩, prog_9_method_17_code, 9, some .long, 0, 1040, 1039, 0, 58), (⟨"MinorTablesModel", "minor", "(II)J"⟩, prog_9_method_18_code, 6, some .long, 1, 1029, 1027, 1028, 58)]
def sgg10 : List (MethodName × ByteArray × Nat × Option FieldType × Nat × Nat × Nat × Nat × Nat) := [(⟨"MinorTablesModel", "noted", "(I)I"⟩, prog_9_method_19_code, 2, some .int, 1, 1044, 1042, 1043, 58), (⟨"MinorTablesModel", "run", "(II)I"⟩, prog_9_method_20_code, 2, some .int, 0, 1054, 1053, 0, 58), (⟨"MinorTablesModel", "firstOf", "([III)J"⟩, prog_9_method_21_code, 4, some .long, 0, 1051, 1050, 0, 58), (⟨"MinorTablesModel", "first", "(I)J"⟩, prog_9_method_22_code, 2, some .long, 1, 1048, 1046, 1047, 58), (⟨"MinorTablesModel", "amiss", "([I)I"⟩, prog_9_method_23_code, 4, some .int, 1, 1066, 1065, 36, 58), (⟨"MinorTablesModel", "aboveOf", "([IIZ)I"⟩, prog_9_method_24_code, 7, some .int, 1, 1070, 1069, 37, 58), (⟨"MinorTablesModel", "isPositive", "([I)Z"⟩, prog_9_method_25_code, 4, some .boolean, 1, 1062, 1061, 35, 58), (⟨"MinorTablesModel", "changes", "()I"⟩, prog_9_method_26_code, 5, some .int, 1, 1078, 1077, 39, 58), (⟨"MinorTablesModel", "changesOf", "(Z)I"⟩, prog_9_method_27_code, 4, some .int, 1, 1074, 1073, 38, 58), (⟨"MinorTablesModel", "told", "(I)I"⟩, prog_9_method_28_code, 2, some .int, 1, 1058, 1056, 1057, 58), (⟨"MinorTablesModel", "lies", "([IIII)J"⟩, prog_9_method_29_code, 4, some .long, 0, 1089, 1088, 0, 58), (⟨"MinorTablesModel", "factorOf", "([IIII)J"⟩, prog_9_method_30_code, 9, some .long, 1, 1086, 1085, 40, 58), (⟨"MinorTablesModel", "factor", "(II)J"⟩, prog_9_method_31_code, 6, some .long, 1, 1082, 1080, 1081, 58), (⟨"MinorTablesModel", "sum", "(I)J"⟩, prog_9_method_32_code, 5, some .long, 1, 1099, 1097, 1098, 58), (⟨"MinorTablesModel", "unlike", "(I)I"⟩, prog_9_method_33_code, 9, some .int, 1, 1103, 1101, 1102, 58), (⟨"MinorTablesModel", "may", "(II)I"⟩, prog_9_method_34_code, 8, some .int, 1, 1107, 1105, 1106, 58)]
def sgg11 : List (MethodName × ByteArray × Nat × Option FieldType × Nat × Nat × Nat × Nat × Nat) := [(⟨"MinorTablesModel", "chip", "(III)I"⟩, prog_9_method_35_code, 4, some .int, 1, 1111, 1109, 1110, 58), (⟨"MinorTablesModel", "clear", "()I"⟩, prog_9_method_36_code, 2, some .int, 1, 1115, 1113, 1114, 58), (⟨"MinorTablesModel", "chipOf", "(II)I"⟩, prog_9_method_37_code, 3, some .int, 1, 1119, 1117, 1118, 58), (⟨"MinorTablesModel", "waysTo", "(II)J"⟩, prog_9_method_38_code, 7, some .long, 1, 1127, 1126, 41, 58), (⟨"MinorTablesModel", "product", "(I)J"⟩, prog_9_method_39_code, 2, some .long, 1, 1123, 1121, 1122, 58), (⟨"MinorTablesModel", "productMinor", "(II)J"⟩, prog_9_method_40_code, 3, some .long, 1, 1131, 1129, 1130, 58), (⟨"MinorTablesModel", "paths", "(II)J"⟩, prog_9_method_41_code, 3, some .long, 1, 1135, 1133, 1134, 58), (⟨"MinorTablesModel", "take", "()I"⟩, prog_9_method_42_code, 3, some .int, 1, 1139, 1137, 1138, 58), (⟨"MinorTablesModel", "feed", "(I)I"⟩, prog_9_method_43_code, 2, some .int, 1, 1143, 1141, 1142, 58), (⟨"MinorTablesModel", "here", "()I"⟩, prog_9_method_44_code, 1, some .int, 1, 1156, 1155, 43, 58), (⟨"MinorTablesModel", "digit", "()I"⟩, prog_9_method_45_code, 2, some .int, 1, 1160, 1159, 44, 58), (⟨"MinorTablesModel", "number", "()I"⟩, prog_9_method_46_code, 3, some .int, 1, 1164, 1163, 45, 58), (⟨"MinorTablesModel", "clause", "()V"⟩, prog_9_method_47_code, 2, none, 1, 1152, 1151, 42, 58), (⟨"MinorTablesModel", "isDone", "(I)Z"⟩, prog_9_method_48_code, 2, some .boolean, 1, 1170, 1169, 46, 58), (⟨"MinorTablesModel", "read", "()I"⟩, prog_9_method_49_code, 3, some .int, 1, 1148, 1146, 1147, 58), (⟨"MinorTablesModel", "see", "(III)I"⟩, prog_9_method_50_code, 4, some .int, 1, 1181, 1179, 1180, 58)]
def sgg12 : List (MethodName × ByteArray × Nat × Option FieldType × Nat × Nat × Nat × Nat × Nat) := [(⟨"MinorTablesModel", "isSeen", "()Z"⟩, prog_9_method_51_code, 2, some .boolean, 1, 1191, 1190, 47, 58), (⟨"MinorTablesModel", "fits", "(II)I"⟩, prog_9_method_52_code, 7, some .int, 1, 1187, 1185, 1186, 58), (⟨"MinorTablesModel", "odds", "(II)J"⟩, prog_9_method_53_code, 3, some .long, 1, 1195, 1193, 1194, 58), (⟨"MinorTablesModel", "mean", "(I)J"⟩, prog_9_method_54_code, 6, some .long, 1, 1199, 1197, 1198, 58), (⟨"MinorTablesModel", "event", "(II)I"⟩, prog_9_method_55_code, 3, some .int, 1, 1203, 1201, 1202, 58), (⟨"MinorTablesModel", "happens", "(II)V"⟩, prog_9_method_56_code, 5, none, 1, 1212, 1211, 48, 58), (⟨"MinorTablesModel", "after", "(I)J"⟩, prog_9_method_57_code, 3, some .long, 1, 1208, 1206, 1207, 58), (⟨"MinorTablesModel", "book", "(II)I"⟩, prog_9_method_58_code, 3, some .int, 1, 1216, 1214, 1215, 58), (⟨"MinorTablesModel", "looked", "()I"⟩, prog_9_method_59_code, 2, some .int, 1, 1220, 1218, 1219, 58), (⟨"MinorTablesModel", "isTape", "(I)Z"⟩, prog_9_method_60_code, 1, some .boolean, 0, 1227, 1226, 0, 58), (⟨"MinorTablesModel", "tape", "(III)I"⟩, prog_9_method_61_code, 5, some .int, 1, 1224, 1222, 1223, 58), (⟨"MinorTablesModel", "kept", "(IJ)J"⟩, prog_9_method_62_code, 3, some .long, 0, 1236, 1235, 0, 58), (⟨"MinorTablesModel", "item", "(IIJ)I"⟩, prog_9_method_63_code, 5, some .int, 1, 1233, 1231, 1232, 58), (⟨"MinorTablesModel", "peek", "(II)J"⟩, prog_9_method_64_code, 3, some .long, 1, 1240, 1238, 1239, 58), (⟨"MinorTablesModel", "shift", "(IIIII)I"⟩, prog_9_method_65_code, 7, some .int, 1, 1244, 1242, 1243, 58), (⟨"MinorTablesModel", "judge", "(II)I"⟩, prog_9_method_66_code, 4, some .int, 1, 1248, 1246, 1247, 58)]
def sgg13 : List (MethodName × ByteArray × Nat × Option FieldType × Nat × Nat × Nat × Nat × Nat) := [(⟨"MinorTablesModel", "image", "()I"⟩, prog_9_method_67_code, 2, some .int, 1, 1252, 1250, 1251, 58), (⟨"MinorTablesModel", "undo", "()I"⟩, prog_9_method_68_code, 2, some .int, 1, 1256, 1254, 1255, 58), (⟨"MinorTablesModel", "count", "(I)I"⟩, prog_9_method_69_code, 2, some .int, 1, 1260, 1258, 1259, 58), (⟨"java/lang/Integer", "bitCount", "(I)I"⟩, prog_10_method_49_code, 1, some .int, 0, 498, 497, 0, 60), (⟨"java/util/Arrays", "fill", "([JJ)V"⟩, prog_13_method_101_code, 5, none, 0, 255, 254, 0, 59), (⟨"MinorTablesLaw", "law", "([I)Z"⟩, code, 4, some .boolean, 3, 0, 0, 0, 0)]
def sgall : List (List (MethodName × ByteArray × Nat × Option FieldType × Nat × Nat × Nat × Nat × Nat)) := [sgg0, sgg1, sgg2, sgg3, sgg4, sgg5, sgg6, sgg7, sgg8, sgg9, sgg10, sgg11, sgg12, sgg13]
def sg (u : Nat) : Option (MethodName × ByteArray × Nat × Option FieldType × Nat × Nat × Nat × Nat × Nat) := match nth sgall (u / 16) with
  | some g => nth g (u % 16)
  | none => none
def lw_at (w : Cond) (i : Nat) : Bool := decide (lw_tbl[i]? = some w) && keepW w
theorem lw_at_mem {w : Cond} {i : Nat} (h : lw_at w i = true) : w ∈ zt := by
  unfold lw_at at h
  rw [Bool.and_eq_true, decide_eq_true_eq] at h
  exact List.mem_filter.mpr ⟨List.mem_of_getElem? h.1, h.2⟩
def frl (o i : Nat) : List (Nat × Nat × Nat × Nat × Nat) → Option (Nat × Nat)
  | [] => none
  | (a, b, c, k, _) :: l => bif Nat.beq a o && Nat.beq b i then some (c, k) else frl o i l
def fT (c k : Nat) : String × String × String × Bool := match nth vcl c with
  | some (_, T, _) => T k
  | none => ("", "", "", false)
theorem frt_ok : frt.all (fun e => lw_at (.fieldLink (cn e.1) e.2.1 (fT e.2.2.1 e.2.2.2.1).1 (fT e.2.2.1 e.2.2.2.1).2.1 (fT e.2.2.1 e.2.2.2.1).2.2.1) e.2.2.2.2 && (Nat.blt e.2.2.1 8 && Nat.blt e.2.2.2.1 (nfs e.2.2.1))) = true := by decide +kernel
def mrl (o i : Nat) : List (Nat × Nat × Nat × Bool × Nat) → Option (Nat × Bool)
  | [] => none
  | (a, b, u, n, _) :: l => bif Nat.beq a o && Nat.beq b i then some (u, n) else mrl o i l
def yof (u : Nat) : MethodName := match sg u with
  | some q => q.1
  | none => ⟨"", "", ""⟩
theorem mrt_ok : mrt.all (fun e => bif e.2.2.2.1 then lw_at (.methodLinkNest (cn e.1) e.2.1 (yof e.2.2.1) "MinorTables") e.2.2.2.2 else lw_at (.methodLink (cn e.1) e.2.1 (yof e.2.2.1)) e.2.2.2.2) = true := by decide +kernel
def nrl (o i : Nat) : List (Nat × Nat × Nat × Nat) → Option Nat
  | [] => none
  | (a, b, w, _) :: l => bif Nat.beq a o && Nat.beq b i then some w else nrl o i l
def natY (w : Nat) : MethodName := match w with
  | 990 => Lib.Math.max.name
  | 991 => Lib.Math.min.name
  | 992 => Lib.MathLoose.max_long.x
  | 993 => Lib.MathLoose.min_long.x
  | 994 => Lib.MathLoose.abs_long.x
  | 998 => Lib.objectInit
  | _ => arraycopyName
theorem nrt_ok : nrt.all (fun e => lw_at (.methodLink (cn e.1) e.2.1 (natY e.2.2.1)) e.2.2.2) = true := by decide +kernel
theorem nat_st : ([990, 991, 992, 993, 994, 999].all fun w => decide (Cond.static (natY w) ∈ zt)) = true := by decide +kernel
theorem nat_in : (decide (Cond.initialized "java/lang/Math" ∈ zt) && decide (Cond.initialized "java/lang/System" ∈ zt) && decide (Cond.native arraycopyName ∈ zt) && decide (Cond.instanceMethod Lib.objectInit ∈ zt)) = true := by decide +kernel
theorem ncw990 : Cond.code Lib.Math.max.name Lib.Math.max.code 2 (some .int) ∈ zt := tb_tables_1_1 (List.mem_of_getElem? (i := 60) (by decide +kernel)) rfl
theorem ncw991 : Cond.code Lib.Math.min.name Lib.Math.min.code 2 (some .int) ∈ zt := tb_tables_1_2 (List.mem_of_getElem? (i := 198) (by decide +kernel)) rfl
theorem ncw992 : Cond.code Lib.MathLoose.max_long.x Lib.MathLoose.max_long.code 4 (some .long) ∈ zt := tb_tables_1_2 (List.mem_of_getElem? (i := 81) (by decide +kernel)) rfl
theorem ncw993 : Cond.code Lib.MathLoose.min_long.x Lib.MathLoose.min_long.code 4 (some .long) ∈ zt := tb_tables_1_3 (List.mem_of_getElem? (i := 192) (by decide +kernel)) rfl
theorem ncw994 : Cond.code Lib.MathLoose.abs_long.x Lib.MathLoose.abs_long.code 2 (some .long) ∈ zt := tb_tables_1_3 (List.mem_of_getElem? (i := 60) (by decide +kernel)) rfl
theorem ncw998 : Cond.code Lib.objectInit ⟨#[0xb1]⟩ 1 (none) ∈ zt := tb_tables_1_1 (List.mem_of_getElem? (i := 20) (by decide +kernel)) rfl
def argN (y : MethodName) : Option Nat := (parseMethodDescriptor y.desc).map (fun d => d.parameters.length)
def sgOk (u : Nat) : Bool := match sg u, mi u with
  | some (y, b, m, r, kd, pc, pi, ps, pn), some (n, m', tg) => Nat.beq m m' && Nat.ble m 12 && decide (y.cls ≠ "java/lang/invoke/MethodHandle") && decide (y.cls ≠ "java/lang/invoke/VarHandle") && plainName y.cls &&
      (match kd with
      | 0 => lw_at (.initialized y.cls) pn && lw_at (.static y) pi && decide (argN y = some n) && decide (tg = [])
      | 1 => lw_at (.initialized y.cls) pn && lw_at (.instanceMethod y) pi && lw_at (.selects y.cls y y) ps && decide (argN y = some (n - 1)) && Nat.blt 0 n && (match tg with
        | [c] => Nat.blt c 8 && decide (y.cls = cn c)
        | _ => false)
      | 2 => lw_at (.initialized y.cls) pn && lw_at (.instanceMethod y) pi && decide (y.name = "<init>") && decide (r = none) && decide (argN y = some (n - 1)) && Nat.blt 0 n && (match tg with
        | [c] => Nat.blt c 8 && decide (y.cls = cn c)
        | _ => false)
      | _ => true)
  | _, _ => false
theorem sg_ok0 : (List.range 16).all (fun i => sgOk (0 + i)) = true := by decide +kernel
theorem sg_ok1 : (List.range 16).all (fun i => sgOk (16 + i)) = true := by decide +kernel
theorem sg_ok2 : (List.range 16).all (fun i => sgOk (32 + i)) = true := by decide +kernel
theorem sg_ok3 : (List.range 16).all (fun i => sgOk (48 + i)) = true := by decide +kernel
theorem sg_ok4 : (List.range 16).all (fun i => sgOk (64 + i)) = true := by decide +kernel
theorem sg_ok5 : (List.range 16).all (fun i => sgOk (80 + i)) = true := by decide +kernel
theorem sg_ok6 : (List.range 16).all (fun i => sgOk (96 + i)) = true := by decide +kernel
theorem sg_ok7 : (List.range 16).all (fun i => sgOk (112 + i)) = true := by decide +kernel
theorem sg_ok8 : (List.range 16).all (fun i => sgOk (128 + i)) = true := by decide +kernel
theorem sg_ok9 : (List.range 16).all (fun i => sgOk (144 + i)) = true := by decide +kernel
theorem sg_ok10 : (List.range 16).all (fun i => sgOk (160 + i)) = true := by decide +kernel
theorem sg_ok11 : (List.range 16).all (fun i => sgOk (176 + i)) = true := by decide +kernel
theorem sg_ok12 : (List.range 16).all (fun i => sgOk (192 + i)) = true := by decide +kernel
theorem sg_ok13 : (List.range 6).all (fun i => sgOk (208 + i)) = true := by decide +kernel
theorem cw0 : Cond.code ⟨"MinorTables$Grid", "<init>", "()V"⟩ prog_2_method_1_code 1 (none) ∈ zt := tb_tables_1_1 (List.mem_of_getElem? (i := 31) rfl) rfl
theorem cw1 : Cond.code ⟨"MinorTables$Grid", "lines", "()I"⟩ prog_2_method_2_code 1 (some .int) ∈ zt := tb_tables_1_1 (List.mem_of_getElem? (i := 198) rfl) rfl
theorem cw2 : Cond.code ⟨"MinorTables$Grid", "sets", "()I"⟩ prog_2_method_3_code 1 (some .int) ∈ zt := tb_tables_1_2 (List.mem_of_getElem? (i := 237) rfl) rfl
theorem cw3 : Cond.code ⟨"MinorTables$Grid", "becomeUnit", "(I)V"⟩ prog_2_method_4_code 4 (none) ∈ zt := tb_tables_1_1 (List.mem_of_getElem? (i := 36) rfl) rfl
theorem cw4 : Cond.code ⟨"MinorTables$Grid", "copyFrom", "(LMinorTables$Grid;)V"⟩ prog_2_method_5_code 4 (none) ∈ zt := tb_tables_1_2 (List.mem_of_getElem? (i := 86) rfl) rfl
theorem cw5 : Cond.code ⟨"MinorTables$Grid", "isLine", "(I)Z"⟩ prog_2_method_6_code 2 (some .boolean) ∈ zt := tb_tables_1_1 (List.mem_of_getElem? (i := 221) rfl) rfl
theorem cw6 : Cond.code ⟨"MinorTables$Grid", "at", "(II)J"⟩ prog_2_method_7_code 5 (some .long) ∈ zt := tb_tables_1_1 (List.mem_of_getElem? (i := 232) rfl) rfl
theorem cw7 : Cond.code ⟨"MinorTables$Grid", "put", "(IIJ)V"⟩ prog_2_method_8_code 7 (none) ∈ zt := tb_tables_1_1 (List.mem_of_getElem? (i := 40) rfl) rfl
theorem cw8 : Cond.code ⟨"MinorTables$Grid", "hasSpot", "(I)Z"⟩ prog_2_method_9_code 2 (some .boolean) ∈ zt := tb_tables_1_1 (List.mem_of_getElem? (i := 214) rfl) rfl
theorem cw9 : Cond.code ⟨"MinorTables$Grid", "atSpot", "(I)J"⟩ prog_2_method_10_code 2 (some .long) ∈ zt := tb_tables_1_1 (List.mem_of_getElem? (i := 228) rfl) rfl
theorem cw10 : Cond.code ⟨"MinorTables$Grid", "putSpot", "(IJ)V"⟩ prog_2_method_11_code 4 (none) ∈ zt := tb_tables_1_1 (List.mem_of_getElem? (i := 239) rfl) rfl
theorem cw11 : Cond.code ⟨"MinorTables$Grid", "swap", "(IIII)V"⟩ prog_2_method_12_code 7 (none) ∈ zt := tb_tables_1_2 (List.mem_of_getElem? (i := 11) rfl) rfl
theorem cw12 : Cond.code ⟨"MinorTables$Grid", "turnOver", "()V"⟩ prog_2_method_13_code 3 (none) ∈ zt := tb_tables_1_2 (List.mem_of_getElem? (i := 7) rfl) rfl
theorem cw13 : Cond.code ⟨"MinorTables$Grid", "turnAround", "()V"⟩ prog_2_method_14_code 4 (none) ∈ zt := tb_tables_1_2 (List.mem_of_getElem? (i := 19) rfl) rfl
theorem cw14 : Cond.code ⟨"MinorTables$Grid", "swapRows", "(I)V"⟩ prog_2_method_15_code 3 (none) ∈ zt := tb_tables_1_3 (List.mem_of_getElem? (i := 196) rfl) rfl
theorem cw15 : Cond.code ⟨"MinorTables$Grid", "addColumn", "(III)V"⟩ prog_2_method_16_code 5 (none) ∈ zt := tb_tables_1_2 (List.mem_of_getElem? (i := 74) rfl) rfl
theorem cw16 : Cond.code ⟨"MinorTables$Grid", "together", "()J"⟩ prog_2_method_17_code 5 (some .long) ∈ zt := tb_tables_1_3 (List.mem_of_getElem? (i := 173) rfl) rfl
theorem cw17 : Cond.code ⟨"MinorTables$Grid", "greatest", "()J"⟩ prog_2_method_18_code 5 (some .long) ∈ zt := tb_tables_1_2 (List.mem_of_getElem? (i := 78) rfl) rfl
theorem cw18 : Cond.code ⟨"MinorTables$Grid", "hasMinor", "(II)Z"⟩ prog_2_method_19_code 3 (some .boolean) ∈ zt := tb_tables_1_3 (List.mem_of_getElem? (i := 22) rfl) rfl
theorem cw19 : Cond.code ⟨"MinorTables$Grid", "determinant", "(II)J"⟩ prog_2_method_20_code 4 (some .long) ∈ zt := tb_tables_1_2 (List.mem_of_getElem? (i := 206) rfl) rfl
theorem cw20 : Cond.code ⟨"MinorTables$Grid", "partOf", "(I)J"⟩ prog_2_method_21_code 2 (some .long) ∈ zt := tb_tables_1_2 (List.mem_of_getElem? (i := 224) rfl) rfl
theorem cw21 : Cond.code ⟨"MinorTables$Grid", "expandLastRow", "(II)J"⟩ prog_2_method_22_code 10 (some .long) ∈ zt := tb_tables_1_2 (List.mem_of_getElem? (i := 220) rfl) rfl
theorem cw22 : Cond.code ⟨"MinorTables$Grid", "lineOf", "(II)I"⟩ prog_2_method_23_code 5 (some .int) ∈ zt := tb_tables_1_2 (List.mem_of_getElem? (i := 216) rfl) rfl
theorem cw23 : Cond.code ⟨"MinorTables$Grid", "block", "(II)I"⟩ prog_2_method_24_code 3 (some .int) ∈ zt := tb_tables_1_2 (List.mem_of_getElem? (i := 202) rfl) rfl
theorem cw24 : Cond.code ⟨"MinorTables$Grid", "firstMinor", "(II)J"⟩ prog_2_method_25_code 4 (some .long) ∈ zt := tb_tables_1_2 (List.mem_of_getElem? (i := 195) rfl) rfl
theorem cw25 : Cond.code ⟨"MinorTables$Grid", "amiss", "()I"⟩ prog_2_method_26_code 3 (some .int) ∈ zt := tb_tables_1_2 (List.mem_of_getElem? (i := 191) rfl) rfl
theorem cw26 : Cond.code ⟨"MinorTables$Grid", "isPositive", "()Z"⟩ prog_2_method_27_code 1 (some .boolean) ∈ zt := tb_tables_1_2 (List.mem_of_getElem? (i := 187) rfl) rfl
theorem cw27 : Cond.code ⟨"MinorTables$Grid", "above", "()I"⟩ prog_2_method_28_code 3 (some .int) ∈ zt := tb_tables_1_2 (List.mem_of_getElem? (i := 229) rfl) rfl
theorem cw28 : Cond.code ⟨"MinorTables$Grid", "aboveOf", "(I)I"⟩ prog_2_method_29_code 5 (some .int) ∈ zt := tb_tables_1_2 (List.mem_of_getElem? (i := 233) rfl) rfl
theorem cw29 : Cond.code ⟨"MinorTables$Grid", "minorsOf", "(I)I"⟩ prog_2_method_30_code 4 (some .int) ∈ zt := tb_tables_1_3 (List.mem_of_getElem? (i := 165) rfl) rfl
theorem cw30 : Cond.code ⟨"MinorTables$Grid", "isOfOrder", "(III)Z"⟩ prog_2_method_31_code 4 (some .boolean) ∈ zt := tb_tables_1_3 (List.mem_of_getElem? (i := 1) rfl) rfl
theorem cw31 : Cond.code ⟨"MinorTables$Rows", "<init>", "(I)V"⟩ prog_3_method_1_code 2 (none) ∈ zt := tb_tables_1_1 (List.mem_of_getElem? (i := 56) rfl) rfl
theorem cw32 : Cond.code ⟨"MinorTables$Rows", "held", "()I"⟩ prog_3_method_2_code 1 (some .int) ∈ zt := tb_tables_1_2 (List.mem_of_getElem? (i := 48) rfl) rfl
theorem cw33 : Cond.code ⟨"MinorTables$Rows", "isFull", "()Z"⟩ prog_3_method_3_code 1 (some .boolean) ∈ zt := tb_tables_1_2 (List.mem_of_getElem? (i := 35) rfl) rfl
theorem cw34 : Cond.code ⟨"MinorTables$Rows", "has", "(I)Z"⟩ prog_3_method_4_code 2 (some .boolean) ∈ zt := tb_tables_1_2 (List.mem_of_getElem? (i := 64) rfl) rfl
theorem cw35 : Cond.code ⟨"MinorTables$Rows", "empty", "()V"⟩ prog_3_method_5_code 1 (none) ∈ zt := tb_tables_1_1 (List.mem_of_getElem? (i := 203) rfl) rfl
theorem cw36 : Cond.code ⟨"MinorTables$Rows", "add", "(III)I"⟩ prog_3_method_6_code 5 (some .int) ∈ zt := tb_tables_1_2 (List.mem_of_getElem? (i := 39) rfl) rfl
theorem cw37 : Cond.code ⟨"MinorTables$Rows", "cell", "(II)I"⟩ prog_3_method_7_code 4 (some .int) ∈ zt := tb_tables_1_2 (List.mem_of_getElem? (i := 60) rfl) rfl
theorem cw38 : Cond.code ⟨"MinorTables$Rows", "holds", "(II)Z"⟩ prog_3_method_8_code 4 (some .boolean) ∈ zt := tb_tables_1_3 (List.mem_of_getElem? (i := 27) rfl) rfl
theorem cw39 : Cond.code ⟨"MinorTables$Rows", "copyFrom", "(LMinorTables$Rows;)V"⟩ prog_3_method_9_code 4 (none) ∈ zt := tb_tables_1_4 (List.mem_of_getElem? (i := 1) rfl) rfl
theorem cw40 : Cond.code ⟨"MinorTables$Scene", "<init>", "()V"⟩ prog_4_method_1_code 1 (none) ∈ zt := tb_tables_1_1 (List.mem_of_getElem? (i := 25) rfl) rfl
theorem cw41 : Cond.code ⟨"MinorTables$Scene", "copyFrom", "(LMinorTables$Scene;)V"⟩ prog_4_method_2_code 3 (none) ∈ zt := tb_tables_1_3 (List.mem_of_getElem? (i := 236) rfl) rfl
theorem cw42 : Cond.code ⟨"MinorTables$Scene", "isInVector", "(I)Z"⟩ prog_4_method_3_code 2 (some .boolean) ∈ zt := tb_tables_1_2 (List.mem_of_getElem? (i := 94) rfl) rfl
theorem cw43 : Cond.code ⟨"MinorTables$Scene", "vectorAt", "(I)J"⟩ prog_4_method_4_code 2 (some .long) ∈ zt := tb_tables_1_2 (List.mem_of_getElem? (i := 99) rfl) rfl
theorem cw44 : Cond.code ⟨"MinorTables$Scene", "putInVector", "(IJ)V"⟩ prog_4_method_5_code 4 (none) ∈ zt := tb_tables_1_2 (List.mem_of_getElem? (i := 104) rfl) rfl
theorem cw45 : Cond.code ⟨"MinorTables$Straights", "<init>", "()V"⟩ prog_5_method_1_code 1 (none) ∈ zt := tb_tables_1_1 (List.mem_of_getElem? (i := 107) rfl) rfl
theorem cw46 : Cond.code ⟨"MinorTables$Straights", "empty", "()V"⟩ prog_5_method_2_code 1 (none) ∈ zt := tb_tables_1_3 (List.mem_of_getElem? (i := 97) rfl) rfl
theorem cw47 : Cond.code ⟨"MinorTables$Straights", "add", "(JJ)V"⟩ prog_5_method_3_code 5 (none) ∈ zt := tb_tables_1_3 (List.mem_of_getElem? (i := 106) rfl) rfl
theorem cw48 : Cond.code ⟨"MinorTables$Straights", "valueBy", "(II)J"⟩ prog_5_method_4_code 4 (some .long) ∈ zt := tb_tables_1_3 (List.mem_of_getElem? (i := 114) rfl) rfl
theorem cw49 : Cond.code ⟨"MinorTables$Straights", "areAllAbove", "(I)Z"⟩ prog_5_method_5_code 3 (some .boolean) ∈ zt := tb_tables_1_3 (List.mem_of_getElem? (i := 110) rfl) rfl
theorem cw50 : Cond.code ⟨"MinorTables$Straights", "areAllNought", "(I)Z"⟩ prog_5_method_6_code 3 (some .boolean) ∈ zt := tb_tables_1_3 (List.mem_of_getElem? (i := 156) rfl) rfl
theorem cw51 : Cond.code ⟨"MinorTables$Tape", "<init>", "()V"⟩ prog_6_method_1_code 1 (none) ∈ zt := tb_tables_1_1 (List.mem_of_getElem? (i := 148) rfl) rfl
theorem cw52 : Cond.code ⟨"MinorTables$Tape", "sort", "()I"⟩ prog_6_method_2_code 1 (some .int) ∈ zt := tb_tables_1_3 (List.mem_of_getElem? (i := 216) rfl) rfl
theorem cw53 : Cond.code ⟨"MinorTables$Tape", "become", "(II)V"⟩ prog_6_method_3_code 3 (none) ∈ zt := tb_tables_1_4 (List.mem_of_getElem? (i := 23) rfl) rfl
theorem cw54 : Cond.code ⟨"MinorTables$Tape", "hasPlaces", "(II)Z"⟩ prog_6_method_4_code 3 (some .boolean) ∈ zt := tb_tables_1_3 (List.mem_of_getElem? (i := 224) rfl) rfl
theorem cw55 : Cond.code ⟨"MinorTables$Tape", "at", "(I)J"⟩ prog_6_method_5_code 2 (some .long) ∈ zt := tb_tables_1_3 (List.mem_of_getElem? (i := 228) rfl) rfl
theorem cw56 : Cond.code ⟨"MinorTables$Tape", "put", "(IJ)V"⟩ prog_6_method_6_code 4 (none) ∈ zt := tb_tables_1_4 (List.mem_of_getElem? (i := 32) rfl) rfl
theorem cw57 : Cond.code ⟨"MinorTables$Tape", "cut", "(J)J"⟩ prog_6_method_7_code 3 (some .long) ∈ zt := tb_tables_1_4 (List.mem_of_getElem? (i := 36) rfl) rfl
theorem cw58 : Cond.code ⟨"MinorTables$Tape", "copyItems", "(ILMinorTables$Tape;II)V"⟩ prog_6_method_8_code 6 (none) ∈ zt := tb_tables_1_4 (List.mem_of_getElem? (i := 48) rfl) rfl
theorem cw59 : Cond.code ⟨"MinorTables$Text", "<init>", "()V"⟩ prog_7_method_1_code 1 (none) ∈ zt := tb_tables_1_1 (List.mem_of_getElem? (i := 123) rfl) rfl
theorem cw60 : Cond.code ⟨"MinorTables$Text", "held", "()I"⟩ prog_7_method_2_code 1 (some .int) ∈ zt := tb_tables_1_4 (List.mem_of_getElem? (i := 15) rfl) rfl
theorem cw61 : Cond.code ⟨"MinorTables$Text", "isFull", "()Z"⟩ prog_7_method_3_code 1 (some .boolean) ∈ zt := tb_tables_1_2 (List.mem_of_getElem? (i := 112) rfl) rfl
theorem cw62 : Cond.code ⟨"MinorTables$Text", "empty", "()V"⟩ prog_7_method_4_code 1 (none) ∈ zt := tb_tables_1_2 (List.mem_of_getElem? (i := 160) rfl) rfl
theorem cw63 : Cond.code ⟨"MinorTables$Text", "add", "(I)I"⟩ prog_7_method_5_code 2 (some .int) ∈ zt := tb_tables_1_2 (List.mem_of_getElem? (i := 116) rfl) rfl
theorem cw64 : Cond.code ⟨"MinorTables$Text", "clauses", "()LMinorTables$Rows;"⟩ prog_7_method_6_code 1 (some (.object "MinorTables$Rows")) ∈ zt := tb_tables_1_2 (List.mem_of_getElem? (i := 164) rfl) rfl
theorem cw65 : Cond.code ⟨"MinorTables$Text", "findFault", "()I"⟩ prog_7_method_7_code 2 (some .int) ∈ zt := tb_tables_1_2 (List.mem_of_getElem? (i := 124) rfl) rfl
theorem cw66 : Cond.code ⟨"MinorTables$Text", "signHere", "()I"⟩ prog_7_method_8_code 1 (some .int) ∈ zt := tb_tables_1_2 (List.mem_of_getElem? (i := 133) rfl) rfl
theorem cw67 : Cond.code ⟨"MinorTables$Text", "isDigitHere", "()Z"⟩ prog_7_method_9_code 1 (some .boolean) ∈ zt := tb_tables_1_2 (List.mem_of_getElem? (i := 140) rfl) rfl
theorem cw68 : Cond.code ⟨"MinorTables$Text", "pass", "(I)Z"⟩ prog_7_method_10_code 2 (some .boolean) ∈ zt := tb_tables_1_2 (List.mem_of_getElem? (i := 155) rfl) rfl
theorem cw69 : Cond.code ⟨"MinorTables$Text", "digitsBehind", "(I)I"⟩ prog_7_method_11_code 1 (some .int) ∈ zt := tb_tables_1_2 (List.mem_of_getElem? (i := 136) rfl) rfl
theorem cw70 : Cond.code ⟨"MinorTables$Text", "hasNumber", "(I)Z"⟩ prog_7_method_12_code 1 (some .boolean) ∈ zt := tb_tables_1_2 (List.mem_of_getElem? (i := 147) rfl) rfl
theorem cw71 : Cond.code ⟨"MinorTables$Text", "passClause", "()Z"⟩ prog_7_method_13_code 5 (some .boolean) ∈ zt := tb_tables_1_2 (List.mem_of_getElem? (i := 129) rfl) rfl
theorem cw72 : Cond.code ⟨"MinorTables$Text", "passDigit", "()I"⟩ prog_7_method_14_code 2 (some .int) ∈ zt := tb_tables_1_2 (List.mem_of_getElem? (i := 144) rfl) rfl
theorem cw73 : Cond.code ⟨"MinorTables$Text", "passNumber", "()Z"⟩ prog_7_method_15_code 2 (some .boolean) ∈ zt := tb_tables_1_2 (List.mem_of_getElem? (i := 151) rfl) rfl
theorem cw74 : Cond.code ⟨"MinorTables", "<init>", "()V"⟩ prog_1_method_1_code 2 (none) ∈ zt := tb_tables_1_1 (List.mem_of_getElem? (i := 17) rfl) rfl
theorem cw75 : Cond.code ⟨"MinorTables", "size", "(I)I"⟩ prog_1_method_2_code 3 (some .int) ∈ zt := tb_tables_1_1 (List.mem_of_getElem? (i := 194) rfl) rfl
theorem cw76 : Cond.code ⟨"MinorTables", "set", "(II)I"⟩ prog_1_method_3_code 4 (some .int) ∈ zt := tb_tables_1_1 (List.mem_of_getElem? (i := 210) rfl) rfl
theorem cw77 : Cond.code ⟨"MinorTables", "turn", "()I"⟩ prog_1_method_4_code 1 (some .int) ∈ zt := tb_tables_1_2 (List.mem_of_getElem? (i := 3) rfl) rfl
theorem cw78 : Cond.code ⟨"MinorTables", "flip", "()I"⟩ prog_1_method_5_code 1 (some .int) ∈ zt := tb_tables_1_2 (List.mem_of_getElem? (i := 15) rfl) rfl
theorem cw79 : Cond.code ⟨"MinorTables", "chip", "(III)I"⟩ prog_1_method_6_code 4 (some .int) ∈ zt := tb_tables_1_2 (List.mem_of_getElem? (i := 23) rfl) rfl
theorem cw80 : Cond.code ⟨"MinorTables", "clear", "()I"⟩ prog_1_method_7_code 2 (some .int) ∈ zt := tb_tables_1_2 (List.mem_of_getElem? (i := 44) rfl) rfl
theorem cw81 : Cond.code ⟨"MinorTables", "take", "()I"⟩ prog_1_method_8_code 1 (some .int) ∈ zt := tb_tables_1_2 (List.mem_of_getElem? (i := 52) rfl) rfl
theorem cw82 : Cond.code ⟨"MinorTables", "vector", "(II)I"⟩ prog_1_method_9_code 4 (some .int) ∈ zt := tb_tables_1_2 (List.mem_of_getElem? (i := 90) rfl) rfl
theorem cw83 : Cond.code ⟨"MinorTables", "feed", "(I)I"⟩ prog_1_method_10_code 2 (some .int) ∈ zt := tb_tables_1_2 (List.mem_of_getElem? (i := 108) rfl) rfl
theorem cw84 : Cond.code ⟨"MinorTables", "read", "()I"⟩ prog_1_method_11_code 6 (some .int) ∈ zt := tb_tables_1_2 (List.mem_of_getElem? (i := 120) rfl) rfl
theorem cw85 : Cond.code ⟨"MinorTables", "of", "(II)I"⟩ prog_1_method_12_code 3 (some .int) ∈ zt := tb_tables_1_2 (List.mem_of_getElem? (i := 179) rfl) rfl
theorem cw86 : Cond.code ⟨"MinorTables", "told", "(I)I"⟩ prog_1_method_13_code 2 (some .int) ∈ zt := tb_tables_1_2 (List.mem_of_getElem? (i := 183) rfl) rfl
theorem cw87 : Cond.code ⟨"MinorTables", "chipOf", "(II)I"⟩ prog_1_method_14_code 3 (some .int) ∈ zt := tb_tables_1_3 (List.mem_of_getElem? (i := 13) rfl) rfl
theorem cw88 : Cond.code ⟨"MinorTables", "minor", "(II)J"⟩ prog_1_method_15_code 3 (some .long) ∈ zt := tb_tables_1_3 (List.mem_of_getElem? (i := 18) rfl) rfl
theorem cw89 : Cond.code ⟨"MinorTables", "noted", "(I)I"⟩ prog_1_method_16_code 2 (some .int) ∈ zt := tb_tables_1_3 (List.mem_of_getElem? (i := 33) rfl) rfl
theorem cw90 : Cond.code ⟨"MinorTables", "first", "(I)J"⟩ prog_1_method_17_code 2 (some .long) ∈ zt := tb_tables_1_3 (List.mem_of_getElem? (i := 37) rfl) rfl
theorem cw91 : Cond.code ⟨"MinorTables", "factor", "(II)J"⟩ prog_1_method_18_code 5 (some .long) ∈ zt := tb_tables_1_3 (List.mem_of_getElem? (i := 44) rfl) rfl
theorem cw92 : Cond.code ⟨"MinorTables", "sum", "(I)J"⟩ prog_1_method_19_code 5 (some .long) ∈ zt := tb_tables_1_3 (List.mem_of_getElem? (i := 70) rfl) rfl
theorem cw93 : Cond.code ⟨"MinorTables", "unlike", "(I)I"⟩ prog_1_method_20_code 5 (some .int) ∈ zt := tb_tables_1_3 (List.mem_of_getElem? (i := 76) rfl) rfl
theorem cw94 : Cond.code ⟨"MinorTables", "may", "(II)I"⟩ prog_1_method_21_code 7 (some .int) ∈ zt := tb_tables_1_3 (List.mem_of_getElem? (i := 89) rfl) rfl
theorem cw95 : Cond.code ⟨"MinorTables", "product", "(I)J"⟩ prog_1_method_22_code 2 (some .long) ∈ zt := tb_tables_1_3 (List.mem_of_getElem? (i := 118) rfl) rfl
theorem cw96 : Cond.code ⟨"MinorTables", "productMinor", "(II)J"⟩ prog_1_method_23_code 3 (some .long) ∈ zt := tb_tables_1_3 (List.mem_of_getElem? (i := 122) rfl) rfl
theorem cw97 : Cond.code ⟨"MinorTables", "paths", "(II)J"⟩ prog_1_method_24_code 4 (some .long) ∈ zt := tb_tables_1_3 (List.mem_of_getElem? (i := 126) rfl) rfl
theorem cw98 : Cond.code ⟨"MinorTables", "see", "(III)I"⟩ prog_1_method_25_code 4 (some .int) ∈ zt := tb_tables_1_3 (List.mem_of_getElem? (i := 142) rfl) rfl
theorem cw99 : Cond.code ⟨"MinorTables", "fits", "(II)I"⟩ prog_1_method_26_code 6 (some .int) ∈ zt := tb_tables_1_3 (List.mem_of_getElem? (i := 148) rfl) rfl
theorem cw100 : Cond.code ⟨"MinorTables", "odds", "(II)J"⟩ prog_1_method_27_code 3 (some .long) ∈ zt := tb_tables_1_3 (List.mem_of_getElem? (i := 160) rfl) rfl
theorem cw101 : Cond.code ⟨"MinorTables", "mean", "(I)J"⟩ prog_1_method_28_code 3 (some .long) ∈ zt := tb_tables_1_3 (List.mem_of_getElem? (i := 169) rfl) rfl
theorem cw102 : Cond.code ⟨"MinorTables", "event", "(II)I"⟩ prog_1_method_29_code 3 (some .int) ∈ zt := tb_tables_1_3 (List.mem_of_getElem? (i := 177) rfl) rfl
theorem cw103 : Cond.code ⟨"MinorTables", "after", "(I)J"⟩ prog_1_method_30_code 3 (some .long) ∈ zt := tb_tables_1_3 (List.mem_of_getElem? (i := 185) rfl) rfl
theorem cw104 : Cond.code ⟨"MinorTables", "book", "(II)I"⟩ prog_1_method_31_code 3 (some .int) ∈ zt := tb_tables_1_3 (List.mem_of_getElem? (i := 200) rfl) rfl
theorem cw105 : Cond.code ⟨"MinorTables", "looked", "()I"⟩ prog_1_method_32_code 3 (some .int) ∈ zt := tb_tables_1_3 (List.mem_of_getElem? (i := 204) rfl) rfl
theorem cw106 : Cond.code ⟨"MinorTables", "judge", "(II)I"⟩ prog_1_method_33_code 4 (some .int) ∈ zt := tb_tables_1_3 (List.mem_of_getElem? (i := 208) rfl) rfl
theorem cw107 : Cond.code ⟨"MinorTables", "image", "()I"⟩ prog_1_method_34_code 1 (some .int) ∈ zt := tb_tables_1_3 (List.mem_of_getElem? (i := 232) rfl) rfl
theorem cw108 : Cond.code ⟨"MinorTables", "undo", "()I"⟩ prog_1_method_35_code 1 (some .int) ∈ zt := tb_tables_1_4 (List.mem_of_getElem? (i := 7) rfl) rfl
theorem cw109 : Cond.code ⟨"MinorTables", "count", "(I)I"⟩ prog_1_method_36_code 2 (some .int) ∈ zt := tb_tables_1_4 (List.mem_of_getElem? (i := 11) rfl) rfl
theorem cw110 : Cond.code ⟨"MinorTables", "tape", "(III)I"⟩ prog_1_method_37_code 5 (some .int) ∈ zt := tb_tables_1_4 (List.mem_of_getElem? (i := 19) rfl) rfl
theorem cw111 : Cond.code ⟨"MinorTables", "item", "(IIJ)I"⟩ prog_1_method_38_code 6 (some .int) ∈ zt := tb_tables_1_4 (List.mem_of_getElem? (i := 28) rfl) rfl
theorem cw112 : Cond.code ⟨"MinorTables", "peek", "(II)J"⟩ prog_1_method_39_code 4 (some .long) ∈ zt := tb_tables_1_4 (List.mem_of_getElem? (i := 40) rfl) rfl
theorem cw113 : Cond.code ⟨"MinorTables", "shift", "(IIIII)I"⟩ prog_1_method_40_code 8 (some .int) ∈ zt := tb_tables_1_4 (List.mem_of_getElem? (i := 44) rfl) rfl
theorem cw114 : Cond.code ⟨"MinorTables", "raised", "(J)I"⟩ prog_1_method_41_code 2 (some .int) ∈ zt := tb_tables_1_1 (List.mem_of_getElem? (i := 235) rfl) rfl
theorem cw115 : Cond.code ⟨"MinorTables", "rowOf", "(I)I"⟩ prog_1_method_42_code 1 (some .int) ∈ zt := tb_tables_1_1 (List.mem_of_getElem? (i := 217) rfl) rfl
theorem cw116 : Cond.code ⟨"MinorTables", "columnOf", "(I)I"⟩ prog_1_method_43_code 1 (some .int) ∈ zt := tb_tables_1_1 (List.mem_of_getElem? (i := 224) rfl) rfl
theorem cw117 : Cond.code ⟨"MinorTables", "isNoughtOrOne", "(I)Z"⟩ prog_1_method_44_code 1 (some .boolean) ∈ zt := tb_tables_1_3 (List.mem_of_getElem? (i := 47) rfl) rfl
theorem cw118 : Cond.code ⟨"MinorTables", "isOrder", "(I)Z"⟩ prog_1_method_45_code 2 (some .boolean) ∈ zt := tb_tables_1_3 (List.mem_of_getElem? (i := 80) rfl) rfl
theorem cw119 : Cond.code ⟨"MinorTables", "isLineWithOneBehind", "(I)Z"⟩ prog_1_method_46_code 2 (some .boolean) ∈ zt := tb_tables_1_2 (List.mem_of_getElem? (i := 31) rfl) rfl
theorem cw120 : Cond.code ⟨"MinorTables", "tapeAt", "(I)LMinorTables$Tape;"⟩ prog_1_method_47_code 2 (some (.object "MinorTables$Tape")) ∈ zt := tb_tables_1_3 (List.mem_of_getElem? (i := 212) rfl) rfl
theorem cw121 : Cond.code ⟨"MinorTables", "inLowestTerms", "(JJI)J"⟩ prog_1_method_48_code 7 (some .long) ∈ zt := tb_tables_1_3 (List.mem_of_getElem? (i := 54) rfl) rfl
theorem cw122 : Cond.code ⟨"MinorTables", "commonDivisor", "(JJ)J"⟩ prog_1_method_49_code 11 (some .long) ∈ zt := tb_tables_1_3 (List.mem_of_getElem? (i := 57) rfl) rfl
theorem cw123 : Cond.code ⟨"MinorTables", "changes", "([J)I"⟩ prog_1_method_50_code 5 (some .int) ∈ zt := tb_tables_1_3 (List.mem_of_getElem? (i := 4) rfl) rfl
theorem cw124 : Cond.code ⟨"MinorTables", "changesOfTableTimesVector", "()I"⟩ prog_1_method_51_code 5 (some .int) ∈ zt := tb_tables_1_3 (List.mem_of_getElem? (i := 8) rfl) rfl
theorem cw125 : Cond.code ⟨"MinorTables", "isChipPlace", "(II)Z"⟩ prog_1_method_52_code 3 (some .boolean) ∈ zt := tb_tables_1_2 (List.mem_of_getElem? (i := 27) rfl) rfl
theorem cw126 : Cond.code ⟨"MinorTables", "lineAhead", "(II)I"⟩ prog_1_method_53_code 2 (some .int) ∈ zt := tb_tables_1_2 (List.mem_of_getElem? (i := 67) rfl) rfl
theorem cw127 : Cond.code ⟨"MinorTables", "lineBehind", "(II)I"⟩ prog_1_method_54_code 2 (some .int) ∈ zt := tb_tables_1_2 (List.mem_of_getElem? (i := 70) rfl) rfl
theorem cw128 : Cond.code ⟨"MinorTables", "multiplyChips", "()V"⟩ prog_1_method_55_code 5 (none) ∈ zt := tb_tables_1_2 (List.mem_of_getElem? (i := 56) rfl) rfl
theorem cw129 : Cond.code ⟨"MinorTables", "waysTo", "(I)J"⟩ prog_1_method_56_code 2 (some .long) ∈ zt := tb_tables_1_3 (List.mem_of_getElem? (i := 138) rfl) rfl
theorem cw130 : Cond.code ⟨"MinorTables", "putWays", "(IJ)V"⟩ prog_1_method_57_code 4 (none) ∈ zt := tb_tables_1_3 (List.mem_of_getElem? (i := 130) rfl) rfl
theorem cw131 : Cond.code ⟨"MinorTables", "walkThrough", "(III)V"⟩ prog_1_method_58_code 8 (none) ∈ zt := tb_tables_1_3 (List.mem_of_getElem? (i := 134) rfl) rfl
theorem cw132 : Cond.code ⟨"MinorTables", "edgeMinor", "(IIZ)J"⟩ prog_1_method_59_code 6 (some .long) ∈ zt := tb_tables_1_3 (List.mem_of_getElem? (i := 51) rfl) rfl
theorem cw133 : Cond.code ⟨"MinorTables", "factorBesideTheMiddle", "(IIZI)J"⟩ prog_1_method_60_code 9 (some .long) ∈ zt := tb_tables_1_3 (List.mem_of_getElem? (i := 66) rfl) rfl
theorem cw134 : Cond.code ⟨"MinorTables", "keepUnlike", "(IJ)I"⟩ prog_1_method_61_code 5 (some .int) ∈ zt := tb_tables_1_3 (List.mem_of_getElem? (i := 85) rfl) rfl
theorem cw135 : Cond.code ⟨"MinorTables", "drawFirstMinors", "(I)V"⟩ prog_1_method_62_code 7 (none) ∈ zt := tb_tables_1_3 (List.mem_of_getElem? (i := 93) rfl) rfl
theorem cw136 : Cond.code ⟨"MinorTables", "drawSeen", "(I)Z"⟩ prog_1_method_63_code 7 (some .boolean) ∈ zt := tb_tables_1_3 (List.mem_of_getElem? (i := 152) rfl) rfl
theorem cw137 : Cond.code ⟨"MinorTables", "minorWith", "(IIII)J"⟩ prog_1_method_64_code 9 (some .long) ∈ zt := tb_tables_1_3 (List.mem_of_getElem? (i := 102) rfl) rfl
theorem cw138 : Cond.code ⟨"MinorTables", "doClause", "(III)I"⟩ prog_1_method_65_code 4 (some .int) ∈ zt := tb_tables_1_2 (List.mem_of_getElem? (i := 168) rfl) rfl
theorem cw139 : Cond.code ⟨"MinorTables", "isEventPlace", "(II)Z"⟩ prog_1_method_66_code 3 (some .boolean) ∈ zt := tb_tables_1_3 (List.mem_of_getElem? (i := 181) rfl) rfl
theorem cw140 : Cond.code ⟨"MinorTables", "happen", "(II)V"⟩ prog_1_method_67_code 3 (none) ∈ zt := tb_tables_1_3 (List.mem_of_getElem? (i := 189) rfl) rfl
theorem cw141 : Cond.code ⟨"MinorTables", "judgeNumbers", "(LMinorTables$Tape;I)I"⟩ prog_1_method_68_code 7 (some .int) ∈ zt := tb_tables_1_3 (List.mem_of_getElem? (i := 220) rfl) rfl
theorem cw142 : Cond.code ⟨"MinorTablesModel", "in", "(JJJ)Z"⟩ prog_9_method_1_code 6 (some .boolean) ∈ zt := tb_tables_1_4 (List.mem_of_getElem? (i := 222) rfl) rfl
theorem cw143 : Cond.code ⟨"MinorTablesModel", "bits", "(I)I"⟩ prog_9_method_2_code 3 (some .int) ∈ zt := tb_tables_1_5 (List.mem_of_getElem? (i := 27) rfl) rfl
theorem cw144 : Cond.code ⟨"MinorTablesModel", "common", "(JJ)J"⟩ prog_9_method_3_code 10 (some .long) ∈ zt := tb_tables_1_5 (List.mem_of_getElem? (i := 86) rfl) rfl
theorem cw145 : Cond.code ⟨"MinorTablesModel", "part", "(JJI)J"⟩ prog_9_method_4_code 7 (some .long) ∈ zt := tb_tables_1_5 (List.mem_of_getElem? (i := 83) rfl) rfl
theorem cw146 : Cond.code ⟨"MinorTablesModel", "<init>", "()V"⟩ prog_9_method_5_code 1 (none) ∈ zt := tb_tables_1_4 (List.mem_of_getElem? (i := 57) rfl) rfl
theorem cw147 : Cond.code ⟨"MinorTablesModel", "begins", "()V"⟩ prog_9_method_6_code 2 (none) ∈ zt := tb_tables_1_4 (List.mem_of_getElem? (i := 62) rfl) rfl
theorem cw148 : Cond.code ⟨"MinorTablesModel", "isSpot", "(I)Z"⟩ prog_9_method_7_code 2 (some .boolean) ∈ zt := tb_tables_1_4 (List.mem_of_getElem? (i := 230) rfl) rfl
theorem cw149 : Cond.code ⟨"MinorTablesModel", "cell", "(I)I"⟩ prog_9_method_8_code 1 (some .int) ∈ zt := tb_tables_1_4 (List.mem_of_getElem? (i := 235) rfl) rfl
theorem cw150 : Cond.code ⟨"MinorTablesModel", "size", "(I)I"⟩ prog_9_method_9_code 3 (some .int) ∈ zt := tb_tables_1_4 (List.mem_of_getElem? (i := 217) rfl) rfl
theorem cw151 : Cond.code ⟨"MinorTablesModel", "set", "(II)I"⟩ prog_9_method_10_code 4 (some .int) ∈ zt := tb_tables_1_4 (List.mem_of_getElem? (i := 226) rfl) rfl
theorem cw152 : Cond.code ⟨"MinorTablesModel", "turns", "([I)V"⟩ prog_9_method_11_code 4 (none) ∈ zt := tb_tables_1_5 (List.mem_of_getElem? (i := 2) rfl) rfl
theorem cw153 : Cond.code ⟨"MinorTablesModel", "turn", "()I"⟩ prog_9_method_12_code 1 (some .int) ∈ zt := tb_tables_1_4 (List.mem_of_getElem? (i := 239) rfl) rfl
theorem cw154 : Cond.code ⟨"MinorTablesModel", "flip", "()I"⟩ prog_9_method_13_code 3 (some .int) ∈ zt := tb_tables_1_5 (List.mem_of_getElem? (i := 6) rfl) rfl
theorem cw155 : Cond.code ⟨"MinorTablesModel", "vector", "(II)I"⟩ prog_9_method_14_code 4 (some .int) ∈ zt := tb_tables_1_5 (List.mem_of_getElem? (i := 10) rfl) rfl
theorem cw156 : Cond.code ⟨"MinorTablesModel", "of", "(II)I"⟩ prog_9_method_15_code 3 (some .int) ∈ zt := tb_tables_1_5 (List.mem_of_getElem? (i := 16) rfl) rfl
theorem cw157 : Cond.code ⟨"MinorTablesModel", "isMinor", "(II)Z"⟩ prog_9_method_16_code 3 (some .boolean) ∈ zt := tb_tables_1_5 (List.mem_of_getElem? (i := 24) rfl) rfl
theorem cw158 : Cond.code ⟨"MinorTablesModel", "minorOf", "([III)J"⟩ prog_9_method_17_code 9 (some .long) ∈ zt := tb_tables_1_5 (List.mem_of_getElem? (i := 31) rfl) rfl
theorem cw159 : Cond.code ⟨"MinorTablesModel", "minor", "(II)J"⟩ prog_9_method_18_code 6 (some .long) ∈ zt := tb_tables_1_5 (List.mem_of_getElem? (i := 20) rfl) rfl
theorem cw160 : Cond.code ⟨"MinorTablesModel", "noted", "(I)I"⟩ prog_9_method_19_code 2 (some .int) ∈ zt := tb_tables_1_5 (List.mem_of_getElem? (i := 35) rfl) rfl
theorem cw161 : Cond.code ⟨"MinorTablesModel", "run", "(II)I"⟩ prog_9_method_20_code 2 (some .int) ∈ zt := tb_tables_1_5 (List.mem_of_getElem? (i := 45) rfl) rfl
theorem cw162 : Cond.code ⟨"MinorTablesModel", "firstOf", "([III)J"⟩ prog_9_method_21_code 4 (some .long) ∈ zt := tb_tables_1_5 (List.mem_of_getElem? (i := 42) rfl) rfl
theorem cw163 : Cond.code ⟨"MinorTablesModel", "first", "(I)J"⟩ prog_9_method_22_code 2 (some .long) ∈ zt := tb_tables_1_5 (List.mem_of_getElem? (i := 39) rfl) rfl
theorem cw164 : Cond.code ⟨"MinorTablesModel", "amiss", "([I)I"⟩ prog_9_method_23_code 4 (some .int) ∈ zt := tb_tables_1_5 (List.mem_of_getElem? (i := 57) rfl) rfl
theorem cw165 : Cond.code ⟨"MinorTablesModel", "aboveOf", "([IIZ)I"⟩ prog_9_method_24_code 7 (some .int) ∈ zt := tb_tables_1_5 (List.mem_of_getElem? (i := 61) rfl) rfl
theorem cw166 : Cond.code ⟨"MinorTablesModel", "isPositive", "([I)Z"⟩ prog_9_method_25_code 4 (some .boolean) ∈ zt := tb_tables_1_5 (List.mem_of_getElem? (i := 53) rfl) rfl
theorem cw167 : Cond.code ⟨"MinorTablesModel", "changes", "()I"⟩ prog_9_method_26_code 5 (some .int) ∈ zt := tb_tables_1_5 (List.mem_of_getElem? (i := 69) rfl) rfl
theorem cw168 : Cond.code ⟨"MinorTablesModel", "changesOf", "(Z)I"⟩ prog_9_method_27_code 4 (some .int) ∈ zt := tb_tables_1_5 (List.mem_of_getElem? (i := 65) rfl) rfl
theorem cw169 : Cond.code ⟨"MinorTablesModel", "told", "(I)I"⟩ prog_9_method_28_code 2 (some .int) ∈ zt := tb_tables_1_5 (List.mem_of_getElem? (i := 49) rfl) rfl
theorem cw170 : Cond.code ⟨"MinorTablesModel", "lies", "([IIII)J"⟩ prog_9_method_29_code 4 (some .long) ∈ zt := tb_tables_1_5 (List.mem_of_getElem? (i := 80) rfl) rfl
theorem cw171 : Cond.code ⟨"MinorTablesModel", "factorOf", "([IIII)J"⟩ prog_9_method_30_code 9 (some .long) ∈ zt := tb_tables_1_5 (List.mem_of_getElem? (i := 77) rfl) rfl
theorem cw172 : Cond.code ⟨"MinorTablesModel", "factor", "(II)J"⟩ prog_9_method_31_code 6 (some .long) ∈ zt := tb_tables_1_5 (List.mem_of_getElem? (i := 73) rfl) rfl
theorem cw173 : Cond.code ⟨"MinorTablesModel", "sum", "(I)J"⟩ prog_9_method_32_code 5 (some .long) ∈ zt := tb_tables_1_5 (List.mem_of_getElem? (i := 90) rfl) rfl
theorem cw174 : Cond.code ⟨"MinorTablesModel", "unlike", "(I)I"⟩ prog_9_method_33_code 9 (some .int) ∈ zt := tb_tables_1_5 (List.mem_of_getElem? (i := 94) rfl) rfl
theorem cw175 : Cond.code ⟨"MinorTablesModel", "may", "(II)I"⟩ prog_9_method_34_code 8 (some .int) ∈ zt := tb_tables_1_5 (List.mem_of_getElem? (i := 98) rfl) rfl
theorem cw176 : Cond.code ⟨"MinorTablesModel", "chip", "(III)I"⟩ prog_9_method_35_code 4 (some .int) ∈ zt := tb_tables_1_5 (List.mem_of_getElem? (i := 102) rfl) rfl
theorem cw177 : Cond.code ⟨"MinorTablesModel", "clear", "()I"⟩ prog_9_method_36_code 2 (some .int) ∈ zt := tb_tables_1_5 (List.mem_of_getElem? (i := 106) rfl) rfl
theorem cw178 : Cond.code ⟨"MinorTablesModel", "chipOf", "(II)I"⟩ prog_9_method_37_code 3 (some .int) ∈ zt := tb_tables_1_5 (List.mem_of_getElem? (i := 110) rfl) rfl
theorem cw179 : Cond.code ⟨"MinorTablesModel", "waysTo", "(II)J"⟩ prog_9_method_38_code 7 (some .long) ∈ zt := tb_tables_1_5 (List.mem_of_getElem? (i := 118) rfl) rfl
theorem cw180 : Cond.code ⟨"MinorTablesModel", "product", "(I)J"⟩ prog_9_method_39_code 2 (some .long) ∈ zt := tb_tables_1_5 (List.mem_of_getElem? (i := 114) rfl) rfl
theorem cw181 : Cond.code ⟨"MinorTablesModel", "productMinor", "(II)J"⟩ prog_9_method_40_code 3 (some .long) ∈ zt := tb_tables_1_5 (List.mem_of_getElem? (i := 122) rfl) rfl
theorem cw182 : Cond.code ⟨"MinorTablesModel", "paths", "(II)J"⟩ prog_9_method_41_code 3 (some .long) ∈ zt := tb_tables_1_5 (List.mem_of_getElem? (i := 126) rfl) rfl
theorem cw183 : Cond.code ⟨"MinorTablesModel", "take", "()I"⟩ prog_9_method_42_code 3 (some .int) ∈ zt := tb_tables_1_5 (List.mem_of_getElem? (i := 130) rfl) rfl
theorem cw184 : Cond.code ⟨"MinorTablesModel", "feed", "(I)I"⟩ prog_9_method_43_code 2 (some .int) ∈ zt := tb_tables_1_5 (List.mem_of_getElem? (i := 134) rfl) rfl
theorem cw185 : Cond.code ⟨"MinorTablesModel", "here", "()I"⟩ prog_9_method_44_code 1 (some .int) ∈ zt := tb_tables_1_5 (List.mem_of_getElem? (i := 147) rfl) rfl
theorem cw186 : Cond.code ⟨"MinorTablesModel", "digit", "()I"⟩ prog_9_method_45_code 2 (some .int) ∈ zt := tb_tables_1_5 (List.mem_of_getElem? (i := 151) rfl) rfl
theorem cw187 : Cond.code ⟨"MinorTablesModel", "number", "()I"⟩ prog_9_method_46_code 3 (some .int) ∈ zt := tb_tables_1_5 (List.mem_of_getElem? (i := 155) rfl) rfl
theorem cw188 : Cond.code ⟨"MinorTablesModel", "clause", "()V"⟩ prog_9_method_47_code 2 (none) ∈ zt := tb_tables_1_5 (List.mem_of_getElem? (i := 143) rfl) rfl
theorem cw189 : Cond.code ⟨"MinorTablesModel", "isDone", "(I)Z"⟩ prog_9_method_48_code 2 (some .boolean) ∈ zt := tb_tables_1_5 (List.mem_of_getElem? (i := 161) rfl) rfl
theorem cw190 : Cond.code ⟨"MinorTablesModel", "read", "()I"⟩ prog_9_method_49_code 3 (some .int) ∈ zt := tb_tables_1_5 (List.mem_of_getElem? (i := 139) rfl) rfl
theorem cw191 : Cond.code ⟨"MinorTablesModel", "see", "(III)I"⟩ prog_9_method_50_code 4 (some .int) ∈ zt := tb_tables_1_5 (List.mem_of_getElem? (i := 172) rfl) rfl
theorem cw192 : Cond.code ⟨"MinorTablesModel", "isSeen", "()Z"⟩ prog_9_method_51_code 2 (some .boolean) ∈ zt := tb_tables_1_5 (List.mem_of_getElem? (i := 182) rfl) rfl
theorem cw193 : Cond.code ⟨"MinorTablesModel", "fits", "(II)I"⟩ prog_9_method_52_code 7 (some .int) ∈ zt := tb_tables_1_5 (List.mem_of_getElem? (i := 178) rfl) rfl
theorem cw194 : Cond.code ⟨"MinorTablesModel", "odds", "(II)J"⟩ prog_9_method_53_code 3 (some .long) ∈ zt := tb_tables_1_5 (List.mem_of_getElem? (i := 186) rfl) rfl
theorem cw195 : Cond.code ⟨"MinorTablesModel", "mean", "(I)J"⟩ prog_9_method_54_code 6 (some .long) ∈ zt := tb_tables_1_5 (List.mem_of_getElem? (i := 190) rfl) rfl
theorem cw196 : Cond.code ⟨"MinorTablesModel", "event", "(II)I"⟩ prog_9_method_55_code 3 (some .int) ∈ zt := tb_tables_1_5 (List.mem_of_getElem? (i := 194) rfl) rfl
theorem cw197 : Cond.code ⟨"MinorTablesModel", "happens", "(II)V"⟩ prog_9_method_56_code 5 (none) ∈ zt := tb_tables_1_5 (List.mem_of_getElem? (i := 203) rfl) rfl
theorem cw198 : Cond.code ⟨"MinorTablesModel", "after", "(I)J"⟩ prog_9_method_57_code 3 (some .long) ∈ zt := tb_tables_1_5 (List.mem_of_getElem? (i := 199) rfl) rfl
theorem cw199 : Cond.code ⟨"MinorTablesModel", "book", "(II)I"⟩ prog_9_method_58_code 3 (some .int) ∈ zt := tb_tables_1_5 (List.mem_of_getElem? (i := 207) rfl) rfl
theorem cw200 : Cond.code ⟨"MinorTablesModel", "looked", "()I"⟩ prog_9_method_59_code 2 (some .int) ∈ zt := tb_tables_1_5 (List.mem_of_getElem? (i := 211) rfl) rfl
theorem cw201 : Cond.code ⟨"MinorTablesModel", "isTape", "(I)Z"⟩ prog_9_method_60_code 1 (some .boolean) ∈ zt := tb_tables_1_5 (List.mem_of_getElem? (i := 218) rfl) rfl
theorem cw202 : Cond.code ⟨"MinorTablesModel", "tape", "(III)I"⟩ prog_9_method_61_code 5 (some .int) ∈ zt := tb_tables_1_5 (List.mem_of_getElem? (i := 215) rfl) rfl
theorem cw203 : Cond.code ⟨"MinorTablesModel", "kept", "(IJ)J"⟩ prog_9_method_62_code 3 (some .long) ∈ zt := tb_tables_1_5 (List.mem_of_getElem? (i := 227) rfl) rfl
theorem cw204 : Cond.code ⟨"MinorTablesModel", "item", "(IIJ)I"⟩ prog_9_method_63_code 5 (some .int) ∈ zt := tb_tables_1_5 (List.mem_of_getElem? (i := 224) rfl) rfl
theorem cw205 : Cond.code ⟨"MinorTablesModel", "peek", "(II)J"⟩ prog_9_method_64_code 3 (some .long) ∈ zt := tb_tables_1_5 (List.mem_of_getElem? (i := 231) rfl) rfl
theorem cw206 : Cond.code ⟨"MinorTablesModel", "shift", "(IIIII)I"⟩ prog_9_method_65_code 7 (some .int) ∈ zt := tb_tables_1_5 (List.mem_of_getElem? (i := 235) rfl) rfl
theorem cw207 : Cond.code ⟨"MinorTablesModel", "judge", "(II)I"⟩ prog_9_method_66_code 4 (some .int) ∈ zt := tb_tables_1_5 (List.mem_of_getElem? (i := 239) rfl) rfl
theorem cw208 : Cond.code ⟨"MinorTablesModel", "image", "()I"⟩ prog_9_method_67_code 2 (some .int) ∈ zt := tb_tables_1_6 (List.mem_of_getElem? (i := 3) rfl) rfl
theorem cw209 : Cond.code ⟨"MinorTablesModel", "undo", "()I"⟩ prog_9_method_68_code 2 (some .int) ∈ zt := tb_tables_1_6 (List.mem_of_getElem? (i := 7) rfl) rfl
theorem cw210 : Cond.code ⟨"MinorTablesModel", "count", "(I)I"⟩ prog_9_method_69_code 2 (some .int) ∈ zt := tb_tables_1_6 (List.mem_of_getElem? (i := 11) rfl) rfl
theorem cw211 : Cond.code ⟨"java/lang/Integer", "bitCount", "(I)I"⟩ prog_10_method_49_code 1 (some .int) ∈ zt := tb_tables_1_2 (List.mem_of_getElem? (i := 209) rfl) rfl
theorem cw212 : Cond.code ⟨"java/util/Arrays", "fill", "([JJ)V"⟩ prog_13_method_101_code 5 (none) ∈ zt := tb_tables_1_1 (List.mem_of_getElem? (i := 206) rfl) rfl
