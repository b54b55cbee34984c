/-! groups: 0 AlikeUnlike, 1 Form, 2 told, 3 laws, 4 Script, 5 codes, 6 numbers, 7 held, 8 Page, 9 letters, 10 Walker, 11 pile, 12 Spanner, 13 lows, 14 highs, 15 Search, 16 spans, 17 isShared, 18 Came, 19 people, 20 outs, 21 runs, 22 allAt, 23 letAt, 24 Person, 25 numbers, 26 Mender, 27 rows, 28 Cheapest, 29 Askings, 30 x.spans, 31 Model, 32 kinds, 33 least, 34 greatest, 35 prices, 36 page, 37 readMarks, 38 readNumbers, 39 readLines, 40 readEnds, 41 waits, 42 marks, 43 numbers, 44 lineTo, 45 lineEnd, 46 lawMany, 47 lawMarks, 48 lawNumbers, 49 sums, 50 isGone, 51 truths, 52 who, 53 oneLaw, 54 oneNumbers, 55 box, 56 stack, 57 isOne, 58 lows, 59 highs, 60 rowWho, 61 rowOut, 62 rowEnd, 63 asWas, 64 bestWho -/
def kd (g : Nat) : Nat × Nat := (bif Nat.ble g 31 then (bif Nat.ble g 15 then (bif Nat.ble g 7 then (bif Nat.ble g 3 then (bif Nat.ble g 1 then (bif Nat.ble g 0 then (11, 15) else (3, 3)) else (bif Nat.ble g 2 then (13, 32) else (17, 6))) else (bif Nat.ble g 5 then (bif Nat.ble g 4 then (7, 8) else (13, 80)) else (bif Nat.ble g 6 then (13, 80) else (13, 80)))) else (bif Nat.ble g 11 then (bif Nat.ble g 9 then (bif Nat.ble g 8 then (5, 9) else (13, 80)) else (bif Nat.ble g 10 then (10, 4) else (14, 80))) else (bif Nat.ble g 13 then (bif Nat.ble g 12 then (9, 3) else (14, 80)) else (bif Nat.ble g 14 then (14, 80) else (8, 9))))) else (bif Nat.ble g 23 then (bif Nat.ble g 19 then (bif Nat.ble g 17 then (bif Nat.ble g 16 then (13, 2592) else (15, 8)) else (bif Nat.ble g 18 then (1, 14) else (16, 24))) else (bif Nat.ble g 21 then (bif Nat.ble g 20 then (13, 24) else (13, 24)) else (bif Nat.ble g 22 then (13, 21) else (13, 21)))) else (bif Nat.ble g 27 then (bif Nat.ble g 25 then (bif Nat.ble g 24 then (6, 1) else (13, 8)) else (bif Nat.ble g 26 then (4, 6) else (13, 24))) else (bif Nat.ble g 29 then (bif Nat.ble g 28 then (2, 3) else (0, 6)) else (bif Nat.ble g 30 then (13, 16) else (12, 72)))))) else (bif Nat.ble g 47 then (bif Nat.ble g 39 then (bif Nat.ble g 35 then (bif Nat.ble g 33 then (bif Nat.ble g 32 then (13, 8) else (13, 8)) else (bif Nat.ble g 34 then (13, 8) else (13, 8))) else (bif Nat.ble g 37 then (bif Nat.ble g 36 then (13, 80) else (13, 80)) else (bif Nat.ble g 38 then (13, 80) else (13, 80)))) else (bif Nat.ble g 43 then (bif Nat.ble g 41 then (bif Nat.ble g 40 then (13, 80) else (13, 80)) else (bif Nat.ble g 42 then (13, 80) else (13, 80))) else (bif Nat.ble g 45 then (bif Nat.ble g 44 then (13, 80) else (13, 80)) else (bif Nat.ble g 46 then (13, 6) else (13, 480))))) else (bif Nat.ble g 55 then (bif Nat.ble g 51 then (bif Nat.ble g 49 then (bif Nat.ble g 48 then (13, 480) else (14, 81)) else (bif Nat.ble g 50 then (15, 81) else (13, 81))) else (bif Nat.ble g 53 then (bif Nat.ble g 52 then (13, 8) else (13, 80)) else (bif Nat.ble g 54 then (13, 80) else (13, 32)))) else (bif Nat.ble g 59 then (bif Nat.ble g 57 then (bif Nat.ble g 56 then (13, 3200) else (15, 8)) else (bif Nat.ble g 58 then (14, 81) else (14, 81))) else (bif Nat.ble g 61 then (bif Nat.ble g 60 then (13, 192) else (13, 24)) else (bif Nat.ble g 62 then (13, 24) else (bif Nat.ble g 63 then (13, 8) else (13, 8))))))))
def cnm (k : Nat) : String := match k with
  | 0 => RX0
  | 1 => RX1
  | 2 => RX2
  | 3 => RX3
  | 4 => RX4
  | 5 => RX5
  | 6 => RX6
  | 7 => RX7
  | 8 => RX8
  | 9 => RX9
  | 10 => RX10
  | 11 => RX11
  | 12 => RX12
  | 13 => RJ6
  | 14 => RJ9
  | _ => RL
def NW : List Cond := [(Jvm.Cond.methodLinkNest "AlikeUnlike$Form" (21 : Nat) ({ cls := "AlikeUnlike$Script", name := "<init>", desc := "()V" } : Jvm.MethodName) "AlikeUnlike"), (Jvm.Cond.methodLinkNest "AlikeUnlike" (18 : Nat) ({ cls := "AlikeUnlike$Page", name := "<init>", desc := "()V" } : Jvm.MethodName) "AlikeUnlike"), (Jvm.Cond.methodLinkNest "AlikeUnlike" (25 : Nat) ({ cls := "AlikeUnlike$Script", name := "<init>", desc := "()V" } : Jvm.MethodName) "AlikeUnlike"), (Jvm.Cond.methodLinkNest "AlikeUnlike" (32 : Nat) ({ cls := "AlikeUnlike$Walker", name := "<init>", desc := "()V" } : Jvm.MethodName) "AlikeUnlike"), (Jvm.Cond.methodLinkNest "AlikeUnlike" (39 : Nat) ({ cls := "AlikeUnlike$Spanner", name := "<init>", desc := "()V" } : Jvm.MethodName) "AlikeUnlike"), (Jvm.Cond.methodLinkNest "AlikeUnlike" (46 : Nat) ({ cls := "AlikeUnlike$Search", name := "<init>", desc := "()V" } : Jvm.MethodName) "AlikeUnlike"), (Jvm.Cond.methodLinkNest "AlikeUnlike$Came" (30 : Nat) ({ cls := "AlikeUnlike$Person", name := "<init>", desc := "()V" } : Jvm.MethodName) "AlikeUnlike"), (Jvm.Cond.methodLinkNest "AlikeUnlike" (60 : Nat) ({ cls := "AlikeUnlike$Mender", name := "<init>", desc := "()V" } : Jvm.MethodName) "AlikeUnlike"), (Jvm.Cond.methodLinkNest "AlikeUnlike" (67 : Nat) ({ cls := "AlikeUnlike$Cheapest", name := "<init>", desc := "()V" } : Jvm.MethodName) "AlikeUnlike"), (Jvm.Cond.methodLinkNest "AlikeUnlike$Cheapest" (11 : Nat) ({ cls := "AlikeUnlike$Person", name := "<init>", desc := "()V" } : Jvm.MethodName) "AlikeUnlike"), (Jvm.Cond.methodLinkNest "AlikeUnlike" (74 : Nat) ({ cls := "AlikeUnlike$Askings", name := "<init>", desc := "()V" } : Jvm.MethodName) "AlikeUnlike"), (Jvm.Cond.methodLinkNest "AlikeUnlike" (81 : Nat) ({ cls := "AlikeUnlike$Person", name := "<init>", desc := "()V" } : Jvm.MethodName) "AlikeUnlike"), (Jvm.Cond.methodLinkNest "AlikeUnlike$Form" (22 : Nat) ({ cls := "AlikeUnlike", name := "isField", desc := "(I)Z" } : Jvm.MethodName) "AlikeUnlike"), (Jvm.Cond.methodLinkNest "AlikeUnlike$Form" (36 : Nat) ({ cls := "AlikeUnlike", name := "bit", desc := "(Z)I" } : Jvm.MethodName) "AlikeUnlike"), (Jvm.Cond.methodLinkNest "AlikeUnlike$Page" (19 : Nat) ({ cls := "AlikeUnlike", name := "bit", desc := "(Z)I" } : Jvm.MethodName) "AlikeUnlike"), (Jvm.Cond.methodLinkNest "AlikeUnlike$Page" (69 : Nat) ({ cls := "AlikeUnlike", name := "isDigit", desc := "(I)Z" } : Jvm.MethodName) "AlikeUnlike"), (Jvm.Cond.methodLinkNest "AlikeUnlike$Page" (81 : Nat) ({ cls := "AlikeUnlike", name := "isFieldLetter", desc := "(I)Z" } : Jvm.MethodName) "AlikeUnlike"), (Jvm.Cond.methodLinkNest "AlikeUnlike$Page" (84 : Nat) ({ cls := "AlikeUnlike", name := "isComparison", desc := "(I)Z" } : Jvm.MethodName) "AlikeUnlike"), (Jvm.Cond.methodLinkNest "AlikeUnlike$Script" (54 : Nat) ({ cls := "AlikeUnlike", name := "isDigit", desc := "(I)Z" } : Jvm.MethodName) "AlikeUnlike"), (Jvm.Cond.methodLinkNest "AlikeUnlike$Script" (61 : Nat) ({ cls := "AlikeUnlike", name := "isFieldLetter", desc := "(I)Z" } : Jvm.MethodName) "AlikeUnlike"), (Jvm.Cond.methodLinkNest "AlikeUnlike$Person" (19 : Nat) ({ cls := "AlikeUnlike", name := "isField", desc := "(I)Z" } : Jvm.MethodName) "AlikeUnlike"), (Jvm.Cond.methodLinkNest "AlikeUnlike$Walker" (66 : Nat) ({ cls := "AlikeUnlike", name := "isComparison", desc := "(I)Z" } : Jvm.MethodName) "AlikeUnlike"), (Jvm.Cond.methodLinkNest "AlikeUnlike$Search" (87 : Nat) ({ cls := "AlikeUnlike", name := "isField", desc := "(I)Z" } : Jvm.MethodName) "AlikeUnlike"), (Jvm.Cond.methodLinkNest "AlikeUnlike$Spanner" (39 : Nat) ({ cls := "AlikeUnlike", name := "isField", desc := "(I)Z" } : Jvm.MethodName) "AlikeUnlike"), (Jvm.Cond.methodLinkNest "AlikeUnlike$Spanner" (59 : Nat) ({ cls := "AlikeUnlike", name := "bit", desc := "(Z)I" } : Jvm.MethodName) "AlikeUnlike"), (Jvm.Cond.methodLinkNest "AlikeUnlike$Came" (72 : Nat) ({ cls := "AlikeUnlike", name := "bit", desc := "(Z)I" } : Jvm.MethodName) "AlikeUnlike"), (Jvm.Cond.methodLinkNest "AlikeUnlike$Came" (92 : Nat) ({ cls := "AlikeUnlike", name := "choose", desc := "(II)J" } : Jvm.MethodName) "AlikeUnlike"), (Jvm.Cond.methodLinkNest "AlikeUnlike$Came" (143 : Nat) ({ cls := "AlikeUnlike", name := "lowest", desc := "(JJI)I" } : Jvm.MethodName) "AlikeUnlike"), (Jvm.Cond.methodLinkNest "AlikeUnlike$Askings" (54 : Nat) ({ cls := "AlikeUnlike", name := "bit", desc := "(Z)I" } : Jvm.MethodName) "AlikeUnlike"), (Jvm.Cond.methodLinkNest "AlikeUnlike$Mender" (83 : Nat) ({ cls := "AlikeUnlike", name := "bit", desc := "(Z)I" } : Jvm.MethodName) "AlikeUnlike"), (Jvm.Cond.methodLinkNest "AlikeUnlike$Form" (76 : Nat) ({ cls := "AlikeUnlike", name := "fold", desc := "(JJ)J" } : Jvm.MethodName) "AlikeUnlike"), (Jvm.Cond.methodLinkNest "AlikeUnlike$Came" (61 : Nat) ({ cls := "AlikeUnlike", name := "fold", desc := "(JJ)J" } : Jvm.MethodName) "AlikeUnlike"), (Jvm.Cond.methodLinkNest "AlikeUnlike$Page" (29 : Nat) ({ cls := "AlikeUnlike", name := "fold", desc := "(JJ)J" } : Jvm.MethodName) "AlikeUnlike")]
theorem NW_in : ∀ w ∈ NW, w ∈ lw_tbl := by
  intro w hw
  simp only [NW, List.mem_cons, List.not_mem_nil, or_false] at hw
  rcases hw with rfl | rfl | rfl | rfl | rfl | rfl | rfl | rfl | rfl | rfl | rfl | rfl | rfl | rfl | rfl | rfl | rfl | rfl | rfl | rfl | rfl | rfl | rfl | rfl | rfl | rfl | rfl | rfl | rfl | rfl | rfl | rfl | rfl
  · exact wu1 34 (by decide +kernel)
  · exact wu1 76 (by decide +kernel)
  · exact wu1 109 (by decide +kernel)
  · exact wu1 112 (by decide +kernel)
  · exact wu1 132 (by decide +kernel)
  · exact wu1 148 (by decide +kernel)
  · exact wu1 191 (by decide +kernel)
  · exact wu2 4 (by decide +kernel)
  · exact wu2 29 (by decide +kernel)
  · exact wu2 34 (by decide +kernel)
  · exact wu2 47 (by decide +kernel)
  · exact wu2 71 (by decide +kernel)
  · exact wu2 133 (by decide +kernel)
  · exact wu2 146 (by decide +kernel)
  · exact wu2 184 (by decide +kernel)
  · exact wu2 225 (by decide +kernel)
  · exact wu2 228 (by decide +kernel)
  · exact wu2 239 (by decide +kernel)
  · exact wu3 24 (by decide +kernel)
  · exact wu3 41 (by decide +kernel)
  · exact wu3 81 (by decide +kernel)
  · exact wu3 98 (by decide +kernel)
  · exact wu3 191 (by decide +kernel)
  · exact wu3 207 (by decide +kernel)
  · exact wu3 222 (by decide +kernel)
  · exact wu4 82 (by decide +kernel)
  · exact wu4 118 (by decide +kernel)
  · exact wu4 149 (by decide +kernel)
  · exact wu4 172 (by decide +kernel)
  · exact wu4 207 (by decide +kernel)
  · exact wu5 48 (by decide +kernel)
  · exact wu5 60 (by decide +kernel)
  · exact wu5 70 (by decide +kernel)
