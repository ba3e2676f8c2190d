/-! THE SHAPE (by program, shape.py): the classes, what a cell of each kind holds, how many there are -/
abbrev bc_cl : List vw_C := [(RX0, TX0, 11), (RX1, TX1, 3), (RX2, TX2, 7), (RX3, TX3, 5), (RX4, TX4, 12), (RX5, TX5, 8), (RX6, TX6, 3), (RX7, TX7, 6), (RX8, TX8, 14), (RX9, TX9, 42)]
def bc_e (G : bc_G) (k : Nat) (j : Int) (g : Int → Int) : va_E := match k with
  | 1 => .inr (8, [vR G 2 0, vI (g 1), vI (g 2), vI (g 3), vR G 3 0, vR G 5 0, vR G 5 1, vR G 15 0, vR G 17 0, vR G 6 12, vR G 17 1, vR G 12 48, vR G 25 0, vR G 30 0])
  | 2 => .inl (bc_ty G 1, 500, .inl (fun q => Int32.ofInt (g (q : Int))))
  | 3 => .inr (2, [(if g 0 = 0 then vR G 4 0 else vR G 2 0), vI (g 1), vI (g 2), vI (g 3), vI (g 4), vI (g 5), vI (g 6)])
  | 4 => .inl (bc_ty G 1, 0, .inl (fun q => Int32.ofInt (g (q : Int))))
  | 5 => .inr (6, [vR G 6 j, vI (g 1), vR G 11 j])
  | 6 => .inr (5, [vI (g 0), vI (g 1), vI (g 2), vI (g 3), vR G 7 j, vR G 8 j, vR G 9 j, vR G 10 j])
  | 7 => .inl (bc_ty G 0, 4, .inl (fun q => Int32.ofInt (g (q : Int))))
  | 8 => .inl (bc_ty G 0, 16, .inl (fun q => Int32.ofInt (g (q : Int))))
  | 9 => .inl (bc_ty G 0, 16, .inl (fun q => Int32.ofInt (g (q : Int))))
  | 10 => .inl (bc_ty G 0, 16, .inl (fun q => Int32.ofInt (g (q : Int))))
  | 11 => .inl (bc_ty G 5, 4, .inr (.inr (.inr (.inr (fun q => some (G.2.2.2.1 12 (4 * j + (q : Int))))))))
  | 12 => .inr (0, [vI (g 0), vI (g 1), vI (g 2), vI (g 3), vI (g 4), vI (g 5), vI (g 6), vI (g 7), vI (g 8), vR G 13 j, vR G 14 j])
  | 13 => .inl (bc_ty G 0, 16, .inl (fun q => Int32.ofInt (g (q : Int))))
  | 14 => .inl (bc_ty G 0, 16, .inl (fun q => Int32.ofInt (g (q : Int))))
  | 15 => .inr (1, [vI (g 0), vI (g 1), vR G 16 0])
  | 16 => .inl (bc_ty G 4, 10, .inr (.inr (.inr (.inr (fun q => some (G.2.2.2.1 5 (2 + (q : Int))))))))
  | 17 => .inr (4, [vI (g 0), vI (g 1), vI (g 2), vI (g 3), vR G 18 j, vR G 19 j, vR G 20 j, vI (g 7), vI (g 8), vR G 22 j, vR G 23 j, vR G 24 j])
  | 18 => .inl (bc_ty G 0, 8, .inl (fun q => Int32.ofInt (g (q : Int))))
  | 19 => .inl (bc_ty G 0, 16, .inl (fun q => Int32.ofInt (g (q : Int))))
  | 20 => .inl (bc_ty G 6, 16, .inr (.inr (.inr (.inr (fun q => some (G.2.2.2.1 21 (16 * j + (q : Int))))))))
  | 21 => .inl (bc_ty G 0, 6, .inl (fun q => Int32.ofInt (g (q : Int))))
  | 22 => .inl (bc_ty G 0, 4, .inl (fun q => Int32.ofInt (g (q : Int))))
  | 23 => .inl (bc_ty G 0, 4, .inl (fun q => Int32.ofInt (g (q : Int))))
  | 24 => .inl (bc_ty G 0, 4, .inl (fun q => Int32.ofInt (g (q : Int))))
  | 25 => .inr (7, [vR G 26 0, vR G 27 0, vR G 28 0, vJ (g 3), vI (g 4), vR G 29 0])
  | 26 => .inl (bc_ty G 0, 16, .inl (fun q => Int32.ofInt (g (q : Int))))
  | 27 => .inl (bc_ty G 0, 4, .inl (fun q => Int32.ofInt (g (q : Int))))
  | 28 => .inl (bc_ty G 0, 4, .inl (fun q => Int32.ofInt (g (q : Int))))
  | 29 => .inl (bc_ty G 0, 4, .inl (fun q => Int32.ofInt (g (q : Int))))
  | 30 => .inr (3, [vI (g 0), vR G 31 0, vI (g 2), vR G 32 0, vR G 12 49])
  | 31 => .inl (bc_ty G 0, 5, .inl (fun q => Int32.ofInt (g (q : Int))))
  | 32 => .inl (bc_ty G 0, 5, .inl (fun q => Int32.ofInt (g (q : Int))))
  | 33 => .inr (9, [vR G 34 0, vR G 35 0, vI (g 2), vI (g 3), vI (g 4), vI (g 5), vI (g 6), vI (g 7), vR G 36 0, vR G 37 0, vR G 38 0, vI (g 11), vI (g 12), vI (g 13), vI (g 14), vI (g 15), vI (g 16), vI (g 17), vI (g 18), vR G 39 0, vI (g 20), vI (g 21), vI (g 22), vR G 40 0, vR G 41 0, vI (g 25), vR G 42 0, vI (g 27), vR G 43 0, vR G 44 0, vI (g 30), vR G 45 0, vR G 46 0, vR G 47 0, vJ (g 34), vI (g 35), vI (g 36), vR G 48 0, vR G 49 0, vR G 50 0, vI (g 40), vI (g 41)])
  | 34 => .inl (bc_ty G 0, 206, .inl (fun q => Int32.ofInt (g (q : Int))))
  | 35 => .inl (bc_ty G 0, 2060, .inl (fun q => Int32.ofInt (g (q : Int))))
  | 36 => .inl (bc_ty G 0, 4, .inl (fun q => Int32.ofInt (g (q : Int))))
  | 37 => .inl (bc_ty G 0, 4, .inl (fun q => Int32.ofInt (g (q : Int))))
  | 38 => .inl (bc_ty G 0, 500, .inl (fun q => Int32.ofInt (g (q : Int))))
  | 39 => .inl (bc_ty G 0, 62, .inl (fun q => Int32.ofInt (g (q : Int))))
  | 40 => .inl (bc_ty G 0, 1442, .inl (fun q => Int32.ofInt (g (q : Int))))
  | 41 => .inl (bc_ty G 0, 600, .inl (fun q => Int32.ofInt (g (q : Int))))
  | 42 => .inl (bc_ty G 0, 700, .inl (fun q => Int32.ofInt (g (q : Int))))
  | 43 => .inl (bc_ty G 0, 700, .inl (fun q => Int32.ofInt (g (q : Int))))
  | 44 => .inl (bc_ty G 0, 700, .inl (fun q => Int32.ofInt (g (q : Int))))
  | 45 => .inl (bc_ty G 0, 16, .inl (fun q => Int32.ofInt (g (q : Int))))
  | 46 => .inl (bc_ty G 0, 4, .inl (fun q => Int32.ofInt (g (q : Int))))
  | 47 => .inl (bc_ty G 0, 4, .inl (fun q => Int32.ofInt (g (q : Int))))
  | 48 => .inl (bc_ty G 0, 700, .inl (fun q => Int32.ofInt (g (q : Int))))
  | 49 => .inl (bc_ty G 0, 5, .inl (fun q => Int32.ofInt (g (q : Int))))
  | 50 => .inl (bc_ty G 0, 5, .inl (fun q => Int32.ofInt (g (q : Int))))
  | 51 => .inl (bc_ty G 2, 1, .inr (.inl (fun q => Int64.ofInt (g (q : Int)))))
  | 52 => .inl (bc_ty G 3, 1, .inr (.inr (.inr (.inl (fun q => UInt64.ofNat (g (q : Int)).toNat)))))
  | _ => .inl (0, 0, .inl (fun _ => 0))
def bc_n (k : Nat) : Int := match k with
  | 1 => 1
  | 2 => 1
  | 3 => 1
  | 4 => 1
  | 5 => 12
  | 6 => 13
  | 7 => 13
  | 8 => 13
  | 9 => 13
  | 10 => 13
  | 11 => 12
  | 12 => 50
  | 13 => 50
  | 14 => 50
  | 15 => 1
  | 16 => 1
  | 17 => 2
  | 18 => 2
  | 19 => 2
  | 20 => 2
  | 21 => 32
  | 22 => 2
  | 23 => 2
  | 24 => 2
  | 25 => 1
  | 26 => 1
  | 27 => 1
  | 28 => 1
  | 29 => 1
  | 30 => 1
  | 31 => 1
  | 32 => 1
  | 33 => 1
  | 34 => 1
  | 35 => 1
  | 36 => 1
  | 37 => 1
  | 38 => 1
  | 39 => 1
  | 40 => 1
  | 41 => 1
  | 42 => 1
  | 43 => 1
  | 44 => 1
  | 45 => 1
  | 46 => 1
  | 47 => 1
  | 48 => 1
  | 49 => 1
  | 50 => 1
  | 51 => 1
  | 52 => 1
  | _ => 0
def bc_tl (G : bc_G) : List (ClassId × FieldType) := [(bc_ty G 0, .int), (bc_ty G 1, .byte), (bc_ty G 2, .long), (bc_ty G 3, .double), (bc_ty G 4, .object RX6), (bc_ty G 5, .object RX0), (bc_ty G 6, .array .int)]
def bc_strs : List (String × Nat × String × Nat) := [("BroadcastCarousel$Parser", 70, "index", 0), ("BroadcastCarousel$Parser", 88, "disk", 1), ("BroadcastCarousel$Parser", 93, "item", 2), ("BroadcastCarousel$Parser", 102, "client", 3), ("BroadcastCarousel$Parser", 116, "lfu", 4), ("BroadcastCarousel$Parser", 118, "pix", 5), ("BroadcastCarousel$Parser", 120, "lru", 6), ("BroadcastCarousel", 88, "the text buffer is full", 7), ("BroadcastCarousel", 341, "an argument is out of its range", 8), ("BroadcastCarousel", 337, "no carousel", 9), ("BroadcastCarousel", 344, "an argument is negative", 10), ("BroadcastCarousel", 348, "there are not so many", 11), ("BroadcastCarouselModel", 149, "index", 0), ("BroadcastCarouselModel", 165, "disk", 1), ("BroadcastCarouselModel", 170, "item", 2), ("BroadcastCarouselModel", 175, "client", 3), ("BroadcastCarouselModel", 177, "lru", 6), ("BroadcastCarouselModel", 179, "lfu", 4), ("BroadcastCarouselModel", 181, "pix", 5)]
def bc_len : List Nat := [5, 4, 4, 6, 3, 3, 3, 23, 31, 11, 23, 21]
def bc_byt : List (List Int32) := [[105, 110, 100, 101, 120], [100, 105, 115, 107], [105, 116, 101, 109], [99, 108, 105, 101, 110, 116], [108, 102, 117], [112, 105, 120], [108, 114, 117], [116, 104, 101, 32, 116, 101, 120, 116, 32, 98, 117, 102, 102, 101, 114, 32, 105, 115, 32, 102, 117, 108, 108], [97, 110, 32, 97, 114, 103, 117, 109, 101, 110, 116, 32, 105, 115, 32, 111, 117, 116, 32, 111, 102, 32, 105, 116, 115, 32, 114, 97, 110, 103, 101], [110, 111, 32, 99, 97, 114, 111, 117, 115, 101, 108], [97, 110, 32, 97, 114, 103, 117, 109, 101, 110, 116, 32, 105, 115, 32, 110, 101, 103, 97, 116, 105, 118, 101], [116, 104, 101, 114, 101, 32, 97, 114, 101, 32, 110, 111, 116, 32, 115, 111, 32, 109, 97, 110, 121]]
def bc_nest : List Cond := [(Cond.methodLinkNest "BroadcastCarousel" (26 : Nat) ({ cls := "BroadcastCarousel$Parser", name := "<init>", desc := "()V" } : MethodName) "BroadcastCarousel"), (Cond.methodLinkNest "BroadcastCarousel$State" (11 : Nat) ({ cls := "BroadcastCarousel$Settings", name := "<init>", desc := "()V" } : MethodName) "BroadcastCarousel"), (Cond.methodLinkNest "BroadcastCarousel$State" (28 : Nat) ({ cls := "BroadcastCarousel$Client", name := "<init>", desc := "()V" } : MethodName) "BroadcastCarousel"), (Cond.methodLinkNest "BroadcastCarousel" (50 : Nat) ({ cls := "BroadcastCarousel$Program", name := "<init>", desc := "()V" } : MethodName) "BroadcastCarousel"), (Cond.methodLinkNest "BroadcastCarousel" (57 : Nat) ({ cls := "BroadcastCarousel$Settings", name := "<init>", desc := "()V" } : MethodName) "BroadcastCarousel"), (Cond.methodLinkNest "BroadcastCarousel" (67 : Nat) ({ cls := "BroadcastCarousel$Client", name := "<init>", desc := "()V" } : MethodName) "BroadcastCarousel"), (Cond.methodLinkNest "BroadcastCarousel" (74 : Nat) ({ cls := "BroadcastCarousel$Tiers", name := "<init>", desc := "()V" } : MethodName) "BroadcastCarousel"), (Cond.methodLinkNest "BroadcastCarousel" (81 : Nat) ({ cls := "BroadcastCarousel$Plan", name := "<init>", desc := "()V" } : MethodName) "BroadcastCarousel"), (Cond.methodLinkNest "BroadcastCarousel$Plan" (27 : Nat) ({ cls := "BroadcastCarousel$Client", name := "<init>", desc := "()V" } : MethodName) "BroadcastCarousel"), (Cond.methodLinkNest "BroadcastCarousel$Client" (56 : Nat) ({ cls := "BroadcastCarousel", name := "isIn", desc := "(II)Z" } : MethodName) "BroadcastCarousel"), (Cond.methodLinkNest "BroadcastCarousel$Plan" (55 : Nat) ({ cls := "BroadcastCarousel", name := "isIn", desc := "(II)Z" } : MethodName) "BroadcastCarousel")]
