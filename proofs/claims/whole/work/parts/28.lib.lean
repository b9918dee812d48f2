/-! RULES for walking: locals as explicit lists, reading and writing as functions of a cell -/
theorem lg0 {a0 : Option Value} {t : LE} : elg (a0 :: t) 0 = a0 := rfl
theorem ls0 {a0 : Option Value} {t : LE} {v : Value} : est1 (a0 :: t) 0 v = some v :: t := rfl
theorem lt0 {a0 : Option Value} {t : LE} {a : Option Value} {v : Value} : est2 (a0 :: a :: t) 0 v = some v :: none :: t := rfl
theorem lg1 {a0 a1 : Option Value} {t : LE} : elg (a0 :: a1 :: t) 1 = a1 := rfl
theorem ls1 {a0 a1 : Option Value} {t : LE} {v : Value} : est1 (a0 :: a1 :: t) 1 v = lclr a0 :: some v :: t := rfl
theorem lt1 {a0 a1 : Option Value} {t : LE} {a : Option Value} {v : Value} : est2 (a0 :: a1 :: a :: t) 1 v = lclr a0 :: some v :: none :: t := rfl
theorem lg2 {a0 a1 a2 : Option Value} {t : LE} : elg (a0 :: a1 :: a2 :: t) 2 = a2 := rfl
theorem ls2 {a0 a1 a2 : Option Value} {t : LE} {v : Value} : est1 (a0 :: a1 :: a2 :: t) 2 v = a0 :: lclr a1 :: some v :: t := rfl
theorem lt2 {a0 a1 a2 : Option Value} {t : LE} {a : Option Value} {v : Value} : est2 (a0 :: a1 :: a2 :: a :: t) 2 v = a0 :: lclr a1 :: some v :: none :: t := rfl
theorem lg3 {a0 a1 a2 a3 : Option Value} {t : LE} : elg (a0 :: a1 :: a2 :: a3 :: t) 3 = a3 := rfl
theorem ls3 {a0 a1 a2 a3 : Option Value} {t : LE} {v : Value} : est1 (a0 :: a1 :: a2 :: a3 :: t) 3 v = a0 :: a1 :: lclr a2 :: some v :: t := rfl
theorem lt3 {a0 a1 a2 a3 : Option Value} {t : LE} {a : Option Value} {v : Value} : est2 (a0 :: a1 :: a2 :: a3 :: a :: t) 3 v = a0 :: a1 :: lclr a2 :: some v :: none :: t := rfl
theorem lg4 {a0 a1 a2 a3 a4 : Option Value} {t : LE} : elg (a0 :: a1 :: a2 :: a3 :: a4 :: t) 4 = a4 := rfl
theorem ls4 {a0 a1 a2 a3 a4 : Option Value} {t : LE} {v : Value} : est1 (a0 :: a1 :: a2 :: a3 :: a4 :: t) 4 v = a0 :: a1 :: a2 :: lclr a3 :: some v :: t := rfl
theorem lt4 {a0 a1 a2 a3 a4 : Option Value} {t : LE} {a : Option Value} {v : Value} : est2 (a0 :: a1 :: a2 :: a3 :: a4 :: a :: t) 4 v = a0 :: a1 :: a2 :: lclr a3 :: some v :: none :: t := rfl
theorem lg5 {a0 a1 a2 a3 a4 a5 : Option Value} {t : LE} : elg (a0 :: a1 :: a2 :: a3 :: a4 :: a5 :: t) 5 = a5 := rfl
theorem ls5 {a0 a1 a2 a3 a4 a5 : Option Value} {t : LE} {v : Value} : est1 (a0 :: a1 :: a2 :: a3 :: a4 :: a5 :: t) 5 v = a0 :: a1 :: a2 :: a3 :: lclr a4 :: some v :: t := rfl
theorem lt5 {a0 a1 a2 a3 a4 a5 : Option Value} {t : LE} {a : Option Value} {v : Value} : est2 (a0 :: a1 :: a2 :: a3 :: a4 :: a5 :: a :: t) 5 v = a0 :: a1 :: a2 :: a3 :: lclr a4 :: some v :: none :: t := rfl
theorem lg6 {a0 a1 a2 a3 a4 a5 a6 : Option Value} {t : LE} : elg (a0 :: a1 :: a2 :: a3 :: a4 :: a5 :: a6 :: t) 6 = a6 := rfl
theorem ls6 {a0 a1 a2 a3 a4 a5 a6 : Option Value} {t : LE} {v : Value} : est1 (a0 :: a1 :: a2 :: a3 :: a4 :: a5 :: a6 :: t) 6 v = a0 :: a1 :: a2 :: a3 :: a4 :: lclr a5 :: some v :: t := rfl
theorem lt6 {a0 a1 a2 a3 a4 a5 a6 : Option Value} {t : LE} {a : Option Value} {v : Value} : est2 (a0 :: a1 :: a2 :: a3 :: a4 :: a5 :: a6 :: a :: t) 6 v = a0 :: a1 :: a2 :: a3 :: a4 :: lclr a5 :: some v :: none :: t := rfl
theorem lg7 {a0 a1 a2 a3 a4 a5 a6 a7 : Option Value} {t : LE} : elg (a0 :: a1 :: a2 :: a3 :: a4 :: a5 :: a6 :: a7 :: t) 7 = a7 := rfl
theorem ls7 {a0 a1 a2 a3 a4 a5 a6 a7 : Option Value} {t : LE} {v : Value} : est1 (a0 :: a1 :: a2 :: a3 :: a4 :: a5 :: a6 :: a7 :: t) 7 v = a0 :: a1 :: a2 :: a3 :: a4 :: a5 :: lclr a6 :: some v :: t := rfl
theorem lt7 {a0 a1 a2 a3 a4 a5 a6 a7 : Option Value} {t : LE} {a : Option Value} {v : Value} : est2 (a0 :: a1 :: a2 :: a3 :: a4 :: a5 :: a6 :: a7 :: a :: t) 7 v = a0 :: a1 :: a2 :: a3 :: a4 :: a5 :: lclr a6 :: some v :: none :: t := rfl
theorem lg8 {a0 a1 a2 a3 a4 a5 a6 a7 a8 : Option Value} {t : LE} : elg (a0 :: a1 :: a2 :: a3 :: a4 :: a5 :: a6 :: a7 :: a8 :: t) 8 = a8 := rfl
theorem ls8 {a0 a1 a2 a3 a4 a5 a6 a7 a8 : Option Value} {t : LE} {v : Value} : est1 (a0 :: a1 :: a2 :: a3 :: a4 :: a5 :: a6 :: a7 :: a8 :: t) 8 v = a0 :: a1 :: a2 :: a3 :: a4 :: a5 :: a6 :: lclr a7 :: some v :: t := rfl
theorem lt8 {a0 a1 a2 a3 a4 a5 a6 a7 a8 : Option Value} {t : LE} {a : Option Value} {v : Value} : est2 (a0 :: a1 :: a2 :: a3 :: a4 :: a5 :: a6 :: a7 :: a8 :: a :: t) 8 v = a0 :: a1 :: a2 :: a3 :: a4 :: a5 :: a6 :: lclr a7 :: some v :: none :: t := rfl
theorem lg9 {a0 a1 a2 a3 a4 a5 a6 a7 a8 a9 : Option Value} {t : LE} : elg (a0 :: a1 :: a2 :: a3 :: a4 :: a5 :: a6 :: a7 :: a8 :: a9 :: t) 9 = a9 := rfl
theorem ls9 {a0 a1 a2 a3 a4 a5 a6 a7 a8 a9 : Option Value} {t : LE} {v : Value} : est1 (a0 :: a1 :: a2 :: a3 :: a4 :: a5 :: a6 :: a7 :: a8 :: a9 :: t) 9 v = a0 :: a1 :: a2 :: a3 :: a4 :: a5 :: a6 :: a7 :: lclr a8 :: some v :: t := rfl
theorem lt9 {a0 a1 a2 a3 a4 a5 a6 a7 a8 a9 : Option Value} {t : LE} {a : Option Value} {v : Value} : est2 (a0 :: a1 :: a2 :: a3 :: a4 :: a5 :: a6 :: a7 :: a8 :: a9 :: a :: t) 9 v = a0 :: a1 :: a2 :: a3 :: a4 :: a5 :: a6 :: a7 :: lclr a8 :: some v :: none :: t := rfl
theorem lg10 {a0 a1 a2 a3 a4 a5 a6 a7 a8 a9 a10 : Option Value} {t : LE} : elg (a0 :: a1 :: a2 :: a3 :: a4 :: a5 :: a6 :: a7 :: a8 :: a9 :: a10 :: t) 10 = a10 := rfl
theorem ls10 {a0 a1 a2 a3 a4 a5 a6 a7 a8 a9 a10 : Option Value} {t : LE} {v : Value} : est1 (a0 :: a1 :: a2 :: a3 :: a4 :: a5 :: a6 :: a7 :: a8 :: a9 :: a10 :: t) 10 v = a0 :: a1 :: a2 :: a3 :: a4 :: a5 :: a6 :: a7 :: a8 :: lclr a9 :: some v :: t := rfl
theorem lt10 {a0 a1 a2 a3 a4 a5 a6 a7 a8 a9 a10 : Option Value} {t : LE} {a : Option Value} {v : Value} : est2 (a0 :: a1 :: a2 :: a3 :: a4 :: a5 :: a6 :: a7 :: a8 :: a9 :: a10 :: a :: t) 10 v = a0 :: a1 :: a2 :: a3 :: a4 :: a5 :: a6 :: a7 :: a8 :: lclr a9 :: some v :: none :: t := rfl
theorem lg11 {a0 a1 a2 a3 a4 a5 a6 a7 a8 a9 a10 a11 : Option Value} {t : LE} : elg (a0 :: a1 :: a2 :: a3 :: a4 :: a5 :: a6 :: a7 :: a8 :: a9 :: a10 :: a11 :: t) 11 = a11 := rfl
theorem ls11 {a0 a1 a2 a3 a4 a5 a6 a7 a8 a9 a10 a11 : Option Value} {t : LE} {v : Value} : est1 (a0 :: a1 :: a2 :: a3 :: a4 :: a5 :: a6 :: a7 :: a8 :: a9 :: a10 :: a11 :: t) 11 v = a0 :: a1 :: a2 :: a3 :: a4 :: a5 :: a6 :: a7 :: a8 :: a9 :: lclr a10 :: some v :: t := rfl
theorem lt11 {a0 a1 a2 a3 a4 a5 a6 a7 a8 a9 a10 a11 : Option Value} {t : LE} {a : Option Value} {v : Value} : est2 (a0 :: a1 :: a2 :: a3 :: a4 :: a5 :: a6 :: a7 :: a8 :: a9 :: a10 :: a11 :: a :: t) 11 v = a0 :: a1 :: a2 :: a3 :: a4 :: a5 :: a6 :: a7 :: a8 :: a9 :: lclr a10 :: some v :: none :: t := rfl
theorem lg12 {a0 a1 a2 a3 a4 a5 a6 a7 a8 a9 a10 a11 a12 : Option Value} {t : LE} : elg (a0 :: a1 :: a2 :: a3 :: a4 :: a5 :: a6 :: a7 :: a8 :: a9 :: a10 :: a11 :: a12 :: t) 12 = a12 := rfl
theorem ls12 {a0 a1 a2 a3 a4 a5 a6 a7 a8 a9 a10 a11 a12 : Option Value} {t : LE} {v : Value} : est1 (a0 :: a1 :: a2 :: a3 :: a4 :: a5 :: a6 :: a7 :: a8 :: a9 :: a10 :: a11 :: a12 :: t) 12 v = a0 :: a1 :: a2 :: a3 :: a4 :: a5 :: a6 :: a7 :: a8 :: a9 :: a10 :: lclr a11 :: some v :: t := rfl
theorem lt12 {a0 a1 a2 a3 a4 a5 a6 a7 a8 a9 a10 a11 a12 : Option Value} {t : LE} {a : Option Value} {v : Value} : est2 (a0 :: a1 :: a2 :: a3 :: a4 :: a5 :: a6 :: a7 :: a8 :: a9 :: a10 :: a11 :: a12 :: a :: t) 12 v = a0 :: a1 :: a2 :: a3 :: a4 :: a5 :: a6 :: a7 :: a8 :: a9 :: a10 :: lclr a11 :: some v :: none :: t := rfl
theorem lg13 {a0 a1 a2 a3 a4 a5 a6 a7 a8 a9 a10 a11 a12 a13 : Option Value} {t : LE} : elg (a0 :: a1 :: a2 :: a3 :: a4 :: a5 :: a6 :: a7 :: a8 :: a9 :: a10 :: a11 :: a12 :: a13 :: t) 13 = a13 := rfl
theorem ls13 {a0 a1 a2 a3 a4 a5 a6 a7 a8 a9 a10 a11 a12 a13 : Option Value} {t : LE} {v : Value} : est1 (a0 :: a1 :: a2 :: a3 :: a4 :: a5 :: a6 :: a7 :: a8 :: a9 :: a10 :: a11 :: a12 :: a13 :: t) 13 v = a0 :: a1 :: a2 :: a3 :: a4 :: a5 :: a6 :: a7 :: a8 :: a9 :: a10 :: a11 :: lclr a12 :: some v :: t := rfl
theorem lt13 {a0 a1 a2 a3 a4 a5 a6 a7 a8 a9 a10 a11 a12 a13 : Option Value} {t : LE} {a : Option Value} {v : Value} : est2 (a0 :: a1 :: a2 :: a3 :: a4 :: a5 :: a6 :: a7 :: a8 :: a9 :: a10 :: a11 :: a12 :: a13 :: a :: t) 13 v = a0 :: a1 :: a2 :: a3 :: a4 :: a5 :: a6 :: a7 :: a8 :: a9 :: a10 :: a11 :: lclr a12 :: some v :: none :: t := rfl
theorem lg14 {a0 a1 a2 a3 a4 a5 a6 a7 a8 a9 a10 a11 a12 a13 a14 : Option Value} {t : LE} : elg (a0 :: a1 :: a2 :: a3 :: a4 :: a5 :: a6 :: a7 :: a8 :: a9 :: a10 :: a11 :: a12 :: a13 :: a14 :: t) 14 = a14 := rfl
theorem ls14 {a0 a1 a2 a3 a4 a5 a6 a7 a8 a9 a10 a11 a12 a13 a14 : Option Value} {t : LE} {v : Value} : est1 (a0 :: a1 :: a2 :: a3 :: a4 :: a5 :: a6 :: a7 :: a8 :: a9 :: a10 :: a11 :: a12 :: a13 :: a14 :: t) 14 v = a0 :: a1 :: a2 :: a3 :: a4 :: a5 :: a6 :: a7 :: a8 :: a9 :: a10 :: a11 :: a12 :: lclr a13 :: some v :: t := rfl
theorem lt14 {a0 a1 a2 a3 a4 a5 a6 a7 a8 a9 a10 a11 a12 a13 a14 : Option Value} {t : LE} {a : Option Value} {v : Value} : est2 (a0 :: a1 :: a2 :: a3 :: a4 :: a5 :: a6 :: a7 :: a8 :: a9 :: a10 :: a11 :: a12 :: a13 :: a14 :: a :: t) 14 v = a0 :: a1 :: a2 :: a3 :: a4 :: a5 :: a6 :: a7 :: a8 :: a9 :: a10 :: a11 :: a12 :: lclr a13 :: some v :: none :: t := rfl
theorem lg15 {a0 a1 a2 a3 a4 a5 a6 a7 a8 a9 a10 a11 a12 a13 a14 a15 : Option Value} {t : LE} : elg (a0 :: a1 :: a2 :: a3 :: a4 :: a5 :: a6 :: a7 :: a8 :: a9 :: a10 :: a11 :: a12 :: a13 :: a14 :: a15 :: t) 15 = a15 := rfl
theorem ls15 {a0 a1 a2 a3 a4 a5 a6 a7 a8 a9 a10 a11 a12 a13 a14 a15 : Option Value} {t : LE} {v : Value} : est1 (a0 :: a1 :: a2 :: a3 :: a4 :: a5 :: a6 :: a7 :: a8 :: a9 :: a10 :: a11 :: a12 :: a13 :: a14 :: a15 :: t) 15 v = a0 :: a1 :: a2 :: a3 :: a4 :: a5 :: a6 :: a7 :: a8 :: a9 :: a10 :: a11 :: a12 :: a13 :: lclr a14 :: some v :: t := rfl
theorem lt15 {a0 a1 a2 a3 a4 a5 a6 a7 a8 a9 a10 a11 a12 a13 a14 a15 : Option Value} {t : LE} {a : Option Value} {v : Value} : est2 (a0 :: a1 :: a2 :: a3 :: a4 :: a5 :: a6 :: a7 :: a8 :: a9 :: a10 :: a11 :: a12 :: a13 :: a14 :: a15 :: a :: t) 15 v = a0 :: a1 :: a2 :: a3 :: a4 :: a5 :: a6 :: a7 :: a8 :: a9 :: a10 :: a11 :: a12 :: a13 :: lclr a14 :: some v :: none :: t := rfl
theorem lg16 {a0 a1 a2 a3 a4 a5 a6 a7 a8 a9 a10 a11 a12 a13 a14 a15 a16 : Option Value} {t : LE} : elg (a0 :: a1 :: a2 :: a3 :: a4 :: a5 :: a6 :: a7 :: a8 :: a9 :: a10 :: a11 :: a12 :: a13 :: a14 :: a15 :: a16 :: t) 16 = a16 := rfl
theorem ls16 {a0 a1 a2 a3 a4 a5 a6 a7 a8 a9 a10 a11 a12 a13 a14 a15 a16 : Option Value} {t : LE} {v : Value} : est1 (a0 :: a1 :: a2 :: a3 :: a4 :: a5 :: a6 :: a7 :: a8 :: a9 :: a10 :: a11 :: a12 :: a13 :: a14 :: a15 :: a16 :: t) 16 v = a0 :: a1 :: a2 :: a3 :: a4 :: a5 :: a6 :: a7 :: a8 :: a9 :: a10 :: a11 :: a12 :: a13 :: a14 :: lclr a15 :: some v :: t := rfl
theorem lt16 {a0 a1 a2 a3 a4 a5 a6 a7 a8 a9 a10 a11 a12 a13 a14 a15 a16 : Option Value} {t : LE} {a : Option Value} {v : Value} : est2 (a0 :: a1 :: a2 :: a3 :: a4 :: a5 :: a6 :: a7 :: a8 :: a9 :: a10 :: a11 :: a12 :: a13 :: a14 :: a15 :: a16 :: a :: t) 16 v = a0 :: a1 :: a2 :: a3 :: a4 :: a5 :: a6 :: a7 :: a8 :: a9 :: a10 :: a11 :: a12 :: a13 :: a14 :: lclr a15 :: some v :: none :: t := rfl
theorem lg17 {a0 a1 a2 a3 a4 a5 a6 a7 a8 a9 a10 a11 a12 a13 a14 a15 a16 a17 : Option Value} {t : LE} : elg (a0 :: a1 :: a2 :: a3 :: a4 :: a5 :: a6 :: a7 :: a8 :: a9 :: a10 :: a11 :: a12 :: a13 :: a14 :: a15 :: a16 :: a17 :: t) 17 = a17 := rfl
theorem ls17 {a0 a1 a2 a3 a4 a5 a6 a7 a8 a9 a10 a11 a12 a13 a14 a15 a16 a17 : Option Value} {t : LE} {v : Value} : est1 (a0 :: a1 :: a2 :: a3 :: a4 :: a5 :: a6 :: a7 :: a8 :: a9 :: a10 :: a11 :: a12 :: a13 :: a14 :: a15 :: a16 :: a17 :: t) 17 v = a0 :: a1 :: a2 :: a3 :: a4 :: a5 :: a6 :: a7 :: a8 :: a9 :: a10 :: a11 :: a12 :: a13 :: a14 :: a15 :: lclr a16 :: some v :: t := rfl
theorem lt17 {a0 a1 a2 a3 a4 a5 a6 a7 a8 a9 a10 a11 a12 a13 a14 a15 a16 a17 : Option Value} {t : LE} {a : Option Value} {v : Value} : est2 (a0 :: a1 :: a2 :: a3 :: a4 :: a5 :: a6 :: a7 :: a8 :: a9 :: a10 :: a11 :: a12 :: a13 :: a14 :: a15 :: a16 :: a17 :: a :: t) 17 v = a0 :: a1 :: a2 :: a3 :: a4 :: a5 :: a6 :: a7 :: a8 :: a9 :: a10 :: a11 :: a12 :: a13 :: a14 :: a15 :: lclr a16 :: some v :: none :: t := rfl
theorem lg18 {a0 a1 a2 a3 a4 a5 a6 a7 a8 a9 a10 a11 a12 a13 a14 a15 a16 a17 a18 : Option Value} {t : LE} : elg (a0 :: a1 :: a2 :: a3 :: a4 :: a5 :: a6 :: a7 :: a8 :: a9 :: a10 :: a11 :: a12 :: a13 :: a14 :: a15 :: a16 :: a17 :: a18 :: t) 18 = a18 := rfl
theorem ls18 {a0 a1 a2 a3 a4 a5 a6 a7 a8 a9 a10 a11 a12 a13 a14 a15 a16 a17 a18 : Option Value} {t : LE} {v : Value} : est1 (a0 :: a1 :: a2 :: a3 :: a4 :: a5 :: a6 :: a7 :: a8 :: a9 :: a10 :: a11 :: a12 :: a13 :: a14 :: a15 :: a16 :: a17 :: a18 :: t) 18 v = a0 :: a1 :: a2 :: a3 :: a4 :: a5 :: a6 :: a7 :: a8 :: a9 :: a10 :: a11 :: a12 :: a13 :: a14 :: a15 :: a16 :: lclr a17 :: some v :: t := rfl
theorem lt18 {a0 a1 a2 a3 a4 a5 a6 a7 a8 a9 a10 a11 a12 a13 a14 a15 a16 a17 a18 : Option Value} {t : LE} {a : Option Value} {v : Value} : est2 (a0 :: a1 :: a2 :: a3 :: a4 :: a5 :: a6 :: a7 :: a8 :: a9 :: a10 :: a11 :: a12 :: a13 :: a14 :: a15 :: a16 :: a17 :: a18 :: a :: t) 18 v = a0 :: a1 :: a2 :: a3 :: a4 :: a5 :: a6 :: a7 :: a8 :: a9 :: a10 :: a11 :: a12 :: a13 :: a14 :: a15 :: a16 :: lclr a17 :: some v :: none :: t := rfl
theorem lg19 {a0 a1 a2 a3 a4 a5 a6 a7 a8 a9 a10 a11 a12 a13 a14 a15 a16 a17 a18 a19 : Option Value} {t : LE} : elg (a0 :: a1 :: a2 :: a3 :: a4 :: a5 :: a6 :: a7 :: a8 :: a9 :: a10 :: a11 :: a12 :: a13 :: a14 :: a15 :: a16 :: a17 :: a18 :: a19 :: t) 19 = a19 := rfl
theorem ls19 {a0 a1 a2 a3 a4 a5 a6 a7 a8 a9 a10 a11 a12 a13 a14 a15 a16 a17 a18 a19 : Option Value} {t : LE} {v : Value} : est1 (a0 :: a1 :: a2 :: a3 :: a4 :: a5 :: a6 :: a7 :: a8 :: a9 :: a10 :: a11 :: a12 :: a13 :: a14 :: a15 :: a16 :: a17 :: a18 :: a19 :: t) 19 v = a0 :: a1 :: a2 :: a3 :: a4 :: a5 :: a6 :: a7 :: a8 :: a9 :: a10 :: a11 :: a12 :: a13 :: a14 :: a15 :: a16 :: a17 :: lclr a18 :: some v :: t := rfl
theorem lt19 {a0 a1 a2 a3 a4 a5 a6 a7 a8 a9 a10 a11 a12 a13 a14 a15 a16 a17 a18 a19 : Option Value} {t : LE} {a : Option Value} {v : Value} : est2 (a0 :: a1 :: a2 :: a3 :: a4 :: a5 :: a6 :: a7 :: a8 :: a9 :: a10 :: a11 :: a12 :: a13 :: a14 :: a15 :: a16 :: a17 :: a18 :: a19 :: a :: t) 19 v = a0 :: a1 :: a2 :: a3 :: a4 :: a5 :: a6 :: a7 :: a8 :: a9 :: a10 :: a11 :: a12 :: a13 :: a14 :: a15 :: a16 :: a17 :: lclr a18 :: some v :: none :: t := rfl
theorem lg20 {a0 a1 a2 a3 a4 a5 a6 a7 a8 a9 a10 a11 a12 a13 a14 a15 a16 a17 a18 a19 a20 : Option Value} {t : LE} : elg (a0 :: a1 :: a2 :: a3 :: a4 :: a5 :: a6 :: a7 :: a8 :: a9 :: a10 :: a11 :: a12 :: a13 :: a14 :: a15 :: a16 :: a17 :: a18 :: a19 :: a20 :: t) 20 = a20 := rfl
theorem ls20 {a0 a1 a2 a3 a4 a5 a6 a7 a8 a9 a10 a11 a12 a13 a14 a15 a16 a17 a18 a19 a20 : Option Value} {t : LE} {v : Value} : est1 (a0 :: a1 :: a2 :: a3 :: a4 :: a5 :: a6 :: a7 :: a8 :: a9 :: a10 :: a11 :: a12 :: a13 :: a14 :: a15 :: a16 :: a17 :: a18 :: a19 :: a20 :: t) 20 v = a0 :: a1 :: a2 :: a3 :: a4 :: a5 :: a6 :: a7 :: a8 :: a9 :: a10 :: a11 :: a12 :: a13 :: a14 :: a15 :: a16 :: a17 :: a18 :: lclr a19 :: some v :: t := rfl
theorem lt20 {a0 a1 a2 a3 a4 a5 a6 a7 a8 a9 a10 a11 a12 a13 a14 a15 a16 a17 a18 a19 a20 : Option Value} {t : LE} {a : Option Value} {v : Value} : est2 (a0 :: a1 :: a2 :: a3 :: a4 :: a5 :: a6 :: a7 :: a8 :: a9 :: a10 :: a11 :: a12 :: a13 :: a14 :: a15 :: a16 :: a17 :: a18 :: a19 :: a20 :: a :: t) 20 v = a0 :: a1 :: a2 :: a3 :: a4 :: a5 :: a6 :: a7 :: a8 :: a9 :: a10 :: a11 :: a12 :: a13 :: a14 :: a15 :: a16 :: a17 :: a18 :: lclr a19 :: some v :: none :: t := rfl
theorem lc_i {x : Int32} : lclr (some (.int x)) = some (.int x) := rfl
theorem lc_r {a : Nat} : lclr (some (.ref a)) = some (.ref a) := rfl
theorem lc_0 : lclr (some .null) = some .null := rfl
theorem lc_n : lclr none = none := rfl
theorem lc_l {x : Int64} : lclr (some (.long x)) = none := rfl
theorem rf_s {a : Nat} : va_rf (some a) = .ref a := rfl
theorem rf_n : va_rf none = .null := rfl
/-! readers of a cell -/
def gI (ci k : Nat) (c : Option FC) (P : Int32 → Prop) : Prop := match c with
  | some (.inr (ci', fs)) => ci' = ci ∧ (match fs[k]? with | some (.int x) => P x | _ => False)
  | _ => False
def gL (ci k : Nat) (c : Option FC) (P : Int64 → Prop) : Prop := match c with
  | some (.inr (ci', fs)) => ci' = ci ∧ (match fs[k]? with | some (.long x) => P x | _ => False)
  | _ => False
def gR (ci k : Nat) (c : Option FC) (P : Option Nat → Prop) : Prop := match c with
  | some (.inr (ci', fs)) => ci' = ci ∧ (match fs[k]? with | some (.ref x) => P (some x) | some .null => P none | _ => False)
  | _ => False
def gO (r : Option Nat) (P : Nat → Prop) : Prop := match r with | some a => P a | none => False
theorem gO_s {a : Nat} {P : Nat → Prop} : gO (some a) P = P a := rfl
theorem gO_iff {r : Option Nat} {P : Nat → Prop} : (∃ a : Nat, r = some a ∧ P a) = gO r P := by
  cases r <;> simp [gO]
theorem gI_iff {ci k : Nat} {r : Option Nat} {h : FH} {Q : Int32 → Prop} : (∃ (a : Nat) (fs : List Value) (x : Int32), r = some a ∧ h.2 a = some (.inr (ci, fs)) ∧ fs[k]? = some (.int x) ∧ Q x) = gO r (fun a => gI ci k (h.2 a) Q) := by
  refine propext ⟨?_, fun q => ?_⟩
  · rintro ⟨a, fs, x, rfl, h1, h2, h3⟩
    simp only [gO, gI, h1, h2, true_and]
    exact h3
  · cases r with
    | none => exact q.elim
    | some a =>
      simp only [gO, gI] at q
      split at q
      · rename_i ci' fs h1
        obtain ⟨rfl, q⟩ := q
        split at q
        · rename_i x h2
          exact ⟨a, fs, x, rfl, h1, h2, q⟩
        · exact q.elim
      · exact q.elim
theorem gI_iff2 {ci k : Nat} {r : Option Nat} {h : FH} {Q : Nat → Int32 → Prop} : (∃ (a : Nat) (fs : List Value) (x : Int32), r = some a ∧ h.2 a = some (.inr (ci, fs)) ∧ fs[k]? = some (.int x) ∧ Q a x) = gO r (fun a => gI ci k (h.2 a) (Q a)) := by
  cases r with
  | none => exact propext ⟨(by rintro ⟨a, fs, x, h1, -⟩; cases h1), fun q => q.elim⟩
  | some a =>
    rw [gO_s, ← gO_s (P := fun a' => gI ci k (h.2 a') (Q a)), ← gI_iff]
    refine propext ⟨?_, ?_⟩
    · rintro ⟨a', fs, x, h1, h2⟩
      cases h1
      exact ⟨a, fs, x, rfl, h2⟩
    · rintro ⟨a', fs, x, h1, h2⟩
      cases h1
      exact ⟨a, fs, x, rfl, h2⟩
theorem gL_iff {ci k : Nat} {r : Option Nat} {h : FH} {Q : Int64 → Prop} : (∃ (a : Nat) (fs : List Value) (x : Int64), r = some a ∧ h.2 a = some (.inr (ci, fs)) ∧ fs[k]? = some (.long x) ∧ Q x) = gO r (fun a => gL ci k (h.2 a) Q) := by
  refine propext ⟨?_, fun q => ?_⟩
  · rintro ⟨a, fs, x, rfl, h1, h2, h3⟩
    simp only [gO, gL, h1, h2, true_and]
    exact h3
  · cases r with
    | none => exact q.elim
    | some a =>
      simp only [gO, gL] at q
      split at q
      · rename_i ci' fs h1
        obtain ⟨rfl, q⟩ := q
        split at q
        · rename_i x h2
          exact ⟨a, fs, x, rfl, h1, h2, q⟩
        · exact q.elim
      · exact q.elim
theorem gR_iff {ci k : Nat} {r : Option Nat} {h : FH} {Q : Option Nat → Prop} : (∃ (a : Nat) (fs : List Value) (x : Option Nat), r = some a ∧ h.2 a = some (.inr (ci, fs)) ∧ fs[k]? = some (va_rf x) ∧ Q x) = gO r (fun a => gR ci k (h.2 a) Q) := by
  refine propext ⟨?_, fun q => ?_⟩
  · rintro ⟨a, fs, x, rfl, h1, h2, h3⟩
    cases x <;> simp only [gO, gR, h1, h2, true_and, va_rf] <;> exact h3
  · cases r with
    | none => exact q.elim
    | some a =>
      simp only [gO, gR] at q
      split at q
      · rename_i ci' fs h1
        obtain ⟨rfl, q⟩ := q
        split at q
        · rename_i x h2
          exact ⟨a, fs, some x, rfl, h1, h2, q⟩
        · rename_i h2
          exact ⟨a, fs, none, rfl, h1, h2, q⟩
        · exact q.elim
      · exact q.elim
def gI2 (v : Option Value) (P : Int32 → Prop) : Prop := match v with | some (.int x) => P x | _ => False
def gL2 (v : Option Value) (P : Int64 → Prop) : Prop := match v with | some (.long x) => P x | _ => False
def gR2 (v : Option Value) (P : Option Nat → Prop) : Prop := match v with | some (.ref x) => P (some x) | some .null => P none | _ => False
theorem gI_c {ci k : Nat} {fs : List Value} {P : Int32 → Prop} : gI ci k (some (.inr (ci, fs))) P = gI2 fs[k]? P := propext ⟨fun q => q.2, fun q => ⟨rfl, q⟩⟩
theorem gL_c {ci k : Nat} {fs : List Value} {P : Int64 → Prop} : gL ci k (some (.inr (ci, fs))) P = gL2 fs[k]? P := propext ⟨fun q => q.2, fun q => ⟨rfl, q⟩⟩
theorem gR_c {ci k : Nat} {fs : List Value} {P : Option Nat → Prop} : gR ci k (some (.inr (ci, fs))) P = gR2 fs[k]? P := propext ⟨fun q => q.2, fun q => ⟨rfl, q⟩⟩
theorem gI2_c {x : Int32} {P : Int32 → Prop} : gI2 (some (.int x)) P = P x := rfl
theorem gL2_c {x : Int64} {P : Int64 → Prop} : gL2 (some (.long x)) P = P x := rfl
theorem gR2_c {x : Nat} {P : Option Nat → Prop} : gR2 (some (.ref x)) P = P (some x) := rfl
theorem gR2_v {x : Option Nat} {P : Option Nat → Prop} : gR2 (some (va_rf x)) P = P x := by cases x <;> rfl
theorem gR2_n {P : Option Nat → Prop} : gR2 (some .null) P = P none := rfl
/-- an array's element -/
def rdI (c : Option FC) (z : Int32) (P : Int32 → Prop) : Prop := ∃ (n : Nat) (f : Nat → Int32) (j : Nat), c = some (aI n f) ∧ z = nI j ∧ j < n ∧ j < 2147483648 ∧ P (f j)
def rdZ (c : Option FC) (z : Int32) (P : Int32 → Prop) : Prop := ∃ (n : Nat) (f : Nat → Int32) (j : Nat), c = some (aZ n f) ∧ z = nI j ∧ j < n ∧ j < 2147483648 ∧ P (f j)
def rdL (c : Option FC) (z : Int32) (P : Int64 → Prop) : Prop := ∃ (n : Nat) (f : Nat → Int64) (j : Nat), c = some (aL n f) ∧ z = nI j ∧ j < n ∧ j < 2147483648 ∧ P (f j)
def rdR (c : Option FC) (z : Int32) (P : Option Nat → Prop) : Prop := ∃ (ty : FieldType) (n : Nat) (f : Nat → Option Nat) (j : Nat), ty.isReference = true ∧ c = some (aR ty n f) ∧ z = nI j ∧ j < n ∧ j < 2147483648 ∧ P (f j)
theorem rdI_c {n j : Nat} {f : Nat → Int32} {P : Int32 → Prop} (h1 : j < n) (h2 : j < 2147483648) : rdI (some (aI n f)) (nI j) P = P (f j) := by
  refine propext ⟨?_, fun q => ⟨n, f, j, rfl, rfl, h1, h2, q⟩⟩
  rintro ⟨n', f', j', h3, h4, h5, h6, q⟩
  cases h3
  cases (nI_eq h2 h6).mp h4
  exact q
theorem rdZ_c {n j : Nat} {f : Nat → Int32} {P : Int32 → Prop} (h1 : j < n) (h2 : j < 2147483648) : rdZ (some (aZ n f)) (nI j) P = P (f j) := by
  refine propext ⟨?_, fun q => ⟨n, f, j, rfl, rfl, h1, h2, q⟩⟩
  rintro ⟨n', f', j', h3, h4, h5, h6, q⟩
  cases h3
  cases (nI_eq h2 h6).mp h4
  exact q
theorem rdL_c {n j : Nat} {f : Nat → Int64} {P : Int64 → Prop} (h1 : j < n) (h2 : j < 2147483648) : rdL (some (aL n f)) (nI j) P = P (f j) := by
  refine propext ⟨?_, fun q => ⟨n, f, j, rfl, rfl, h1, h2, q⟩⟩
  rintro ⟨n', f', j', h3, h4, h5, h6, q⟩
  cases h3
  cases (nI_eq h2 h6).mp h4
  exact q
theorem rdR_c {ty : FieldType} {n j : Nat} {f : Nat → Option Nat} {P : Option Nat → Prop} (ht : ty.isReference = true) (h1 : j < n) (h2 : j < 2147483648) : rdR (some (aR ty n f)) (nI j) P = P (f j) := by
  refine propext ⟨?_, fun q => ⟨ty, n, f, j, ht, rfl, rfl, h1, h2, q⟩⟩
  rintro ⟨ty', n', f', j', ht', h3, h4, h5, h6, q⟩
  cases h3
  cases (nI_eq h2 h6).mp h4
  exact q
