theorem zz_nl_s1 {ls : zz_L} {i : Nat} {v : Value} {o : Option Value} (h : zz_nl o = true) (ho : ls[i]? = some o := by rfl) : zz_s1 ls (i + 1) v = ls.set (i + 1) (some v) := by
  unfold zz_s1
  have e : zz_pl ls (i + 1) = false := by
    simp only [zz_pl, ho]
    match o, h with
    | none, _ => rfl
    | some (.int _), _ => rfl
    | some (.float _), _ => rfl
    | some .null, _ => rfl
    | some (.ref _), _ => rfl
    | some (.retAddr _), _ => rfl
  rw [e]
  rfl
theorem zz_nl_s2 {ls : zz_L} {i : Nat} {v : Value} {o : Option Value} (h : zz_nl o = true) (ho : ls[i]? = some o := by rfl) : zz_s2 ls (i + 1) v = (ls.set (i + 1) (some v)).set (i + 2) none := by
  have e : zz_s2 ls (i + 1) v = (zz_s1 ls (i + 1) v).set (i + 2) none := rfl
  rw [e, zz_nl_s1 h ho]
theorem xco0 : zz_co 0 = 13 := by decide +kernel
theorem xml0 : zz_ml 0 = 4 := by decide +kernel
theorem xrt0 : zz_rt 0 = some .boolean := by decide +kernel
theorem xco1 : zz_co 1 = 10 := by decide +kernel
theorem xml1 : zz_ml 1 = 1 := by decide +kernel
theorem xrt1 : zz_rt 1 = none := by decide +kernel
theorem xco2 : zz_co 2 = 1 := by decide +kernel
theorem xml2 : zz_ml 2 = 1 := by decide +kernel
theorem xrt2 : zz_rt 2 = none := by decide +kernel
theorem xco3 : zz_co 3 = 8 := by decide +kernel
theorem xml3 : zz_ml 3 = 1 := by decide +kernel
theorem xrt3 : zz_rt 3 = none := by decide +kernel
theorem xco4 : zz_co 4 = 7 := by decide +kernel
theorem xml4 : zz_ml 4 = 1 := by decide +kernel
theorem xrt4 : zz_rt 4 = none := by decide +kernel
theorem xco5 : zz_co 5 = 3 := by decide +kernel
theorem xml5 : zz_ml 5 = 1 := by decide +kernel
theorem xrt5 : zz_rt 5 = none := by decide +kernel
theorem xco6 : zz_co 6 = 6 := by decide +kernel
theorem xml6 : zz_ml 6 = 2 := by decide +kernel
theorem xrt6 : zz_rt 6 = none := by decide +kernel
theorem xco7 : zz_co 7 = 15 := by decide +kernel
theorem xml7 : zz_ml 7 = 4 := by decide +kernel
theorem xrt7 : zz_rt 7 = none := by decide +kernel
theorem xco8 : zz_co 8 = 0 := by decide +kernel
theorem xml8 : zz_ml 8 = 1 := by decide +kernel
theorem xrt8 : zz_rt 8 = none := by decide +kernel
theorem xco9 : zz_co 9 = 2 := by decide +kernel
theorem xml9 : zz_ml 9 = 1 := by decide +kernel
theorem xrt9 : zz_rt 9 = none := by decide +kernel
theorem xco10 : zz_co 10 = 9 := by decide +kernel
theorem xml10 : zz_ml 10 = 1 := by decide +kernel
theorem xrt10 : zz_rt 10 = none := by decide +kernel
theorem xco11 : zz_co 11 = 5 := by decide +kernel
theorem xml11 : zz_ml 11 = 1 := by decide +kernel
theorem xrt11 : zz_rt 11 = none := by decide +kernel
theorem xco12 : zz_co 12 = 4 := by decide +kernel
theorem xml12 : zz_ml 12 = 1 := by decide +kernel
theorem xrt12 : zz_rt 12 = none := by decide +kernel
theorem xco13 : zz_co 13 = 10 := by decide +kernel
theorem xml13 : zz_ml 13 = 7 := by decide +kernel
theorem xrt13 : zz_rt 13 = some .int := by decide +kernel
theorem xco14 : zz_co 14 = 8 := by decide +kernel
theorem xml14 : zz_ml 14 = 2 := by decide +kernel
theorem xrt14 : zz_rt 14 = some .boolean := by decide +kernel
theorem xco15 : zz_co 15 = 8 := by decide +kernel
theorem xml15 : zz_ml 15 = 3 := by decide +kernel
theorem xrt15 : zz_rt 15 = none := by decide +kernel
theorem xco16 : zz_co 16 = 10 := by decide +kernel
theorem xml16 : zz_ml 16 = 2 := by decide +kernel
theorem xrt16 : zz_rt 16 = some .int := by decide +kernel
theorem xco17 : zz_co 17 = 10 := by decide +kernel
theorem xml17 : zz_ml 17 = 2 := by decide +kernel
theorem xrt17 : zz_rt 17 = some .int := by decide +kernel
theorem xco18 : zz_co 18 = 5 := by decide +kernel
theorem xml18 : zz_ml 18 = 4 := by decide +kernel
theorem xrt18 : zz_rt 18 = some .boolean := by decide +kernel
theorem xco19 : zz_co 19 = 7 := by decide +kernel
theorem xml19 : zz_ml 19 = 1 := by decide +kernel
theorem xrt19 : zz_rt 19 = none := by decide +kernel
theorem xco20 : zz_co 20 = 3 := by decide +kernel
theorem xml20 : zz_ml 20 = 1 := by decide +kernel
theorem xrt20 : zz_rt 20 = none := by decide +kernel
theorem xco21 : zz_co 21 = 6 := by decide +kernel
theorem xml21 : zz_ml 21 = 1 := by decide +kernel
theorem xrt21 : zz_rt 21 = none := by decide +kernel
theorem xco22 : zz_co 22 = 9 := by decide +kernel
theorem xml22 : zz_ml 22 = 2 := by decide +kernel
theorem xrt22 : zz_rt 22 = none := by decide +kernel
theorem xco23 : zz_co 23 = 9 := by decide +kernel
theorem xml23 : zz_ml 23 = 2 := by decide +kernel
theorem xrt23 : zz_rt 23 = none := by decide +kernel
theorem xco24 : zz_co 24 = 8 := by decide +kernel
theorem xml24 : zz_ml 24 = 2 := by decide +kernel
theorem xrt24 : zz_rt 24 = some .int := by decide +kernel
theorem xco25 : zz_co 25 = 9 := by decide +kernel
theorem xml25 : zz_ml 25 = 1 := by decide +kernel
theorem xrt25 : zz_rt 25 = some .boolean := by decide +kernel
theorem xco26 : zz_co 26 = 9 := by decide +kernel
theorem xml26 : zz_ml 26 = 1 := by decide +kernel
theorem xrt26 : zz_rt 26 = some .boolean := by decide +kernel
theorem xco27 : zz_co 27 = 9 := by decide +kernel
theorem xml27 : zz_ml 27 = 2 := by decide +kernel
theorem xrt27 : zz_rt 27 = none := by decide +kernel
theorem xco28 : zz_co 28 = 9 := by decide +kernel
theorem xml28 : zz_ml 28 = 1 := by decide +kernel
theorem xrt28 : zz_rt 28 = some .int := by decide +kernel
theorem xco29 : zz_co 29 = 9 := by decide +kernel
theorem xml29 : zz_ml 29 = 1 := by decide +kernel
theorem xrt29 : zz_rt 29 = some .boolean := by decide +kernel
theorem xco30 : zz_co 30 = 9 := by decide +kernel
theorem xml30 : zz_ml 30 = 2 := by decide +kernel
theorem xrt30 : zz_rt 30 = none := by decide +kernel
theorem xco31 : zz_co 31 = 9 := by decide +kernel
theorem xml31 : zz_ml 31 = 1 := by decide +kernel
theorem xrt31 : zz_rt 31 = some .int := by decide +kernel
theorem xco32 : zz_co 32 = 5 := by decide +kernel
theorem xml32 : zz_ml 32 = 2 := by decide +kernel
theorem xrt32 : zz_rt 32 = some .boolean := by decide +kernel
theorem xco33 : zz_co 33 = 5 := by decide +kernel
theorem xml33 : zz_ml 33 = 3 := by decide +kernel
theorem xrt33 : zz_rt 33 = some .boolean := by decide +kernel
theorem xco34 : zz_co 34 = 3 := by decide +kernel
theorem xml34 : zz_ml 34 = 1 := by decide +kernel
theorem xrt34 : zz_rt 34 = some .boolean := by decide +kernel
theorem xco35 : zz_co 35 = 9 := by decide +kernel
theorem xml35 : zz_ml 35 = 2 := by decide +kernel
theorem xrt35 : zz_rt 35 = some .boolean := by decide +kernel
theorem xco36 : zz_co 36 = 5 := by decide +kernel
theorem xml36 : zz_ml 36 = 1 := by decide +kernel
theorem xrt36 : zz_rt 36 = some .boolean := by decide +kernel
theorem xco37 : zz_co 37 = 3 := by decide +kernel
theorem xml37 : zz_ml 37 = 4 := by decide +kernel
theorem xrt37 : zz_rt 37 = some .boolean := by decide +kernel
theorem xco38 : zz_co 38 = 3 := by decide +kernel
theorem xml38 : zz_ml 38 = 4 := by decide +kernel
theorem xrt38 : zz_rt 38 = some .int := by decide +kernel
theorem xco39 : zz_co 39 = 3 := by decide +kernel
theorem xml39 : zz_ml 39 = 4 := by decide +kernel
theorem xrt39 : zz_rt 39 = none := by decide +kernel
theorem xco40 : zz_co 40 = 5 := by decide +kernel
theorem xml40 : zz_ml 40 = 4 := by decide +kernel
theorem xrt40 : zz_rt 40 = some .boolean := by decide +kernel
theorem xco41 : zz_co 41 = 3 := by decide +kernel
theorem xml41 : zz_ml 41 = 1 := by decide +kernel
theorem xrt41 : zz_rt 41 = some .boolean := by decide +kernel
theorem xco42 : zz_co 42 = 5 := by decide +kernel
theorem xml42 : zz_ml 42 = 2 := by decide +kernel
theorem xrt42 : zz_rt 42 = some .boolean := by decide +kernel
theorem xco43 : zz_co 43 = 3 := by decide +kernel
theorem xml43 : zz_ml 43 = 4 := by decide +kernel
theorem xrt43 : zz_rt 43 = none := by decide +kernel
theorem xco44 : zz_co 44 = 3 := by decide +kernel
theorem xml44 : zz_ml 44 = 2 := by decide +kernel
theorem xrt44 : zz_rt 44 = some .boolean := by decide +kernel
theorem xco45 : zz_co 45 = 5 := by decide +kernel
theorem xml45 : zz_ml 45 = 3 := by decide +kernel
theorem xrt45 : zz_rt 45 = some .boolean := by decide +kernel
theorem xco46 : zz_co 46 = 5 := by decide +kernel
theorem xml46 : zz_ml 46 = 2 := by decide +kernel
theorem xrt46 : zz_rt 46 = some .boolean := by decide +kernel
theorem xco47 : zz_co 47 = 7 := by decide +kernel
theorem xml47 : zz_ml 47 = 2 := by decide +kernel
theorem xrt47 : zz_rt 47 = some .boolean := by decide +kernel
theorem xco48 : zz_co 48 = 10 := by decide +kernel
theorem xml48 : zz_ml 48 = 1 := by decide +kernel
theorem xrt48 : zz_rt 48 = some .boolean := by decide +kernel
theorem xco49 : zz_co 49 = 5 := by decide +kernel
theorem xml49 : zz_ml 49 = 6 := by decide +kernel
theorem xrt49 : zz_rt 49 = some .boolean := by decide +kernel
theorem xco50 : zz_co 50 = 10 := by decide +kernel
theorem xml50 : zz_ml 50 = 2 := by decide +kernel
theorem xrt50 : zz_rt 50 = some .boolean := by decide +kernel
theorem xco51 : zz_co 51 = 3 := by decide +kernel
theorem xml51 : zz_ml 51 = 5 := by decide +kernel
theorem xrt51 : zz_rt 51 = some .int := by decide +kernel
theorem xco52 : zz_co 52 = 7 := by decide +kernel
theorem xml52 : zz_ml 52 = 6 := by decide +kernel
theorem xrt52 : zz_rt 52 = none := by decide +kernel
theorem xco53 : zz_co 53 = 6 := by decide +kernel
theorem xml53 : zz_ml 53 = 7 := by decide +kernel
theorem xrt53 : zz_rt 53 = none := by decide +kernel
theorem xco54 : zz_co 54 = 6 := by decide +kernel
theorem xml54 : zz_ml 54 = 3 := by decide +kernel
theorem xrt54 : zz_rt 54 = some .boolean := by decide +kernel
theorem xco55 : zz_co 55 = 3 := by decide +kernel
theorem xml55 : zz_ml 55 = 4 := by decide +kernel
theorem xrt55 : zz_rt 55 = some .int := by decide +kernel
theorem xco56 : zz_co 56 = 1 := by decide +kernel
theorem xml56 : zz_ml 56 = 2 := by decide +kernel
theorem xrt56 : zz_rt 56 = none := by decide +kernel
theorem xco57 : zz_co 57 = 7 := by decide +kernel
theorem xml57 : zz_ml 57 = 2 := by decide +kernel
theorem xrt57 : zz_rt 57 = none := by decide +kernel
theorem xco58 : zz_co 58 = 3 := by decide +kernel
theorem xml58 : zz_ml 58 = 2 := by decide +kernel
theorem xrt58 : zz_rt 58 = none := by decide +kernel
theorem xco59 : zz_co 59 = 6 := by decide +kernel
theorem xml59 : zz_ml 59 = 2 := by decide +kernel
theorem xrt59 : zz_rt 59 = none := by decide +kernel
theorem xco60 : zz_co 60 = 0 := by decide +kernel
theorem xml60 : zz_ml 60 = 1 := by decide +kernel
theorem xrt60 : zz_rt 60 = none := by decide +kernel
theorem xco61 : zz_co 61 = 2 := by decide +kernel
theorem xml61 : zz_ml 61 = 1 := by decide +kernel
theorem xrt61 : zz_rt 61 = none := by decide +kernel
theorem xco62 : zz_co 62 = 6 := by decide +kernel
theorem xml62 : zz_ml 62 = 4 := by decide +kernel
theorem xrt62 : zz_rt 62 = some .int := by decide +kernel
theorem xco63 : zz_co 63 = 6 := by decide +kernel
theorem xml63 : zz_ml 63 = 3 := by decide +kernel
theorem xrt63 : zz_rt 63 = some .int := by decide +kernel
theorem xco64 : zz_co 64 = 14 := by decide +kernel
theorem xml64 : zz_ml 64 = 1 := by decide +kernel
theorem xrt64 : zz_rt 64 = some .int := by decide +kernel
theorem xco65 : zz_co 65 = 10 := by decide +kernel
theorem xml65 : zz_ml 65 = 2 := by decide +kernel
theorem xrt65 : zz_rt 65 = some .int := by decide +kernel
theorem xco66 : zz_co 66 = 4 := by decide +kernel
theorem xml66 : zz_ml 66 = 5 := by decide +kernel
theorem xrt66 : zz_rt 66 = some .boolean := by decide +kernel
theorem xco67 : zz_co 67 = 4 := by decide +kernel
theorem xml67 : zz_ml 67 = 2 := by decide +kernel
theorem xrt67 : zz_rt 67 = none := by decide +kernel
theorem xco68 : zz_co 68 = 4 := by decide +kernel
theorem xml68 : zz_ml 68 = 2 := by decide +kernel
theorem xrt68 : zz_rt 68 = some .boolean := by decide +kernel
theorem xco69 : zz_co 69 = 4 := by decide +kernel
theorem xml69 : zz_ml 69 = 3 := by decide +kernel
theorem xrt69 : zz_rt 69 = some .boolean := by decide +kernel
theorem xco70 : zz_co 70 = 6 := by decide +kernel
theorem xml70 : zz_ml 70 = 5 := by decide +kernel
theorem xrt70 : zz_rt 70 = none := by decide +kernel
theorem xco71 : zz_co 71 = 6 := by decide +kernel
theorem xml71 : zz_ml 71 = 4 := by decide +kernel
theorem xrt71 : zz_rt 71 = none := by decide +kernel
theorem xco72 : zz_co 72 = 4 := by decide +kernel
theorem xml72 : zz_ml 72 = 1 := by decide +kernel
theorem xrt72 : zz_rt 72 = none := by decide +kernel
theorem xco73 : zz_co 73 = 4 := by decide +kernel
theorem xml73 : zz_ml 73 = 5 := by decide +kernel
theorem xrt73 : zz_rt 73 = none := by decide +kernel
theorem xco74 : zz_co 74 = 12 := by decide +kernel
theorem xml74 : zz_ml 74 = 4 := by decide +kernel
theorem xrt74 : zz_rt 74 = some .int := by decide +kernel
theorem xco75 : zz_co 75 = 12 := by decide +kernel
theorem xml75 : zz_ml 75 = 2 := by decide +kernel
theorem xrt75 : zz_rt 75 = some .int := by decide +kernel
theorem xco76 : zz_co 76 = 12 := by decide +kernel
theorem xml76 : zz_ml 76 = 3 := by decide +kernel
theorem xrt76 : zz_rt 76 = some .int := by decide +kernel
theorem xco77 : zz_co 77 = 4 := by decide +kernel
theorem xml77 : zz_ml 77 = 1 := by decide +kernel
theorem xrt77 : zz_rt 77 = some .boolean := by decide +kernel
theorem xco78 : zz_co 78 = 4 := by decide +kernel
theorem xml78 : zz_ml 78 = 1 := by decide +kernel
theorem xrt78 : zz_rt 78 = none := by decide +kernel
theorem xco79 : zz_co 79 = 10 := by decide +kernel
theorem xml79 : zz_ml 79 = 2 := by decide +kernel
theorem xrt79 : zz_rt 79 = some .int := by decide +kernel
theorem xco80 : zz_co 80 = 6 := by decide +kernel
theorem xml80 : zz_ml 80 = 4 := by decide +kernel
theorem xrt80 : zz_rt 80 = some .int := by decide +kernel
theorem xco81 : zz_co 81 = 6 := by decide +kernel
theorem xml81 : zz_ml 81 = 7 := by decide +kernel
theorem xrt81 : zz_rt 81 = some .int := by decide +kernel
theorem xco82 : zz_co 82 = 10 := by decide +kernel
theorem xml82 : zz_ml 82 = 4 := by decide +kernel
theorem xrt82 : zz_rt 82 = some .int := by decide +kernel
theorem xco83 : zz_co 83 = 10 := by decide +kernel
theorem xml83 : zz_ml 83 = 2 := by decide +kernel
theorem xrt83 : zz_rt 83 = some .int := by decide +kernel
theorem xco84 : zz_co 84 = 10 := by decide +kernel
theorem xml84 : zz_ml 84 = 3 := by decide +kernel
theorem xrt84 : zz_rt 84 = some .int := by decide +kernel
theorem xco85 : zz_co 85 = 10 := by decide +kernel
theorem xml85 : zz_ml 85 = 1 := by decide +kernel
theorem xrt85 : zz_rt 85 = some .boolean := by decide +kernel
theorem xco86 : zz_co 86 = 10 := by decide +kernel
theorem xml86 : zz_ml 86 = 2 := by decide +kernel
theorem xrt86 : zz_rt 86 = some .int := by decide +kernel
theorem xco87 : zz_co 87 = 1 := by decide +kernel
theorem xml87 : zz_ml 87 = 3 := by decide +kernel
theorem xrt87 : zz_rt 87 = some .int := by decide +kernel
theorem xco88 : zz_co 88 = 10 := by decide +kernel
theorem xml88 : zz_ml 88 = 5 := by decide +kernel
theorem xrt88 : zz_rt 88 = some .int := by decide +kernel
theorem xco89 : zz_co 89 = 2 := by decide +kernel
theorem xml89 : zz_ml 89 = 5 := by decide +kernel
theorem xrt89 : zz_rt 89 = none := by decide +kernel
theorem xco90 : zz_co 90 = 10 := by decide +kernel
theorem xml90 : zz_ml 90 = 1 := by decide +kernel
theorem xrt90 : zz_rt 90 = some .int := by decide +kernel
theorem xco91 : zz_co 91 = 10 := by decide +kernel
theorem xml91 : zz_ml 91 = 2 := by decide +kernel
theorem xrt91 : zz_rt 91 = some .int := by decide +kernel
theorem xco92 : zz_co 92 = 10 := by decide +kernel
theorem xml92 : zz_ml 92 = 6 := by decide +kernel
theorem xrt92 : zz_rt 92 = some .int := by decide +kernel
theorem xco93 : zz_co 93 = 10 := by decide +kernel
theorem xml93 : zz_ml 93 = 4 := by decide +kernel
theorem xrt93 : zz_rt 93 = some .int := by decide +kernel
theorem xco94 : zz_co 94 = 10 := by decide +kernel
theorem xml94 : zz_ml 94 = 4 := by decide +kernel
theorem xrt94 : zz_rt 94 = some .int := by decide +kernel
theorem xco95 : zz_co 95 = 10 := by decide +kernel
theorem xml95 : zz_ml 95 = 4 := by decide +kernel
theorem xrt95 : zz_rt 95 = some .int := by decide +kernel
theorem xco96 : zz_co 96 = 10 := by decide +kernel
theorem xml96 : zz_ml 96 = 5 := by decide +kernel
theorem xrt96 : zz_rt 96 = some .int := by decide +kernel
theorem xco97 : zz_co 97 = 3 := by decide +kernel
theorem xml97 : zz_ml 97 = 2 := by decide +kernel
theorem xrt97 : zz_rt 97 = some .boolean := by decide +kernel
theorem xco98 : zz_co 98 = 10 := by decide +kernel
theorem xml98 : zz_ml 98 = 3 := by decide +kernel
theorem xrt98 : zz_rt 98 = some .int := by decide +kernel
theorem xco99 : zz_co 99 = 10 := by decide +kernel
theorem xml99 : zz_ml 99 = 1 := by decide +kernel
theorem xrt99 : zz_rt 99 = some .int := by decide +kernel
theorem xco100 : zz_co 100 = 2 := by decide +kernel
theorem xml100 : zz_ml 100 = 3 := by decide +kernel
theorem xrt100 : zz_rt 100 = none := by decide +kernel
theorem xco101 : zz_co 101 = 10 := by decide +kernel
theorem xml101 : zz_ml 101 = 3 := by decide +kernel
theorem xrt101 : zz_rt 101 = some .int := by decide +kernel
theorem xco102 : zz_co 102 = 1 := by decide +kernel
theorem xml102 : zz_ml 102 = 6 := by decide +kernel
theorem xrt102 : zz_rt 102 = some .int := by decide +kernel
theorem xco103 : zz_co 103 = 1 := by decide +kernel
theorem xml103 : zz_ml 103 = 6 := by decide +kernel
theorem xrt103 : zz_rt 103 = some .int := by decide +kernel
theorem xco104 : zz_co 104 = 0 := by decide +kernel
theorem xml104 : zz_ml 104 = 13 := by decide +kernel
theorem xrt104 : zz_rt 104 = some .int := by decide +kernel
theorem xco105 : zz_co 105 = 7 := by decide +kernel
theorem xml105 : zz_ml 105 = 3 := by decide +kernel
theorem xrt105 : zz_rt 105 = some .int := by decide +kernel
theorem xco106 : zz_co 106 = 7 := by decide +kernel
theorem xml106 : zz_ml 106 = 4 := by decide +kernel
theorem xrt106 : zz_rt 106 = some .int := by decide +kernel
theorem xco107 : zz_co 107 = 6 := by decide +kernel
theorem xml107 : zz_ml 107 = 6 := by decide +kernel
theorem xrt107 : zz_rt 107 = some .int := by decide +kernel
theorem xco108 : zz_co 108 = 12 := by decide +kernel
theorem xml108 : zz_ml 108 = 2 := by decide +kernel
theorem xrt108 : zz_rt 108 = some .int := by decide +kernel
theorem xco109 : zz_co 109 = 12 := by decide +kernel
theorem xml109 : zz_ml 109 = 1 := by decide +kernel
theorem xrt109 : zz_rt 109 = some .int := by decide +kernel
theorem xco110 : zz_co 110 = 7 := by decide +kernel
theorem xml110 : zz_ml 110 = 3 := by decide +kernel
theorem xrt110 : zz_rt 110 = some .int := by decide +kernel
theorem xco111 : zz_co 111 = 10 := by decide +kernel
theorem xml111 : zz_ml 111 = 4 := by decide +kernel
theorem xrt111 : zz_rt 111 = some .int := by decide +kernel
theorem xco112 : zz_co 112 = 10 := by decide +kernel
theorem xml112 : zz_ml 112 = 2 := by decide +kernel
theorem xrt112 : zz_rt 112 = none := by decide +kernel
theorem xco113 : zz_co 113 = 10 := by decide +kernel
theorem xml113 : zz_ml 113 = 4 := by decide +kernel
theorem xrt113 : zz_rt 113 = some .int := by decide +kernel
theorem xco114 : zz_co 114 = 10 := by decide +kernel
theorem xml114 : zz_ml 114 = 3 := by decide +kernel
theorem xrt114 : zz_rt 114 = some .int := by decide +kernel
theorem xco115 : zz_co 115 = 10 := by decide +kernel
theorem xml115 : zz_ml 115 = 7 := by decide +kernel
theorem xrt115 : zz_rt 115 = some .int := by decide +kernel
theorem xco116 : zz_co 116 = 10 := by decide +kernel
theorem xml116 : zz_ml 116 = 4 := by decide +kernel
theorem xrt116 : zz_rt 116 = some .int := by decide +kernel
theorem xco117 : zz_co 117 = 0 := by decide +kernel
theorem xml117 : zz_ml 117 = 5 := by decide +kernel
theorem xrt117 : zz_rt 117 = some .int := by decide +kernel
theorem xco118 : zz_co 118 = 9 := by decide +kernel
theorem xml118 : zz_ml 118 = 3 := by decide +kernel
theorem xrt118 : zz_rt 118 = some .int := by decide +kernel
theorem xco119 : zz_co 119 = 9 := by decide +kernel
theorem xml119 : zz_ml 119 = 4 := by decide +kernel
theorem xrt119 : zz_rt 119 = some .int := by decide +kernel
theorem xco120 : zz_co 120 = 10 := by decide +kernel
theorem xml120 : zz_ml 120 = 5 := by decide +kernel
theorem xrt120 : zz_rt 120 = some .int := by decide +kernel
theorem xco121 : zz_co 121 = 7 := by decide +kernel
theorem xml121 : zz_ml 121 = 4 := by decide +kernel
theorem xrt121 : zz_rt 121 = some .int := by decide +kernel
theorem xco122 : zz_co 122 = 10 := by decide +kernel
theorem xml122 : zz_ml 122 = 4 := by decide +kernel
theorem xrt122 : zz_rt 122 = some .int := by decide +kernel
theorem xco123 : zz_co 123 = 10 := by decide +kernel
theorem xml123 : zz_ml 123 = 5 := by decide +kernel
theorem xrt123 : zz_rt 123 = some .int := by decide +kernel
theorem xco124 : zz_co 124 = 10 := by decide +kernel
theorem xml124 : zz_ml 124 = 4 := by decide +kernel
theorem xrt124 : zz_rt 124 = some .int := by decide +kernel
theorem xco125 : zz_co 125 = 10 := by decide +kernel
theorem xml125 : zz_ml 125 = 3 := by decide +kernel
theorem xrt125 : zz_rt 125 = some .boolean := by decide +kernel
theorem xco126 : zz_co 126 = 6 := by decide +kernel
theorem xml126 : zz_ml 126 = 3 := by decide +kernel
theorem xrt126 : zz_rt 126 = some .boolean := by decide +kernel
theorem xco127 : zz_co 127 = 10 := by decide +kernel
theorem xml127 : zz_ml 127 = 3 := by decide +kernel
theorem xrt127 : zz_rt 127 = some .int := by decide +kernel
theorem xco128 : zz_co 128 = 10 := by decide +kernel
theorem xml128 : zz_ml 128 = 4 := by decide +kernel
theorem xrt128 : zz_rt 128 = some .int := by decide +kernel
theorem xco129 : zz_co 129 = 10 := by decide +kernel
theorem xml129 : zz_ml 129 = 4 := by decide +kernel
theorem xrt129 : zz_rt 129 = some .int := by decide +kernel
theorem xco130 : zz_co 130 = 10 := by decide +kernel
theorem xml130 : zz_ml 130 = 5 := by decide +kernel
theorem xrt130 : zz_rt 130 = some .int := by decide +kernel
theorem xco131 : zz_co 131 = 10 := by decide +kernel
theorem xml131 : zz_ml 131 = 3 := by decide +kernel
theorem xrt131 : zz_rt 131 = some .int := by decide +kernel
theorem xco132 : zz_co 132 = 10 := by decide +kernel
theorem xml132 : zz_ml 132 = 5 := by decide +kernel
theorem xrt132 : zz_rt 132 = some .int := by decide +kernel
theorem xco133 : zz_co 133 = 6 := by decide +kernel
theorem xml133 : zz_ml 133 = 6 := by decide +kernel
theorem xrt133 : zz_rt 133 = some .int := by decide +kernel
theorem xco134 : zz_co 134 = 6 := by decide +kernel
theorem xml134 : zz_ml 134 = 6 := by decide +kernel
theorem xrt134 : zz_rt 134 = some .int := by decide +kernel
theorem xco135 : zz_co 135 = 10 := by decide +kernel
theorem xml135 : zz_ml 135 = 2 := by decide +kernel
theorem xrt135 : zz_rt 135 = some .int := by decide +kernel
theorem xco136 : zz_co 136 = 7 := by decide +kernel
theorem xml136 : zz_ml 136 = 8 := by decide +kernel
theorem xrt136 : zz_rt 136 = some .int := by decide +kernel
theorem xco137 : zz_co 137 = 10 := by decide +kernel
theorem xml137 : zz_ml 137 = 5 := by decide +kernel
theorem xrt137 : zz_rt 137 = some .int := by decide +kernel
theorem xco138 : zz_co 138 = 7 := by decide +kernel
theorem xml138 : zz_ml 138 = 4 := by decide +kernel
theorem xrt138 : zz_rt 138 = some .int := by decide +kernel
theorem xco139 : zz_co 139 = 7 := by decide +kernel
theorem xml139 : zz_ml 139 = 3 := by decide +kernel
theorem xrt139 : zz_rt 139 = some .int := by decide +kernel
theorem xco140 : zz_co 140 = 7 := by decide +kernel
theorem xml140 : zz_ml 140 = 6 := by decide +kernel
theorem xrt140 : zz_rt 140 = some .boolean := by decide +kernel
theorem xco141 : zz_co 141 = 7 := by decide +kernel
theorem xml141 : zz_ml 141 = 4 := by decide +kernel
theorem xrt141 : zz_rt 141 = some .int := by decide +kernel
theorem xco142 : zz_co 142 = 7 := by decide +kernel
theorem xml142 : zz_ml 142 = 5 := by decide +kernel
theorem xrt142 : zz_rt 142 = some .int := by decide +kernel
theorem xco143 : zz_co 143 = 10 := by decide +kernel
theorem xml143 : zz_ml 143 = 2 := by decide +kernel
theorem xrt143 : zz_rt 143 = some .int := by decide +kernel
theorem xco144 : zz_co 144 = 7 := by decide +kernel
theorem xml144 : zz_ml 144 = 5 := by decide +kernel
theorem xrt144 : zz_rt 144 = some .int := by decide +kernel
theorem xco145 : zz_co 145 = 10 := by decide +kernel
theorem xml145 : zz_ml 145 = 4 := by decide +kernel
theorem xrt145 : zz_rt 145 = some .int := by decide +kernel
theorem xco146 : zz_co 146 = 7 := by decide +kernel
theorem xml146 : zz_ml 146 = 2 := by decide +kernel
theorem xrt146 : zz_rt 146 = some .int := by decide +kernel
theorem xco147 : zz_co 147 = 10 := by decide +kernel
theorem xml147 : zz_ml 147 = 2 := by decide +kernel
theorem xrt147 : zz_rt 147 = some .boolean := by decide +kernel
theorem xco148 : zz_co 148 = 1 := by decide +kernel
theorem xml148 : zz_ml 148 = 2 := by decide +kernel
theorem xrt148 : zz_rt 148 = none := by decide +kernel
theorem xco149 : zz_co 149 = 8 := by decide +kernel
theorem xml149 : zz_ml 149 = 2 := by decide +kernel
theorem xrt149 : zz_rt 149 = none := by decide +kernel
theorem xco150 : zz_co 150 = 0 := by decide +kernel
theorem xml150 : zz_ml 150 = 2 := by decide +kernel
theorem xrt150 : zz_rt 150 = none := by decide +kernel
theorem xco151 : zz_co 151 = 10 := by decide +kernel
theorem xml151 : zz_ml 151 = 2 := by decide +kernel
theorem xrt151 : zz_rt 151 = some .boolean := by decide +kernel
theorem xco152 : zz_co 152 = 11 := by decide +kernel
theorem xml152 : zz_ml 152 = 1 := by decide +kernel
theorem xrt152 : zz_rt 152 = none := by decide +kernel
theorem xco153 : zz_co 153 = 11 := by decide +kernel
theorem xml153 : zz_ml 153 = 2 := by decide +kernel
theorem xrt153 : zz_rt 153 = some .int := by decide +kernel
theorem xco154 : zz_co 154 = 11 := by decide +kernel
theorem xml154 : zz_ml 154 = 3 := by decide +kernel
theorem xrt154 : zz_rt 154 = some .boolean := by decide +kernel
theorem xco155 : zz_co 155 = 11 := by decide +kernel
theorem xml155 : zz_ml 155 = 5 := by decide +kernel
theorem xrt155 : zz_rt 155 = some .int := by decide +kernel
theorem xco156 : zz_co 156 = 11 := by decide +kernel
theorem xml156 : zz_ml 156 = 5 := by decide +kernel
theorem xrt156 : zz_rt 156 = none := by decide +kernel
theorem xco157 : zz_co 157 = 11 := by decide +kernel
theorem xml157 : zz_ml 157 = 4 := by decide +kernel
theorem xrt157 : zz_rt 157 = some .boolean := by decide +kernel
theorem xco158 : zz_co 158 = 11 := by decide +kernel
theorem xml158 : zz_ml 158 = 1 := by decide +kernel
theorem xrt158 : zz_rt 158 = some .int := by decide +kernel
theorem xco159 : zz_co 159 = 11 := by decide +kernel
theorem xml159 : zz_ml 159 = 4 := by decide +kernel
theorem xrt159 : zz_rt 159 = some .int := by decide +kernel
theorem xco160 : zz_co 160 = 11 := by decide +kernel
theorem xml160 : zz_ml 160 = 3 := by decide +kernel
theorem xrt160 : zz_rt 160 = some .int := by decide +kernel
theorem xco161 : zz_co 161 = 11 := by decide +kernel
theorem xml161 : zz_ml 161 = 3 := by decide +kernel
theorem xrt161 : zz_rt 161 = some .int := by decide +kernel
theorem xco162 : zz_co 162 = 11 := by decide +kernel
theorem xml162 : zz_ml 162 = 4 := by decide +kernel
theorem xrt162 : zz_rt 162 = some .int := by decide +kernel
theorem xco163 : zz_co 163 = 11 := by decide +kernel
theorem xml163 : zz_ml 163 = 1 := by decide +kernel
theorem xrt163 : zz_rt 163 = some .int := by decide +kernel
theorem xco164 : zz_co 164 = 11 := by decide +kernel
theorem xml164 : zz_ml 164 = 1 := by decide +kernel
theorem xrt164 : zz_rt 164 = some .int := by decide +kernel
theorem xco165 : zz_co 165 = 11 := by decide +kernel
theorem xml165 : zz_ml 165 = 3 := by decide +kernel
theorem xrt165 : zz_rt 165 = some .int := by decide +kernel
theorem xco166 : zz_co 166 = 11 := by decide +kernel
theorem xml166 : zz_ml 166 = 1 := by decide +kernel
theorem xrt166 : zz_rt 166 = some .int := by decide +kernel
theorem xco167 : zz_co 167 = 11 := by decide +kernel
theorem xml167 : zz_ml 167 = 4 := by decide +kernel
theorem xrt167 : zz_rt 167 = none := by decide +kernel
theorem xco168 : zz_co 168 = 11 := by decide +kernel
theorem xml168 : zz_ml 168 = 6 := by decide +kernel
theorem xrt168 : zz_rt 168 = none := by decide +kernel
theorem xco169 : zz_co 169 = 11 := by decide +kernel
theorem xml169 : zz_ml 169 = 1 := by decide +kernel
theorem xrt169 : zz_rt 169 = some .int := by decide +kernel
theorem xco170 : zz_co 170 = 11 := by decide +kernel
theorem xml170 : zz_ml 170 = 2 := by decide +kernel
theorem xrt170 : zz_rt 170 = some .int := by decide +kernel
theorem xco171 : zz_co 171 = 11 := by decide +kernel
theorem xml171 : zz_ml 171 = 2 := by decide +kernel
theorem xrt171 : zz_rt 171 = some .int := by decide +kernel
theorem xco172 : zz_co 172 = 11 := by decide +kernel
theorem xml172 : zz_ml 172 = 3 := by decide +kernel
theorem xrt172 : zz_rt 172 = some .int := by decide +kernel
theorem xco173 : zz_co 173 = 11 := by decide +kernel
theorem xml173 : zz_ml 173 = 4 := by decide +kernel
theorem xrt173 : zz_rt 173 = some .int := by decide +kernel
theorem xco174 : zz_co 174 = 11 := by decide +kernel
theorem xml174 : zz_ml 174 = 2 := by decide +kernel
theorem xrt174 : zz_rt 174 = some .boolean := by decide +kernel
theorem xco175 : zz_co 175 = 11 := by decide +kernel
theorem xml175 : zz_ml 175 = 4 := by decide +kernel
theorem xrt175 : zz_rt 175 = some .int := by decide +kernel
theorem xco176 : zz_co 176 = 11 := by decide +kernel
theorem xml176 : zz_ml 176 = 3 := by decide +kernel
theorem xrt176 : zz_rt 176 = some .boolean := by decide +kernel
theorem xco177 : zz_co 177 = 11 := by decide +kernel
theorem xml177 : zz_ml 177 = 3 := by decide +kernel
theorem xrt177 : zz_rt 177 = some .int := by decide +kernel
theorem xco178 : zz_co 178 = 11 := by decide +kernel
theorem xml178 : zz_ml 178 = 7 := by decide +kernel
theorem xrt178 : zz_rt 178 = some .int := by decide +kernel
theorem xco179 : zz_co 179 = 11 := by decide +kernel
theorem xml179 : zz_ml 179 = 6 := by decide +kernel
theorem xrt179 : zz_rt 179 = some .int := by decide +kernel
theorem xco180 : zz_co 180 = 11 := by decide +kernel
theorem xml180 : zz_ml 180 = 2 := by decide +kernel
theorem xrt180 : zz_rt 180 = some .boolean := by decide +kernel
theorem xco181 : zz_co 181 = 11 := by decide +kernel
theorem xml181 : zz_ml 181 = 3 := by decide +kernel
theorem xrt181 : zz_rt 181 = some .int := by decide +kernel
theorem xco182 : zz_co 182 = 11 := by decide +kernel
theorem xml182 : zz_ml 182 = 6 := by decide +kernel
theorem xrt182 : zz_rt 182 = some .int := by decide +kernel
theorem xco183 : zz_co 183 = 11 := by decide +kernel
theorem xml183 : zz_ml 183 = 2 := by decide +kernel
theorem xrt183 : zz_rt 183 = some .boolean := by decide +kernel
theorem xco184 : zz_co 184 = 11 := by decide +kernel
theorem xml184 : zz_ml 184 = 2 := by decide +kernel
theorem xrt184 : zz_rt 184 = some .int := by decide +kernel
theorem xco185 : zz_co 185 = 11 := by decide +kernel
theorem xml185 : zz_ml 185 = 5 := by decide +kernel
theorem xrt185 : zz_rt 185 = some .int := by decide +kernel
theorem xco186 : zz_co 186 = 11 := by decide +kernel
theorem xml186 : zz_ml 186 = 5 := by decide +kernel
theorem xrt186 : zz_rt 186 = some .int := by decide +kernel
theorem xco187 : zz_co 187 = 11 := by decide +kernel
theorem xml187 : zz_ml 187 = 2 := by decide +kernel
theorem xrt187 : zz_rt 187 = some .boolean := by decide +kernel
theorem xco188 : zz_co 188 = 11 := by decide +kernel
theorem xml188 : zz_ml 188 = 1 := by decide +kernel
theorem xrt188 : zz_rt 188 = some .boolean := by decide +kernel
theorem xco189 : zz_co 189 = 11 := by decide +kernel
theorem xml189 : zz_ml 189 = 3 := by decide +kernel
theorem xrt189 : zz_rt 189 = some .boolean := by decide +kernel
theorem xco190 : zz_co 190 = 11 := by decide +kernel
theorem xml190 : zz_ml 190 = 2 := by decide +kernel
theorem xrt190 : zz_rt 190 = some .boolean := by decide +kernel
theorem xco191 : zz_co 191 = 11 := by decide +kernel
theorem xml191 : zz_ml 191 = 3 := by decide +kernel
theorem xrt191 : zz_rt 191 = some .boolean := by decide +kernel
theorem xco192 : zz_co 192 = 11 := by decide +kernel
theorem xml192 : zz_ml 192 = 7 := by decide +kernel
theorem xrt192 : zz_rt 192 = some .int := by decide +kernel
theorem xco193 : zz_co 193 = 11 := by decide +kernel
theorem xml193 : zz_ml 193 = 5 := by decide +kernel
theorem xrt193 : zz_rt 193 = some .int := by decide +kernel
theorem xco194 : zz_co 194 = 11 := by decide +kernel
theorem xml194 : zz_ml 194 = 5 := by decide +kernel
theorem xrt194 : zz_rt 194 = some .int := by decide +kernel
theorem xco195 : zz_co 195 = 11 := by decide +kernel
theorem xml195 : zz_ml 195 = 5 := by decide +kernel
theorem xrt195 : zz_rt 195 = some .int := by decide +kernel
theorem xco196 : zz_co 196 = 11 := by decide +kernel
theorem xml196 : zz_ml 196 = 3 := by decide +kernel
theorem xrt196 : zz_rt 196 = some .int := by decide +kernel
theorem xco197 : zz_co 197 = 11 := by decide +kernel
theorem xml197 : zz_ml 197 = 6 := by decide +kernel
theorem xrt197 : zz_rt 197 = some .int := by decide +kernel
theorem xco198 : zz_co 198 = 11 := by decide +kernel
theorem xml198 : zz_ml 198 = 8 := by decide +kernel
theorem xrt198 : zz_rt 198 = some .int := by decide +kernel
theorem xco199 : zz_co 199 = 11 := by decide +kernel
theorem xml199 : zz_ml 199 = 5 := by decide +kernel
theorem xrt199 : zz_rt 199 = some .int := by decide +kernel
theorem xco200 : zz_co 200 = 11 := by decide +kernel
theorem xml200 : zz_ml 200 = 5 := by decide +kernel
theorem xrt200 : zz_rt 200 = some .boolean := by decide +kernel
theorem xco201 : zz_co 201 = 11 := by decide +kernel
theorem xml201 : zz_ml 201 = 4 := by decide +kernel
theorem xrt201 : zz_rt 201 = some .boolean := by decide +kernel
theorem xco202 : zz_co 202 = 11 := by decide +kernel
theorem xml202 : zz_ml 202 = 4 := by decide +kernel
theorem xrt202 : zz_rt 202 = some .int := by decide +kernel
theorem xco203 : zz_co 203 = 11 := by decide +kernel
theorem xml203 : zz_ml 203 = 4 := by decide +kernel
theorem xrt203 : zz_rt 203 = some .int := by decide +kernel
theorem xco204 : zz_co 204 = 11 := by decide +kernel
theorem xml204 : zz_ml 204 = 4 := by decide +kernel
theorem xrt204 : zz_rt 204 = some .int := by decide +kernel
theorem xco205 : zz_co 205 = 11 := by decide +kernel
theorem xml205 : zz_ml 205 = 3 := by decide +kernel
theorem xrt205 : zz_rt 205 = some .int := by decide +kernel
theorem xco206 : zz_co 206 = 11 := by decide +kernel
theorem xml206 : zz_ml 206 = 1 := by decide +kernel
theorem xrt206 : zz_rt 206 = none := by decide +kernel
theorem xco207 : zz_co 207 = 11 := by decide +kernel
theorem xml207 : zz_ml 207 = 5 := by decide +kernel
theorem xrt207 : zz_rt 207 = none := by decide +kernel
theorem xco208 : zz_co 208 = 11 := by decide +kernel
theorem xml208 : zz_ml 208 = 3 := by decide +kernel
theorem xrt208 : zz_rt 208 = none := by decide +kernel
theorem xco209 : zz_co 209 = 11 := by decide +kernel
theorem xml209 : zz_ml 209 = 4 := by decide +kernel
theorem xrt209 : zz_rt 209 = some .int := by decide +kernel
theorem xco210 : zz_co 210 = 11 := by decide +kernel
theorem xml210 : zz_ml 210 = 7 := by decide +kernel
theorem xrt210 : zz_rt 210 = some .int := by decide +kernel
theorem xco211 : zz_co 211 = 11 := by decide +kernel
theorem xml211 : zz_ml 211 = 6 := by decide +kernel
theorem xrt211 : zz_rt 211 = some .int := by decide +kernel
theorem xco212 : zz_co 212 = 11 := by decide +kernel
theorem xml212 : zz_ml 212 = 5 := by decide +kernel
theorem xrt212 : zz_rt 212 = some .int := by decide +kernel
theorem xco213 : zz_co 213 = 11 := by decide +kernel
theorem xml213 : zz_ml 213 = 4 := by decide +kernel
theorem xrt213 : zz_rt 213 = some .int := by decide +kernel
theorem xco214 : zz_co 214 = 11 := by decide +kernel
theorem xml214 : zz_ml 214 = 4 := by decide +kernel
theorem xrt214 : zz_rt 214 = some .int := by decide +kernel
theorem xco215 : zz_co 215 = 11 := by decide +kernel
theorem xml215 : zz_ml 215 = 5 := by decide +kernel
theorem xrt215 : zz_rt 215 = some .int := by decide +kernel
theorem xco216 : zz_co 216 = 11 := by decide +kernel
theorem xml216 : zz_ml 216 = 3 := by decide +kernel
theorem xrt216 : zz_rt 216 = some .int := by decide +kernel
theorem xco217 : zz_co 217 = 11 := by decide +kernel
theorem xml217 : zz_ml 217 = 1 := by decide +kernel
theorem xrt217 : zz_rt 217 = some .int := by decide +kernel
theorem xco218 : zz_co 218 = 11 := by decide +kernel
theorem xml218 : zz_ml 218 = 8 := by decide +kernel
theorem xrt218 : zz_rt 218 = some .int := by decide +kernel
theorem xco219 : zz_co 219 = 11 := by decide +kernel
theorem xml219 : zz_ml 219 = 2 := by decide +kernel
theorem xrt219 : zz_rt 219 = some .int := by decide +kernel
theorem xco220 : zz_co 220 = 11 := by decide +kernel
theorem xml220 : zz_ml 220 = 2 := by decide +kernel
theorem xrt220 : zz_rt 220 = some .int := by decide +kernel
theorem xco221 : zz_co 221 = 11 := by decide +kernel
theorem xml221 : zz_ml 221 = 2 := by decide +kernel
theorem xrt221 : zz_rt 221 = some .int := by decide +kernel
theorem xco222 : zz_co 222 = 11 := by decide +kernel
theorem xml222 : zz_ml 222 = 1 := by decide +kernel
theorem xrt222 : zz_rt 222 = none := by decide +kernel
theorem xco223 : zz_co 223 = 11 := by decide +kernel
theorem xml223 : zz_ml 223 = 2 := by decide +kernel
theorem xrt223 : zz_rt 223 = none := by decide +kernel
theorem xco224 : zz_co 224 = 11 := by decide +kernel
theorem xml224 : zz_ml 224 = 2 := by decide +kernel
theorem xrt224 : zz_rt 224 = some .int := by decide +kernel
theorem xco225 : zz_co 225 = 11 := by decide +kernel
theorem xml225 : zz_ml 225 = 1 := by decide +kernel
theorem xrt225 : zz_rt 225 = some .boolean := by decide +kernel
theorem xco226 : zz_co 226 = 11 := by decide +kernel
theorem xml226 : zz_ml 226 = 1 := by decide +kernel
theorem xrt226 : zz_rt 226 = some .boolean := by decide +kernel
theorem xco227 : zz_co 227 = 11 := by decide +kernel
theorem xml227 : zz_ml 227 = 1 := by decide +kernel
theorem xrt227 : zz_rt 227 = some .boolean := by decide +kernel
theorem xco228 : zz_co 228 = 11 := by decide +kernel
theorem xml228 : zz_ml 228 = 1 := by decide +kernel
theorem xrt228 : zz_rt 228 = none := by decide +kernel
theorem xco229 : zz_co 229 = 11 := by decide +kernel
theorem xml229 : zz_ml 229 = 3 := by decide +kernel
theorem xrt229 : zz_rt 229 = some .boolean := by decide +kernel
theorem xco230 : zz_co 230 = 11 := by decide +kernel
theorem xml230 : zz_ml 230 = 4 := by decide +kernel
theorem xrt230 : zz_rt 230 = none := by decide +kernel
theorem xco231 : zz_co 231 = 11 := by decide +kernel
theorem xml231 : zz_ml 231 = 3 := by decide +kernel
theorem xrt231 : zz_rt 231 = none := by decide +kernel
theorem xco232 : zz_co 232 = 11 := by decide +kernel
theorem xml232 : zz_ml 232 = 3 := by decide +kernel
theorem xrt232 : zz_rt 232 = none := by decide +kernel
theorem xco233 : zz_co 233 = 11 := by decide +kernel
theorem xml233 : zz_ml 233 = 1 := by decide +kernel
theorem xrt233 : zz_rt 233 = some .boolean := by decide +kernel
theorem xco234 : zz_co 234 = 11 := by decide +kernel
theorem xml234 : zz_ml 234 = 2 := by decide +kernel
theorem xrt234 : zz_rt 234 = some .boolean := by decide +kernel
theorem xco235 : zz_co 235 = 11 := by decide +kernel
theorem xml235 : zz_ml 235 = 5 := by decide +kernel
theorem xrt235 : zz_rt 235 = some .int := by decide +kernel
theorem xco236 : zz_co 236 = 11 := by decide +kernel
theorem xml236 : zz_ml 236 = 5 := by decide +kernel
theorem xrt236 : zz_rt 236 = some .long := by decide +kernel
theorem xco237 : zz_co 237 = 11 := by decide +kernel
theorem xml237 : zz_ml 237 = 5 := by decide +kernel
theorem xrt237 : zz_rt 237 = some .int := by decide +kernel
theorem xco238 : zz_co 238 = 11 := by decide +kernel
theorem xml238 : zz_ml 238 = 5 := by decide +kernel
theorem xrt238 : zz_rt 238 = none := by decide +kernel
theorem xco239 : zz_co 239 = 11 := by decide +kernel
theorem xml239 : zz_ml 239 = 4 := by decide +kernel
theorem xrt239 : zz_rt 239 = some .boolean := by decide +kernel
theorem xco240 : zz_co 240 = 11 := by decide +kernel
theorem xml240 : zz_ml 240 = 3 := by decide +kernel
theorem xrt240 : zz_rt 240 = none := by decide +kernel
theorem xco241 : zz_co 241 = 11 := by decide +kernel
theorem xml241 : zz_ml 241 = 3 := by decide +kernel
theorem xrt241 : zz_rt 241 = some .int := by decide +kernel
theorem xco242 : zz_co 242 = 11 := by decide +kernel
theorem xml242 : zz_ml 242 = 3 := by decide +kernel
theorem xrt242 : zz_rt 242 = none := by decide +kernel
theorem xco243 : zz_co 243 = 11 := by decide +kernel
theorem xml243 : zz_ml 243 = 3 := by decide +kernel
theorem xrt243 : zz_rt 243 = some .boolean := by decide +kernel
theorem xco244 : zz_co 244 = 11 := by decide +kernel
theorem xml244 : zz_ml 244 = 2 := by decide +kernel
theorem xrt244 : zz_rt 244 = some .boolean := by decide +kernel
theorem xco245 : zz_co 245 = 11 := by decide +kernel
theorem xml245 : zz_ml 245 = 3 := by decide +kernel
theorem xrt245 : zz_rt 245 = some .int := by decide +kernel
theorem xco246 : zz_co 246 = 11 := by decide +kernel
theorem xml246 : zz_ml 246 = 1 := by decide +kernel
theorem xrt246 : zz_rt 246 = none := by decide +kernel
theorem xco247 : zz_co 247 = 11 := by decide +kernel
theorem xml247 : zz_ml 247 = 4 := by decide +kernel
theorem xrt247 : zz_rt 247 = some .boolean := by decide +kernel
theorem xco248 : zz_co 248 = 11 := by decide +kernel
theorem xml248 : zz_ml 248 = 3 := by decide +kernel
theorem xrt248 : zz_rt 248 = none := by decide +kernel
theorem xco249 : zz_co 249 = 11 := by decide +kernel
theorem xml249 : zz_ml 249 = 4 := by decide +kernel
theorem xrt249 : zz_rt 249 = none := by decide +kernel
theorem xco250 : zz_co 250 = 11 := by decide +kernel
theorem xml250 : zz_ml 250 = 4 := by decide +kernel
theorem xrt250 : zz_rt 250 = none := by decide +kernel
theorem xco251 : zz_co 251 = 11 := by decide +kernel
theorem xml251 : zz_ml 251 = 1 := by decide +kernel
theorem xrt251 : zz_rt 251 = some .boolean := by decide +kernel
theorem xco252 : zz_co 252 = 11 := by decide +kernel
theorem xml252 : zz_ml 252 = 2 := by decide +kernel
theorem xrt252 : zz_rt 252 = none := by decide +kernel
theorem xco253 : zz_co 253 = 11 := by decide +kernel
theorem xml253 : zz_ml 253 = 3 := by decide +kernel
theorem xrt253 : zz_rt 253 = some .int := by decide +kernel
theorem xco254 : zz_co 254 = 11 := by decide +kernel
theorem xml254 : zz_ml 254 = 4 := by decide +kernel
theorem xrt254 : zz_rt 254 = some .boolean := by decide +kernel
theorem xco255 : zz_co 255 = 11 := by decide +kernel
theorem xml255 : zz_ml 255 = 4 := by decide +kernel
theorem xrt255 : zz_rt 255 = some .boolean := by decide +kernel
theorem xf_0_9 : zz_fk 0 9 = some (0, 0) := by decide +kernel
theorem xf_0_15 : zz_fk 0 15 = some (0, 1) := by decide +kernel
theorem xf_0_30 : zz_fk 0 30 = some (3, 3) := by decide +kernel
theorem xf_0_35 : zz_fk 0 35 = some (3, 4) := by decide +kernel
theorem xf_0_38 : zz_fk 0 38 = some (7, 0) := by decide +kernel
theorem xf_0_44 : zz_fk 0 44 = some (7, 3) := by decide +kernel
theorem xf_1_12 : zz_fk 1 12 = some (1, 0) := by decide +kernel
theorem xf_1_21 : zz_fk 1 21 = some (1, 1) := by decide +kernel
theorem xf_1_28 : zz_fk 1 28 = some (1, 2) := by decide +kernel
theorem xf_1_32 : zz_fk 1 32 = some (1, 4) := by decide +kernel
theorem xf_1_41 : zz_fk 1 41 = some (1, 7) := by decide +kernel
theorem xf_1_45 : zz_fk 1 45 = some (1, 9) := by decide +kernel
theorem xf_1_58 : zz_fk 1 58 = some (1, 3) := by decide +kernel
theorem xf_1_61 : zz_fk 1 61 = some (1, 5) := by decide +kernel
theorem xf_1_65 : zz_fk 1 65 = some (1, 6) := by decide +kernel
theorem xf_1_71 : zz_fk 1 71 = some (1, 8) := by decide +kernel
theorem xf_1_74 : zz_fk 1 74 = some (9, 6) := by decide +kernel
theorem xf_1_77 : zz_fk 1 77 = some (9, 7) := by decide +kernel
theorem xf_1_78 : zz_fk 1 78 = some (7, 3) := by decide +kernel
theorem xf_1_85 : zz_fk 1 85 = some (7, 0) := by decide +kernel
theorem xf_1_89 : zz_fk 1 89 = some (3, 0) := by decide +kernel
theorem xf_2_9 : zz_fk 2 9 = some (2, 0) := by decide +kernel
theorem xf_2_13 : zz_fk 2 13 = some (2, 1) := by decide +kernel
theorem xf_2_16 : zz_fk 2 16 = some (2, 2) := by decide +kernel
theorem xf_2_19 : zz_fk 2 19 = some (2, 3) := by decide +kernel
theorem xf_2_22 : zz_fk 2 22 = some (2, 4) := by decide +kernel
theorem xf_2_26 : zz_fk 2 26 = some (2, 5) := by decide +kernel
theorem xf_2_38 : zz_fk 2 38 = some (1, 1) := by decide +kernel
theorem xf_2_50 : zz_fk 2 50 = some (1, 2) := by decide +kernel
theorem xf_2_54 : zz_fk 2 54 = some (0, 0) := by decide +kernel
theorem xf_2_59 : zz_fk 2 59 = some (0, 1) := by decide +kernel
theorem xf_3_9 : zz_fk 3 9 = some (3, 1) := by decide +kernel
theorem xf_3_15 : zz_fk 3 15 = some (3, 2) := by decide +kernel
theorem xf_3_19 : zz_fk 3 19 = some (3, 3) := by decide +kernel
theorem xf_3_22 : zz_fk 3 22 = some (3, 4) := by decide +kernel
theorem xf_3_25 : zz_fk 3 25 = some (3, 6) := by decide +kernel
theorem xf_3_28 : zz_fk 3 28 = some (3, 7) := by decide +kernel
theorem xf_3_31 : zz_fk 3 31 = some (3, 8) := by decide +kernel
theorem xf_3_34 : zz_fk 3 34 = some (3, 9) := by decide +kernel
theorem xf_3_37 : zz_fk 3 37 = some (3, 0) := by decide +kernel
theorem xf_3_41 : zz_fk 3 41 = some (3, 5) := by decide +kernel
theorem xf_4_14 : zz_fk 4 14 = some (4, 0) := by decide +kernel
theorem xf_4_23 : zz_fk 4 23 = some (4, 1) := by decide +kernel
theorem xf_4_27 : zz_fk 4 27 = some (4, 2) := by decide +kernel
theorem xf_4_31 : zz_fk 4 31 = some (4, 3) := by decide +kernel
theorem xf_4_34 : zz_fk 4 34 = some (4, 4) := by decide +kernel
theorem xf_4_38 : zz_fk 4 38 = some (4, 7) := by decide +kernel
theorem xf_4_41 : zz_fk 4 41 = some (4, 8) := by decide +kernel
theorem xf_4_51 : zz_fk 4 51 = some (9, 2) := by decide +kernel
theorem xf_4_54 : zz_fk 4 54 = some (4, 6) := by decide +kernel
theorem xf_4_72 : zz_fk 4 72 = some (4, 5) := by decide +kernel
theorem xf_4_82 : zz_fk 4 82 = some (7, 3) := by decide +kernel
theorem xf_4_87 : zz_fk 4 87 = some (7, 0) := by decide +kernel
theorem xf_4_91 : zz_fk 4 91 = some (9, 5) := by decide +kernel
theorem xf_5_12 : zz_fk 5 12 = some (5, 0) := by decide +kernel
theorem xf_5_21 : zz_fk 5 21 = some (5, 1) := by decide +kernel
theorem xf_5_32 : zz_fk 5 32 = some (9, 2) := by decide +kernel
theorem xf_5_56 : zz_fk 5 56 = some (7, 0) := by decide +kernel
theorem xf_5_68 : zz_fk 5 68 = some (9, 5) := by decide +kernel
theorem xf_5_94 : zz_fk 5 94 = some (3, 7) := by decide +kernel
theorem xf_5_98 : zz_fk 5 98 = some (3, 0) := by decide +kernel
theorem xf_5_104 : zz_fk 5 104 = some (9, 4) := by decide +kernel
theorem xf_6_15 : zz_fk 6 15 = some (6, 0) := by decide +kernel
theorem xf_6_21 : zz_fk 6 21 = some (6, 1) := by decide +kernel
theorem xf_7_12 : zz_fk 7 12 = some (7, 0) := by decide +kernel
theorem xf_7_18 : zz_fk 7 18 = some (7, 1) := by decide +kernel
theorem xf_7_22 : zz_fk 7 22 = some (7, 2) := by decide +kernel
theorem xf_7_30 : zz_fk 7 30 = some (7, 3) := by decide +kernel
theorem xf_7_69 : zz_fk 7 69 = some (3, 5) := by decide +kernel
theorem xf_8_9 : zz_fk 8 9 = some (8, 0) := by decide +kernel
theorem xf_8_15 : zz_fk 8 15 = some (8, 1) := by decide +kernel
theorem xf_9_12 : zz_fk 9 12 = some (9, 0) := by decide +kernel
theorem xf_9_22 : zz_fk 9 22 = some (8, 1) := by decide +kernel
theorem xf_9_26 : zz_fk 9 26 = some (9, 1) := by decide +kernel
theorem xf_9_29 : zz_fk 9 29 = some (9, 6) := by decide +kernel
theorem xf_9_32 : zz_fk 9 32 = some (9, 7) := by decide +kernel
theorem xf_9_38 : zz_fk 9 38 = some (9, 3) := by decide +kernel
theorem xf_9_49 : zz_fk 9 49 = some (9, 2) := by decide +kernel
theorem xf_9_67 : zz_fk 9 67 = some (9, 5) := by decide +kernel
theorem xf_9_75 : zz_fk 9 75 = some (9, 4) := by decide +kernel
theorem xf_10_12 : zz_fk 10 12 = some (10, 0) := by decide +kernel
theorem xf_10_16 : zz_fk 10 16 = some (10, 1) := by decide +kernel
theorem xf_10_23 : zz_fk 10 23 = some (10, 2) := by decide +kernel
theorem xf_10_30 : zz_fk 10 30 = some (10, 3) := by decide +kernel
theorem xf_10_37 : zz_fk 10 37 = some (10, 4) := by decide +kernel
theorem xf_10_46 : zz_fk 10 46 = some (10, 5) := by decide +kernel
theorem xf_10_50 : zz_fk 10 50 = some (1, 0) := by decide +kernel
theorem xf_10_63 : zz_fk 10 63 = some (8, 1) := by decide +kernel
theorem xf_10_71 : zz_fk 10 71 = some (5, 0) := by decide +kernel
theorem xf_10_79 : zz_fk 10 79 = some (1, 1) := by decide +kernel
theorem xf_10_83 : zz_fk 10 83 = some (5, 1) := by decide +kernel
theorem xf_10_92 : zz_fk 10 92 = some (1, 2) := by decide +kernel
theorem xf_10_102 : zz_fk 10 102 = some (7, 3) := by decide +kernel
theorem xf_10_113 : zz_fk 10 113 = some (4, 0) := by decide +kernel
theorem xf_10_114 : zz_fk 10 114 = some (1, 5) := by decide +kernel
theorem xf_10_118 : zz_fk 10 118 = some (4, 8) := by decide +kernel
theorem xf_10_121 : zz_fk 10 121 = some (1, 6) := by decide +kernel
theorem xf_10_124 : zz_fk 10 124 = some (1, 7) := by decide +kernel
theorem xf_10_127 : zz_fk 10 127 = some (4, 1) := by decide +kernel
theorem xf_10_141 : zz_fk 10 141 = some (1, 3) := by decide +kernel
theorem xf_10_144 : zz_fk 10 144 = some (1, 4) := by decide +kernel
theorem xf_10_163 : zz_fk 10 163 = some (7, 0) := by decide +kernel
theorem xf_10_172 : zz_fk 10 172 = some (7, 2) := by decide +kernel
theorem xf_10_186 : zz_fk 10 186 = some (7, 1) := by decide +kernel
theorem xf_10_189 : zz_fk 10 189 = some (0, 0) := by decide +kernel
theorem xf_10_203 : zz_fk 10 203 = some (0, 1) := by decide +kernel
theorem xf_10_206 : zz_fk 10 206 = some (1, 8) := by decide +kernel
theorem xf_10_209 : zz_fk 10 209 = some (1, 9) := by decide +kernel
theorem xf_10_212 : zz_fk 10 212 = some (2, 5) := by decide +kernel
theorem xf_10_218 : zz_fk 10 218 = some (3, 0) := by decide +kernel
theorem xf_10_221 : zz_fk 10 221 = some (3, 5) := by decide +kernel
theorem xf_10_250 : zz_fk 10 250 = some (3, 2) := by decide +kernel
theorem xf_10_253 : zz_fk 10 253 = some (3, 4) := by decide +kernel
theorem xf_10_260 : zz_fk 10 260 = some (3, 1) := by decide +kernel
theorem xf_10_270 : zz_fk 10 270 = some (3, 7) := by decide +kernel
theorem xf_10_273 : zz_fk 10 273 = some (3, 8) := by decide +kernel
theorem xf_10_276 : zz_fk 10 276 = some (3, 9) := by decide +kernel
theorem xf_10_288 : zz_fk 10 288 = some (3, 6) := by decide +kernel
theorem xf_11_7 : zz_fk 11 7 = some (11, 0) := by decide +kernel
theorem xf_11_13 : zz_fk 11 13 = some (11, 1) := by decide +kernel
theorem xf_11_16 : zz_fk 11 16 = some (11, 2) := by decide +kernel
theorem xf_11_20 : zz_fk 11 20 = some (11, 5) := by decide +kernel
theorem xf_11_24 : zz_fk 11 24 = some (11, 7) := by decide +kernel
theorem xf_11_27 : zz_fk 11 27 = some (11, 8) := by decide +kernel
theorem xf_11_30 : zz_fk 11 30 = some (11, 9) := by decide +kernel
theorem xf_11_33 : zz_fk 11 33 = some (11, 10) := by decide +kernel
theorem xf_11_36 : zz_fk 11 36 = some (11, 11) := by decide +kernel
theorem xf_11_39 : zz_fk 11 39 = some (11, 12) := by decide +kernel
theorem xf_11_42 : zz_fk 11 42 = some (11, 18) := by decide +kernel
theorem xf_11_45 : zz_fk 11 45 = some (11, 19) := by decide +kernel
theorem xf_11_48 : zz_fk 11 48 = some (11, 20) := by decide +kernel
theorem xf_11_51 : zz_fk 11 51 = some (11, 21) := by decide +kernel
theorem xf_11_54 : zz_fk 11 54 = some (11, 22) := by decide +kernel
theorem xf_11_144 : zz_fk 11 144 = some (11, 6) := by decide +kernel
theorem xf_11_147 : zz_fk 11 147 = some (11, 3) := by decide +kernel
theorem xf_11_208 : zz_fk 11 208 = some (11, 4) := by decide +kernel
theorem xf_11_211 : zz_fk 11 211 = some (11, 13) := by decide +kernel
theorem xf_11_214 : zz_fk 11 214 = some (11, 14) := by decide +kernel
theorem xf_11_220 : zz_fk 11 220 = some (11, 16) := by decide +kernel
theorem xf_11_223 : zz_fk 11 223 = some (11, 17) := by decide +kernel
theorem xf_11_227 : zz_fk 11 227 = some (11, 15) := by decide +kernel
theorem xf_11_328 : zz_fk 11 328 = some (11, 23) := by decide +kernel
theorem xf_11_338 : zz_fk 11 338 = some (11, 25) := by decide +kernel
theorem xf_11_341 : zz_fk 11 341 = some (11, 24) := by decide +kernel
theorem xm_0_3 : zz_lk 0 3 = some (6, 0) := by decide +kernel
theorem xm_0_18 : zz_lk 0 18 = some (0, 7) := by decide +kernel
theorem xm_0_24 : zz_lk 0 24 = some (7, 0) := by decide +kernel
theorem xm_0_48 : zz_lk 0 48 = some (1, 63) := by decide +kernel
theorem xm_1_3 : zz_lk 1 3 = some (6, 0) := by decide +kernel
theorem xm_1_11 : zz_lk 1 11 = some (5, 3) := by decide +kernel
theorem xm_1_20 : zz_lk 1 20 = some (2, 4) := by decide +kernel
theorem xm_1_27 : zz_lk 1 27 = some (5, 8) := by decide +kernel
theorem xm_1_38 : zz_lk 1 38 = some (2, 6) := by decide +kernel
theorem xm_1_48 : zz_lk 1 48 = some (1, 149) := by decide +kernel
theorem xm_1_52 : zz_lk 1 52 = some (1, 57) := by decide +kernel
theorem xm_1_55 : zz_lk 1 55 = some (1, 150) := by decide +kernel
theorem xm_1_68 : zz_lk 1 68 = some (1, 59) := by decide +kernel
theorem xm_1_81 : zz_lk 1 81 = some (1, 63) := by decide +kernel
theorem xm_1_94 : zz_lk 1 94 = some (1, 104) := by decide +kernel
theorem xm_1_98 : zz_lk 1 98 = some (1, 103) := by decide +kernel
theorem xm_1_102 : zz_lk 1 102 = some (0, 64) := by decide +kernel
theorem xm_2_1 : zz_lk 2 1 = some (6, 0) := by decide +kernel
theorem xm_2_29 : zz_lk 2 29 = some (9, 0) := by decide +kernel
theorem xm_2_35 : zz_lk 2 35 = some (8, 0) := by decide +kernel
theorem xm_2_44 : zz_lk 2 44 = some (1, 52) := by decide +kernel
theorem xm_3_3 : zz_lk 3 3 = some (6, 0) := by decide +kernel
theorem xm_3_44 : zz_lk 3 44 = some (7, 0) := by decide +kernel
theorem xm_3_50 : zz_lk 3 50 = some (1, 34) := by decide +kernel
theorem xm_3_54 : zz_lk 3 54 = some (1, 41) := by decide +kernel
theorem xm_3_57 : zz_lk 3 57 = some (1, 44) := by decide +kernel
theorem xm_3_61 : zz_lk 3 61 = some (1, 38) := by decide +kernel
theorem xm_3_65 : zz_lk 3 65 = some (3, 50) := by decide +kernel
theorem xm_4_5 : zz_lk 4 5 = some (6, 0) := by decide +kernel
theorem xm_4_13 : zz_lk 4 13 = some (5, 10) := by decide +kernel
theorem xm_4_20 : zz_lk 4 20 = some (2, 6) := by decide +kernel
theorem xm_4_44 : zz_lk 4 44 = some (1, 67) := by decide +kernel
theorem xm_4_47 : zz_lk 4 47 = some (1, 22) := by decide +kernel
theorem xm_4_58 : zz_lk 4 58 = some (1, 68) := by decide +kernel
theorem xm_4_62 : zz_lk 4 62 = some (1, 77) := by decide +kernel
theorem xm_4_66 : zz_lk 4 66 = some (1, 72) := by decide +kernel
theorem xm_4_69 : zz_lk 4 69 = some (1, 23) := by decide +kernel
theorem xm_4_75 : zz_lk 4 75 = some (1, 35) := by decide +kernel
theorem xm_4_79 : zz_lk 4 79 = some (1, 78) := by decide +kernel
theorem xm_4_95 : zz_lk 4 95 = some (1, 38) := by decide +kernel
theorem xm_4_101 : zz_lk 4 101 = some (1, 69) := by decide +kernel
theorem xm_4_105 : zz_lk 4 105 = some (1, 70) := by decide +kernel
theorem xm_4_111 : zz_lk 4 111 = some (1, 73) := by decide +kernel
theorem xm_4_114 : zz_lk 4 114 = some (1, 63) := by decide +kernel
theorem xm_4_118 : zz_lk 4 118 = some (0, 74) := by decide +kernel
theorem xm_4_121 : zz_lk 4 121 = some (0, 76) := by decide +kernel
theorem xm_4_124 : zz_lk 4 124 = some (1, 71) := by decide +kernel
theorem xm_5_3 : zz_lk 5 3 = some (6, 0) := by decide +kernel
theorem xm_5_11 : zz_lk 5 11 = some (5, 10) := by decide +kernel
theorem xm_5_20 : zz_lk 5 20 = some (2, 4) := by decide +kernel
theorem xm_5_25 : zz_lk 5 25 = some (1, 19) := by decide +kernel
theorem xm_5_28 : zz_lk 5 28 = some (1, 22) := by decide +kernel
theorem xm_5_36 : zz_lk 5 36 = some (1, 32) := by decide +kernel
theorem xm_5_40 : zz_lk 5 40 = some (1, 33) := by decide +kernel
theorem xm_5_43 : zz_lk 5 43 = some (1, 40) := by decide +kernel
theorem xm_5_46 : zz_lk 5 46 = some (1, 45) := by decide +kernel
theorem xm_5_49 : zz_lk 5 49 = some (1, 35) := by decide +kernel
theorem xm_5_53 : zz_lk 5 53 = some (1, 23) := by decide +kernel
theorem xm_5_60 : zz_lk 5 60 = some (1, 34) := by decide +kernel
theorem xm_5_65 : zz_lk 5 65 = some (1, 36) := by decide +kernel
theorem xm_5_72 : zz_lk 5 72 = some (1, 39) := by decide +kernel
theorem xm_5_76 : zz_lk 5 76 = some (1, 41) := by decide +kernel
theorem xm_5_79 : zz_lk 5 79 = some (1, 42) := by decide +kernel
theorem xm_5_82 : zz_lk 5 82 = some (1, 38) := by decide +kernel
theorem xm_5_86 : zz_lk 5 86 = some (1, 43) := by decide +kernel
theorem xm_5_90 : zz_lk 5 90 = some (1, 37) := by decide +kernel
theorem xm_5_101 : zz_lk 5 101 = some (1, 46) := by decide +kernel
theorem xm_5_107 : zz_lk 5 107 = some (1, 47) := by decide +kernel
theorem xm_5_110 : zz_lk 5 110 = some (1, 49) := by decide +kernel
theorem xm_5_114 : zz_lk 5 114 = some (3, 50) := by decide +kernel
theorem xm_5_117 : zz_lk 5 117 = some (1, 51) := by decide +kernel
theorem xm_5_121 : zz_lk 5 121 = some (1, 52) := by decide +kernel
theorem xm_6_3 : zz_lk 6 3 = some (6, 0) := by decide +kernel
theorem xm_6_9 : zz_lk 6 9 = some (8, 0) := by decide +kernel
theorem xm_6_25 : zz_lk 6 25 = some (1, 54) := by decide +kernel
theorem xm_6_29 : zz_lk 6 29 = some (1, 63) := by decide +kernel
theorem xm_6_32 : zz_lk 6 32 = some (3, 50) := by decide +kernel
theorem xm_6_35 : zz_lk 6 35 = some (0, 7) := by decide +kernel
theorem xm_6_41 : zz_lk 6 41 = some (9, 0) := by decide +kernel
theorem xm_6_44 : zz_lk 6 44 = some (7, 0) := by decide +kernel
theorem xm_6_50 : zz_lk 6 50 = some (1, 71) := by decide +kernel
theorem xm_6_54 : zz_lk 6 54 = some (0, 64) := by decide +kernel
theorem xm_6_60 : zz_lk 6 60 = some (0, 75) := by decide +kernel
theorem xm_6_65 : zz_lk 6 65 = some (0, 108) := by decide +kernel
theorem xm_6_68 : zz_lk 6 68 = some (3, 82) := by decide +kernel
theorem xm_6_71 : zz_lk 6 71 = some (0, 76) := by decide +kernel
theorem xm_6_75 : zz_lk 6 75 = some (0, 74) := by decide +kernel
theorem xm_7_3 : zz_lk 7 3 = some (6, 0) := by decide +kernel
theorem xm_7_11 : zz_lk 7 11 = some (5, 5) := by decide +kernel
theorem xm_7_27 : zz_lk 7 27 = some (2, 6) := by decide +kernel
theorem xm_7_34 : zz_lk 7 34 = some (0, 7) := by decide +kernel
theorem xm_7_40 : zz_lk 7 40 = some (1, 20) := by decide +kernel
theorem xm_7_43 : zz_lk 7 43 = some (1, 21) := by decide +kernel
theorem xm_7_44 : zz_lk 7 44 = some (1, 58) := by decide +kernel
theorem xm_7_48 : zz_lk 7 48 = some (7, 0) := by decide +kernel
theorem xm_7_54 : zz_lk 7 54 = some (1, 59) := by decide +kernel
theorem xm_7_57 : zz_lk 7 57 = some (3, 48) := by decide +kernel
theorem xm_7_61 : zz_lk 7 61 = some (1, 53) := by decide +kernel
theorem xm_7_65 : zz_lk 7 65 = some (1, 55) := by decide +kernel
theorem xm_7_73 : zz_lk 7 73 = some (3, 50) := by decide +kernel
theorem xm_7_77 : zz_lk 7 77 = some (1, 80) := by decide +kernel
theorem xm_7_80 : zz_lk 7 80 = some (1, 107) := by decide +kernel
theorem xm_7_84 : zz_lk 7 84 = some (0, 64) := by decide +kernel
theorem xm_7_91 : zz_lk 7 91 = some (1, 133) := by decide +kernel
theorem xm_7_95 : zz_lk 7 95 = some (8, 0) := by decide +kernel
theorem xm_7_100 : zz_lk 7 100 = some (1, 62) := by decide +kernel
theorem xm_7_103 : zz_lk 7 103 = some (1, 139) := by decide +kernel
theorem xm_7_106 : zz_lk 7 106 = some (1, 141) := by decide +kernel
theorem xm_7_109 : zz_lk 7 109 = some (1, 142) := by decide +kernel
theorem xm_7_112 : zz_lk 7 112 = some (1, 140) := by decide +kernel
theorem xm_7_116 : zz_lk 7 116 = some (1, 63) := by decide +kernel
theorem xm_8_3 : zz_lk 8 3 = some (6, 0) := by decide +kernel
theorem xm_8_19 : zz_lk 8 19 = some (1, 14) := by decide +kernel
theorem xm_8_23 : zz_lk 8 23 = some (7, 0) := by decide +kernel
theorem xm_9_3 : zz_lk 9 3 = some (6, 0) := by decide +kernel
theorem xm_9_11 : zz_lk 9 11 = some (5, 3) := by decide +kernel
theorem xm_9_18 : zz_lk 9 18 = some (1, 149) := by decide +kernel
theorem xm_9_35 : zz_lk 9 35 = some (1, 23) := by decide +kernel
theorem xm_9_41 : zz_lk 9 41 = some (1, 24) := by decide +kernel
theorem xm_9_45 : zz_lk 9 45 = some (0, 25) := by decide +kernel
theorem xm_9_52 : zz_lk 9 52 = some (0, 26) := by decide +kernel
theorem xm_9_55 : zz_lk 9 55 = some (1, 27) := by decide +kernel
theorem xm_9_58 : zz_lk 9 58 = some (0, 29) := by decide +kernel
theorem xm_9_61 : zz_lk 9 61 = some (1, 30) := by decide +kernel
theorem xm_9_64 : zz_lk 9 64 = some (0, 31) := by decide +kernel
theorem xm_9_71 : zz_lk 9 71 = some (1, 28) := by decide +kernel
theorem xm_9_98 : zz_lk 9 98 = some (0, 119) := by decide +kernel
theorem xm_10_3 : zz_lk 10 3 = some (6, 0) := by decide +kernel
theorem xm_10_11 : zz_lk 10 11 = some (5, 2) := by decide +kernel
theorem xm_10_22 : zz_lk 10 22 = some (5, 9) := by decide +kernel
theorem xm_10_29 : zz_lk 10 29 = some (5, 11) := by decide +kernel
theorem xm_10_36 : zz_lk 10 36 = some (5, 12) := by decide +kernel
theorem xm_10_43 : zz_lk 10 43 = some (2, 6) := by decide +kernel
theorem xm_10_54 : zz_lk 10 54 = some (1, 14) := by decide +kernel
theorem xm_10_60 : zz_lk 10 60 = some (1, 15) := by decide +kernel
theorem xm_10_67 : zz_lk 10 67 = some (1, 18) := by decide +kernel
theorem xm_10_75 : zz_lk 10 75 = some (1, 56) := by decide +kernel
theorem xm_10_86 : zz_lk 10 86 = some (1, 57) := by decide +kernel
theorem xm_10_96 : zz_lk 10 96 = some (1, 60) := by decide +kernel
theorem xm_10_101 : zz_lk 10 101 = some (1, 61) := by decide +kernel
theorem xm_10_105 : zz_lk 10 105 = some (1, 62) := by decide +kernel
theorem xm_10_109 : zz_lk 10 109 = some (1, 66) := by decide +kernel
theorem xm_10_130 : zz_lk 10 130 = some (1, 70) := by decide +kernel
theorem xm_10_134 : zz_lk 10 134 = some (1, 80) := by decide +kernel
theorem xm_10_137 : zz_lk 10 137 = some (1, 81) := by decide +kernel
theorem xm_10_147 : zz_lk 10 147 = some (0, 48) := by decide +kernel
theorem xm_10_150 : zz_lk 10 150 = some (0, 85) := by decide +kernel
theorem xm_10_153 : zz_lk 10 153 = some (1, 86) := by decide +kernel
theorem xm_10_156 : zz_lk 10 156 = some (1, 47) := by decide +kernel
theorem xm_10_159 : zz_lk 10 159 = some (1, 88) := by decide +kernel
theorem xm_10_167 : zz_lk 10 167 = some (1, 44) := by decide +kernel
theorem xm_10_176 : zz_lk 10 176 = some (0, 50) := by decide +kernel
theorem xm_10_180 : zz_lk 10 180 = some (1, 51) := by decide +kernel
theorem xm_10_183 : zz_lk 10 183 = some (1, 87) := by decide +kernel
theorem xm_10_192 : zz_lk 10 192 = some (1, 89) := by decide +kernel
theorem xm_10_196 : zz_lk 10 196 = some (1, 90) := by decide +kernel
theorem xm_10_200 : zz_lk 10 200 = some (1, 97) := by decide +kernel
theorem xm_10_214 : zz_lk 10 214 = some (1, 100) := by decide +kernel
theorem xm_10_224 : zz_lk 10 224 = some (1, 102) := by decide +kernel
theorem xm_10_227 : zz_lk 10 227 = some (1, 105) := by decide +kernel
theorem xm_10_230 : zz_lk 10 230 = some (1, 106) := by decide +kernel
theorem xm_10_233 : zz_lk 10 233 = some (1, 110) := by decide +kernel
theorem xm_10_236 : zz_lk 10 236 = some (1, 111) := by decide +kernel
theorem xm_10_239 : zz_lk 10 239 = some (0, 64) := by decide +kernel
theorem xm_10_244 : zz_lk 10 244 = some (1, 114) := by decide +kernel
theorem xm_10_247 : zz_lk 10 247 = some (1, 115) := by decide +kernel
theorem xm_10_256 : zz_lk 10 256 = some (1, 117) := by decide +kernel
theorem xm_10_264 : zz_lk 10 264 = some (0, 118) := by decide +kernel
theorem xm_10_279 : zz_lk 10 279 = some (1, 121) := by decide +kernel
theorem xm_10_282 : zz_lk 10 282 = some (1, 107) := by decide +kernel
theorem xm_10_285 : zz_lk 10 285 = some (1, 122) := by decide +kernel
theorem xm_10_291 : zz_lk 10 291 = some (1, 63) := by decide +kernel
theorem xm_10_294 : zz_lk 10 294 = some (0, 108) := by decide +kernel
theorem xm_10_299 : zz_lk 10 299 = some (0, 75) := by decide +kernel
theorem xm_10_300 : zz_lk 10 300 = some (0, 109) := by decide +kernel
theorem xm_10_303 : zz_lk 10 303 = some (1, 103) := by decide +kernel
theorem xm_10_306 : zz_lk 10 306 = some (0, 82) := by decide +kernel
theorem xm_10_309 : zz_lk 10 309 = some (1, 126) := by decide +kernel
theorem xm_10_312 : zz_lk 10 312 = some (1, 112) := by decide +kernel
theorem xm_10_315 : zz_lk 10 315 = some (1, 128) := by decide +kernel
theorem xm_10_318 : zz_lk 10 318 = some (1, 133) := by decide +kernel
theorem xm_10_321 : zz_lk 10 321 = some (1, 134) := by decide +kernel
theorem xm_10_324 : zz_lk 10 324 = some (1, 136) := by decide +kernel
theorem xm_10_327 : zz_lk 10 327 = some (1, 138) := by decide +kernel
theorem xm_10_330 : zz_lk 10 330 = some (1, 144) := by decide +kernel
theorem xm_10_333 : zz_lk 10 333 = some (1, 146) := by decide +kernel
theorem xm_10_336 : zz_lk 10 336 = some (1, 148) := by decide +kernel
theorem xm_10_338 : zz_lk 10 338 = some (1, 52) := by decide +kernel
theorem xm_10_342 : zz_lk 10 342 = some (1, 71) := by decide +kernel
theorem xm_10_345 : zz_lk 10 345 = some (1, 113) := by decide +kernel
theorem xm_10_348 : zz_lk 10 348 = some (8, 0) := by decide +kernel
theorem xm_10_353 : zz_lk 10 353 = some (1, 129) := by decide +kernel
theorem xm_10_356 : zz_lk 10 356 = some (1, 130) := by decide +kernel
theorem xm_11_1 : zz_lk 11 1 = some (6, 0) := by decide +kernel
theorem xm_11_57 : zz_lk 11 57 = some (0, 154) := by decide +kernel
theorem xm_11_61 : zz_lk 11 61 = some (0, 188) := by decide +kernel
theorem xm_11_65 : zz_lk 11 65 = some (1, 189) := by decide +kernel
theorem xm_11_69 : zz_lk 11 69 = some (0, 160) := by decide +kernel
theorem xm_11_73 : zz_lk 11 73 = some (0, 190) := by decide +kernel
theorem xm_11_77 : zz_lk 11 77 = some (0, 158) := by decide +kernel
theorem xm_11_80 : zz_lk 11 80 = some (1, 157) := by decide +kernel
theorem xm_11_83 : zz_lk 11 83 = some (0, 163) := by decide +kernel
theorem xm_11_86 : zz_lk 11 86 = some (0, 162) := by decide +kernel
theorem xm_11_89 : zz_lk 11 89 = some (1, 168) := by decide +kernel
theorem xm_11_93 : zz_lk 11 93 = some (1, 171) := by decide +kernel
theorem xm_11_96 : zz_lk 11 96 = some (1, 156) := by decide +kernel
theorem xm_11_100 : zz_lk 11 100 = some (0, 169) := by decide +kernel
theorem xm_11_103 : zz_lk 11 103 = some (1, 170) := by decide +kernel
theorem xm_11_106 : zz_lk 11 106 = some (1, 167) := by decide +kernel
theorem xm_11_109 : zz_lk 11 109 = some (0, 172) := by decide +kernel
theorem xm_11_113 : zz_lk 11 113 = some (1, 177) := by decide +kernel
theorem xm_11_116 : zz_lk 11 116 = some (1, 166) := by decide +kernel
theorem xm_11_120 : zz_lk 11 120 = some (1, 175) := by decide +kernel
theorem xm_11_123 : zz_lk 11 123 = some (1, 174) := by decide +kernel
theorem xm_11_126 : zz_lk 11 126 = some (1, 176) := by decide +kernel
theorem xm_11_129 : zz_lk 11 129 = some (1, 159) := by decide +kernel
theorem xm_11_132 : zz_lk 11 132 = some (0, 161) := by decide +kernel
theorem xm_11_135 : zz_lk 11 135 = some (0, 164) := by decide +kernel
theorem xm_11_138 : zz_lk 11 138 = some (1, 155) := by decide +kernel
theorem xm_11_141 : zz_lk 11 141 = some (1, 165) := by decide +kernel
theorem xm_11_150 : zz_lk 11 150 = some (1, 173) := by decide +kernel
theorem xm_11_154 : zz_lk 11 154 = some (1, 178) := by decide +kernel
theorem xm_11_157 : zz_lk 11 157 = some (1, 180) := by decide +kernel
theorem xm_11_160 : zz_lk 11 160 = some (1, 181) := by decide +kernel
theorem xm_11_164 : zz_lk 11 164 = some (1, 183) := by decide +kernel
theorem xm_11_167 : zz_lk 11 167 = some (1, 184) := by decide +kernel
theorem xm_11_170 : zz_lk 11 170 = some (1, 187) := by decide +kernel
theorem xm_11_173 : zz_lk 11 173 = some (1, 193) := by decide +kernel
theorem xm_11_177 : zz_lk 11 177 = some (1, 196) := by decide +kernel
theorem xm_11_180 : zz_lk 11 180 = some (0, 197) := by decide +kernel
theorem xm_11_184 : zz_lk 11 184 = some (1, 200) := by decide +kernel
theorem xm_11_187 : zz_lk 11 187 = some (1, 201) := by decide +kernel
theorem xm_11_190 : zz_lk 11 190 = some (1, 207) := by decide +kernel
theorem xm_11_194 : zz_lk 11 194 = some (1, 206) := by decide +kernel
theorem xm_11_197 : zz_lk 11 197 = some (1, 205) := by decide +kernel
theorem xm_11_200 : zz_lk 11 200 = some (1, 208) := by decide +kernel
theorem xm_11_204 : zz_lk 11 204 = some (1, 211) := by decide +kernel
theorem xm_11_217 : zz_lk 11 217 = some (1, 224) := by decide +kernel
theorem xm_11_230 : zz_lk 11 230 = some (0, 225) := by decide +kernel
theorem xm_11_237 : zz_lk 11 237 = some (0, 226) := by decide +kernel
theorem xm_11_244 : zz_lk 11 244 = some (1, 223) := by decide +kernel
theorem xm_11_247 : zz_lk 11 247 = some (1, 227) := by decide +kernel
theorem xm_11_251 : zz_lk 11 251 = some (1, 229) := by decide +kernel
theorem xm_11_255 : zz_lk 11 255 = some (1, 244) := by decide +kernel
theorem xm_11_278 : zz_lk 11 278 = some (0, 234) := by decide +kernel
theorem xm_11_281 : zz_lk 11 281 = some (1, 236) := by decide +kernel
theorem xm_11_285 : zz_lk 11 285 = some (1, 233) := by decide +kernel
theorem xm_11_288 : zz_lk 11 288 = some (1, 231) := by decide +kernel
theorem xm_11_291 : zz_lk 11 291 = some (1, 235) := by decide +kernel
theorem xm_11_295 : zz_lk 11 295 = some (1, 237) := by decide +kernel
theorem xm_11_298 : zz_lk 11 298 = some (1, 232) := by decide +kernel
theorem xm_11_301 : zz_lk 11 301 = some (1, 239) := by decide +kernel
theorem xm_11_304 : zz_lk 11 304 = some (1, 241) := by decide +kernel
theorem xm_11_307 : zz_lk 11 307 = some (1, 242) := by decide +kernel
theorem xm_11_310 : zz_lk 11 310 = some (1, 230) := by decide +kernel
theorem xm_11_313 : zz_lk 11 313 = some (1, 238) := by decide +kernel
theorem xm_11_316 : zz_lk 11 316 = some (1, 240) := by decide +kernel
theorem xm_11_319 : zz_lk 11 319 = some (1, 243) := by decide +kernel
theorem xm_11_322 : zz_lk 11 322 = some (1, 222) := by decide +kernel
theorem xm_11_325 : zz_lk 11 325 = some (1, 228) := by decide +kernel
theorem xm_11_331 : zz_lk 11 331 = some (1, 249) := by decide +kernel
theorem xm_11_335 : zz_lk 11 335 = some (1, 250) := by decide +kernel
theorem xm_11_344 : zz_lk 11 344 = some (1, 248) := by decide +kernel
theorem xm_11_347 : zz_lk 11 347 = some (1, 246) := by decide +kernel
theorem xm_11_350 : zz_lk 11 350 = some (1, 252) := by decide +kernel
theorem xm_11_353 : zz_lk 11 353 = some (1, 247) := by decide +kernel
theorem xm_11_356 : zz_lk 11 356 = some (1, 251) := by decide +kernel
theorem xm_12_7 : zz_lk 12 7 = some (0, 64) := by decide +kernel
theorem xm_12_13 : zz_lk 12 13 = some (0, 75) := by decide +kernel
theorem xm_12_18 : zz_lk 12 18 = some (0, 109) := by decide +kernel
theorem xm_12_21 : zz_lk 12 21 = some (9, 0) := by decide +kernel
theorem xm_13_9 : zz_lk 13 9 = some (2, 1) := by decide +kernel
theorem xm_13_12 : zz_lk 13 12 = some (2, 152) := by decide +kernel
theorem xm_13_13 : zz_lk 13 13 = some (1, 13) := by decide +kernel
theorem xm_13_17 : zz_lk 13 17 = some (1, 218) := by decide +kernel
theorem xm_13_18 : zz_lk 13 18 = some (1, 16) := by decide +kernel
theorem xm_13_22 : zz_lk 13 22 = some (1, 219) := by decide +kernel
theorem xm_13_23 : zz_lk 13 23 = some (1, 17) := by decide +kernel
theorem xm_13_27 : zz_lk 13 27 = some (1, 221) := by decide +kernel
theorem xm_13_28 : zz_lk 13 28 = some (1, 65) := by decide +kernel
theorem xm_13_31 : zz_lk 13 31 = some (1, 245) := by decide +kernel
theorem xm_13_32 : zz_lk 13 32 = some (1, 79) := by decide +kernel
theorem xm_13_35 : zz_lk 13 35 = some (1, 253) := by decide +kernel
theorem xm_13_36 : zz_lk 13 36 = some (1, 83) := by decide +kernel
theorem xm_13_39 : zz_lk 13 39 = some (1, 220) := by decide +kernel
theorem xm_13_40 : zz_lk 13 40 = some (1, 84) := by decide +kernel
theorem xm_13_44 : zz_lk 13 44 = some (1, 204) := by decide +kernel
theorem xm_13_45 : zz_lk 13 45 = some (1, 91) := by decide +kernel
theorem xm_13_48 : zz_lk 13 48 = some (1, 209) := by decide +kernel
theorem xm_13_49 : zz_lk 13 49 = some (1, 92) := by decide +kernel
theorem xm_13_52 : zz_lk 13 52 = some (1, 210) := by decide +kernel
theorem xm_13_53 : zz_lk 13 53 = some (1, 93) := by decide +kernel
theorem xm_13_56 : zz_lk 13 56 = some (1, 212) := by decide +kernel
theorem xm_13_57 : zz_lk 13 57 = some (1, 94) := by decide +kernel
theorem xm_13_60 : zz_lk 13 60 = some (1, 213) := by decide +kernel
theorem xm_13_61 : zz_lk 13 61 = some (1, 95) := by decide +kernel
theorem xm_13_64 : zz_lk 13 64 = some (1, 214) := by decide +kernel
theorem xm_13_65 : zz_lk 13 65 = some (1, 96) := by decide +kernel
theorem xm_13_69 : zz_lk 13 69 = some (1, 215) := by decide +kernel
theorem xm_13_70 : zz_lk 13 70 = some (1, 98) := by decide +kernel
theorem xm_13_73 : zz_lk 13 73 = some (1, 216) := by decide +kernel
theorem xm_13_74 : zz_lk 13 74 = some (1, 99) := by decide +kernel
theorem xm_13_77 : zz_lk 13 77 = some (1, 217) := by decide +kernel
theorem xm_13_78 : zz_lk 13 78 = some (1, 101) := by decide +kernel
theorem xm_13_81 : zz_lk 13 81 = some (1, 153) := by decide +kernel
theorem xm_13_82 : zz_lk 13 82 = some (1, 116) := by decide +kernel
theorem xm_13_85 : zz_lk 13 85 = some (1, 179) := by decide +kernel
theorem xm_13_86 : zz_lk 13 86 = some (1, 120) := by decide +kernel
theorem xm_13_89 : zz_lk 13 89 = some (1, 182) := by decide +kernel
theorem xm_13_90 : zz_lk 13 90 = some (1, 123) := by decide +kernel
theorem xm_13_94 : zz_lk 13 94 = some (1, 185) := by decide +kernel
theorem xm_13_95 : zz_lk 13 95 = some (1, 124) := by decide +kernel
theorem xm_13_98 : zz_lk 13 98 = some (1, 186) := by decide +kernel
theorem xm_13_99 : zz_lk 13 99 = some (1, 125) := by decide +kernel
theorem xm_13_103 : zz_lk 13 103 = some (1, 191) := by decide +kernel
theorem xm_13_104 : zz_lk 13 104 = some (1, 127) := by decide +kernel
theorem xm_13_107 : zz_lk 13 107 = some (1, 192) := by decide +kernel
theorem xm_13_108 : zz_lk 13 108 = some (1, 131) := by decide +kernel
theorem xm_13_111 : zz_lk 13 111 = some (1, 194) := by decide +kernel
theorem xm_13_112 : zz_lk 13 112 = some (1, 132) := by decide +kernel
theorem xm_13_115 : zz_lk 13 115 = some (1, 195) := by decide +kernel
theorem xm_13_116 : zz_lk 13 116 = some (1, 135) := by decide +kernel
theorem xm_13_119 : zz_lk 13 119 = some (1, 198) := by decide +kernel
theorem xm_13_120 : zz_lk 13 120 = some (1, 137) := by decide +kernel
theorem xm_13_123 : zz_lk 13 123 = some (1, 199) := by decide +kernel
theorem xm_13_124 : zz_lk 13 124 = some (1, 143) := by decide +kernel
theorem xm_13_127 : zz_lk 13 127 = some (1, 202) := by decide +kernel
theorem xm_13_128 : zz_lk 13 128 = some (1, 145) := by decide +kernel
theorem xm_13_131 : zz_lk 13 131 = some (1, 203) := by decide +kernel
theorem xm_13_132 : zz_lk 13 132 = some (1, 147) := by decide +kernel
theorem xm_13_136 : zz_lk 13 136 = some (1, 254) := by decide +kernel
theorem xm_13_137 : zz_lk 13 137 = some (1, 151) := by decide +kernel
theorem xm_13_140 : zz_lk 13 140 = some (1, 255) := by decide +kernel
theorem xnp1 : zz_np 1 = 0 := by decide +kernel
theorem xnp2 : zz_np 2 = 0 := by decide +kernel
theorem xnp3 : zz_np 3 = 0 := by decide +kernel
theorem xnp4 : zz_np 4 = 0 := by decide +kernel
theorem xnp5 : zz_np 5 = 0 := by decide +kernel
theorem xnp6 : zz_np 6 = 1 := by decide +kernel
theorem xnp7 : zz_np 7 = 2 := by decide +kernel
theorem xnp8 : zz_np 8 = 0 := by decide +kernel
theorem xnp9 : zz_np 9 = 0 := by decide +kernel
theorem xnp10 : zz_np 10 = 0 := by decide +kernel
theorem xnp11 : zz_np 11 = 0 := by decide +kernel
theorem xnp12 : zz_np 12 = 0 := by decide +kernel
theorem xnp13 : zz_np 13 = 5 := by decide +kernel
theorem xnp14 : zz_np 14 = 1 := by decide +kernel
theorem xnp15 : zz_np 15 = 1 := by decide +kernel
theorem xnp16 : zz_np 16 = 1 := by decide +kernel
theorem xnp17 : zz_np 17 = 0 := by decide +kernel
theorem xnp18 : zz_np 18 = 1 := by decide +kernel
theorem xnp19 : zz_np 19 = 0 := by decide +kernel
theorem xnp20 : zz_np 20 = 0 := by decide +kernel
theorem xnp21 : zz_np 21 = 0 := by decide +kernel
theorem xnp22 : zz_np 22 = 1 := by decide +kernel
theorem xnp23 : zz_np 23 = 0 := by decide +kernel
theorem xnp24 : zz_np 24 = 1 := by decide +kernel
theorem xnp25 : zz_np 25 = 1 := by decide +kernel
theorem xnp26 : zz_np 26 = 1 := by decide +kernel
theorem xnp27 : zz_np 27 = 0 := by decide +kernel
theorem xnp28 : zz_np 28 = 0 := by decide +kernel
theorem xnp29 : zz_np 29 = 1 := by decide +kernel
theorem xnp30 : zz_np 30 = 0 := by decide +kernel
theorem xnp31 : zz_np 31 = 1 := by decide +kernel
theorem xnp32 : zz_np 32 = 0 := by decide +kernel
theorem xnp33 : zz_np 33 = 0 := by decide +kernel
theorem xnp34 : zz_np 34 = 0 := by decide +kernel
theorem xnp35 : zz_np 35 = 1 := by decide +kernel
theorem xnp36 : zz_np 36 = 0 := by decide +kernel
theorem xnp37 : zz_np 37 = 1 := by decide +kernel
theorem xnp38 : zz_np 38 = 1 := by decide +kernel
theorem xnp39 : zz_np 39 = 2 := by decide +kernel
theorem xnp40 : zz_np 40 = 0 := by decide +kernel
theorem xnp41 : zz_np 41 = 0 := by decide +kernel
theorem xnp42 : zz_np 42 = 0 := by decide +kernel
theorem xnp43 : zz_np 43 = 2 := by decide +kernel
theorem xnp44 : zz_np 44 = 1 := by decide +kernel
theorem xnp45 : zz_np 45 = 0 := by decide +kernel
theorem xnp46 : zz_np 46 = 1 := by decide +kernel
theorem xnp47 : zz_np 47 = 1 := by decide +kernel
theorem xnp48 : zz_np 48 = 1 := by decide +kernel
theorem xnp49 : zz_np 49 = 2 := by decide +kernel
theorem xnp50 : zz_np 50 = 2 := by decide +kernel
theorem xnp51 : zz_np 51 = 2 := by decide +kernel
theorem xnp52 : zz_np 52 = 3 := by decide +kernel
theorem xnp53 : zz_np 53 = 3 := by decide +kernel
theorem xnp54 : zz_np 54 = 2 := by decide +kernel
theorem xnp55 : zz_np 55 = 1 := by decide +kernel
theorem xnp56 : zz_np 56 = 1 := by decide +kernel
theorem xnp57 : zz_np 57 = 1 := by decide +kernel
theorem xnp58 : zz_np 58 = 1 := by decide +kernel
theorem xnp59 : zz_np 59 = 1 := by decide +kernel
theorem xnp60 : zz_np 60 = 0 := by decide +kernel
theorem xnp61 : zz_np 61 = 0 := by decide +kernel
theorem xnp62 : zz_np 62 = 1 := by decide +kernel
theorem xnp63 : zz_np 63 = 2 := by decide +kernel
theorem xnp64 : zz_np 64 = 1 := by decide +kernel
theorem xnp65 : zz_np 65 = 0 := by decide +kernel
theorem xnp66 : zz_np 66 = 2 := by decide +kernel
theorem xnp67 : zz_np 67 = 1 := by decide +kernel
theorem xnp68 : zz_np 68 = 1 := by decide +kernel
theorem xnp69 : zz_np 69 = 2 := by decide +kernel
theorem xnp70 : zz_np 70 = 3 := by decide +kernel
theorem xnp71 : zz_np 71 = 3 := by decide +kernel
theorem xnp72 : zz_np 72 = 0 := by decide +kernel
theorem xnp73 : zz_np 73 = 1 := by decide +kernel
theorem xnp74 : zz_np 74 = 3 := by decide +kernel
theorem xnp75 : zz_np 75 = 1 := by decide +kernel
theorem xnp76 : zz_np 76 = 3 := by decide +kernel
theorem xnp77 : zz_np 77 = 0 := by decide +kernel
theorem xnp78 : zz_np 78 = 0 := by decide +kernel
theorem xnp79 : zz_np 79 = 1 := by decide +kernel
theorem xnp80 : zz_np 80 = 1 := by decide +kernel
theorem xnp81 : zz_np 81 = 2 := by decide +kernel
theorem xnp82 : zz_np 82 = 2 := by decide +kernel
theorem xnp83 : zz_np 83 = 1 := by decide +kernel
theorem xnp84 : zz_np 84 = 2 := by decide +kernel
theorem xnp85 : zz_np 85 = 1 := by decide +kernel
theorem xnp86 : zz_np 86 = 1 := by decide +kernel
theorem xnp87 : zz_np 87 = 2 := by decide +kernel
theorem xnp88 : zz_np 88 = 3 := by decide +kernel
theorem xnp89 : zz_np 89 = 4 := by decide +kernel
theorem xnp90 : zz_np 90 = 0 := by decide +kernel
theorem xnp91 : zz_np 91 = 1 := by decide +kernel
theorem xnp92 : zz_np 92 = 2 := by decide +kernel
theorem xnp93 : zz_np 93 = 2 := by decide +kernel
theorem xnp94 : zz_np 94 = 2 := by decide +kernel
theorem xnp95 : zz_np 95 = 2 := by decide +kernel
theorem xnp96 : zz_np 96 = 2 := by decide +kernel
theorem xnp97 : zz_np 97 = 1 := by decide +kernel
theorem xnp98 : zz_np 98 = 2 := by decide +kernel
theorem xnp99 : zz_np 99 = 0 := by decide +kernel
theorem xnp100 : zz_np 100 = 1 := by decide +kernel
theorem xnp101 : zz_np 101 = 1 := by decide +kernel
theorem xnp102 : zz_np 102 = 3 := by decide +kernel
theorem xnp103 : zz_np 103 = 3 := by decide +kernel
theorem xnp104 : zz_np 104 = 5 := by decide +kernel
theorem xnp105 : zz_np 105 = 0 := by decide +kernel
theorem xnp106 : zz_np 106 = 1 := by decide +kernel
theorem xnp107 : zz_np 107 = 2 := by decide +kernel
theorem xnp108 : zz_np 108 = 1 := by decide +kernel
theorem xnp109 : zz_np 109 = 1 := by decide +kernel
theorem xnp110 : zz_np 110 = 0 := by decide +kernel
theorem xnp111 : zz_np 111 = 0 := by decide +kernel
theorem xnp112 : zz_np 112 = 0 := by decide +kernel
theorem xnp113 : zz_np 113 = 1 := by decide +kernel
theorem xnp114 : zz_np 114 = 0 := by decide +kernel
theorem xnp115 : zz_np 115 = 0 := by decide +kernel
theorem xnp116 : zz_np 116 = 2 := by decide +kernel
theorem xnp117 : zz_np 117 = 2 := by decide +kernel
theorem xnp118 : zz_np 118 = 2 := by decide +kernel
theorem xnp119 : zz_np 119 = 2 := by decide +kernel
theorem xnp120 : zz_np 120 = 2 := by decide +kernel
theorem xnp121 : zz_np 121 = 1 := by decide +kernel
theorem xnp122 : zz_np 122 = 1 := by decide +kernel
theorem xnp123 : zz_np 123 = 3 := by decide +kernel
theorem xnp124 : zz_np 124 = 2 := by decide +kernel
theorem xnp125 : zz_np 125 = 2 := by decide +kernel
theorem xnp126 : zz_np 126 = 2 := by decide +kernel
theorem xnp127 : zz_np 127 = 2 := by decide +kernel
theorem xnp128 : zz_np 128 = 1 := by decide +kernel
theorem xnp129 : zz_np 129 = 1 := by decide +kernel
theorem xnp130 : zz_np 130 = 2 := by decide +kernel
theorem xnp131 : zz_np 131 = 2 := by decide +kernel
theorem xnp132 : zz_np 132 = 3 := by decide +kernel
theorem xnp133 : zz_np 133 = 3 := by decide +kernel
theorem xnp134 : zz_np 134 = 3 := by decide +kernel
theorem xnp135 : zz_np 135 = 1 := by decide +kernel
theorem xnp136 : zz_np 136 = 1 := by decide +kernel
theorem xnp137 : zz_np 137 = 2 := by decide +kernel
theorem xnp138 : zz_np 138 = 1 := by decide +kernel
theorem xnp139 : zz_np 139 = 1 := by decide +kernel
theorem xnp140 : zz_np 140 = 3 := by decide +kernel
theorem xnp141 : zz_np 141 = 1 := by decide +kernel
theorem xnp142 : zz_np 142 = 1 := by decide +kernel
theorem xnp143 : zz_np 143 = 1 := by decide +kernel
theorem xnp144 : zz_np 144 = 1 := by decide +kernel
theorem xnp145 : zz_np 145 = 1 := by decide +kernel
theorem xnp146 : zz_np 146 = 1 := by decide +kernel
theorem xnp147 : zz_np 147 = 1 := by decide +kernel
theorem xnp148 : zz_np 148 = 1 := by decide +kernel
theorem xnp149 : zz_np 149 = 1 := by decide +kernel
theorem xnp150 : zz_np 150 = 1 := by decide +kernel
theorem xnp151 : zz_np 151 = 1 := by decide +kernel
theorem xnp152 : zz_np 152 = 0 := by decide +kernel
theorem xnp153 : zz_np 153 = 1 := by decide +kernel
theorem xnp154 : zz_np 154 = 3 := by decide +kernel
theorem xnp155 : zz_np 155 = 1 := by decide +kernel
theorem xnp156 : zz_np 156 = 2 := by decide +kernel
theorem xnp157 : zz_np 157 = 2 := by decide +kernel
theorem xnp158 : zz_np 158 = 1 := by decide +kernel
theorem xnp159 : zz_np 159 = 1 := by decide +kernel
theorem xnp160 : zz_np 160 = 1 := by decide +kernel
theorem xnp161 : zz_np 161 = 1 := by decide +kernel
theorem xnp162 : zz_np 162 = 1 := by decide +kernel
theorem xnp163 : zz_np 163 = 1 := by decide +kernel
theorem xnp164 : zz_np 164 = 1 := by decide +kernel
theorem xnp165 : zz_np 165 = 0 := by decide +kernel
theorem xnp166 : zz_np 166 = 0 := by decide +kernel
theorem xnp167 : zz_np 167 = 1 := by decide +kernel
theorem xnp168 : zz_np 168 = 1 := by decide +kernel
theorem xnp169 : zz_np 169 = 1 := by decide +kernel
theorem xnp170 : zz_np 170 = 1 := by decide +kernel
theorem xnp171 : zz_np 171 = 1 := by decide +kernel
theorem xnp172 : zz_np 172 = 1 := by decide +kernel
theorem xnp173 : zz_np 173 = 1 := by decide +kernel
theorem xnp174 : zz_np 174 = 1 := by decide +kernel
theorem xnp175 : zz_np 175 = 1 := by decide +kernel
theorem xnp176 : zz_np 176 = 1 := by decide +kernel
theorem xnp177 : zz_np 177 = 1 := by decide +kernel
theorem xnp178 : zz_np 178 = 0 := by decide +kernel
theorem xnp179 : zz_np 179 = 2 := by decide +kernel
theorem xnp180 : zz_np 180 = 1 := by decide +kernel
theorem xnp181 : zz_np 181 = 2 := by decide +kernel
theorem xnp182 : zz_np 182 = 2 := by decide +kernel
theorem xnp183 : zz_np 183 = 1 := by decide +kernel
theorem xnp184 : zz_np 184 = 1 := by decide +kernel
theorem xnp185 : zz_np 185 = 3 := by decide +kernel
theorem xnp186 : zz_np 186 = 2 := by decide +kernel
theorem xnp187 : zz_np 187 = 1 := by decide +kernel
theorem xnp188 : zz_np 188 = 1 := by decide +kernel
theorem xnp189 : zz_np 189 = 2 := by decide +kernel
theorem xnp190 : zz_np 190 = 2 := by decide +kernel
theorem xnp191 : zz_np 191 = 2 := by decide +kernel
theorem xnp192 : zz_np 192 = 2 := by decide +kernel
theorem xnp193 : zz_np 193 = 2 := by decide +kernel
theorem xnp194 : zz_np 194 = 2 := by decide +kernel
theorem xnp195 : zz_np 195 = 3 := by decide +kernel
theorem xnp196 : zz_np 196 = 0 := by decide +kernel
theorem xnp197 : zz_np 197 = 3 := by decide +kernel
theorem xnp198 : zz_np 198 = 1 := by decide +kernel
theorem xnp199 : zz_np 199 = 2 := by decide +kernel
theorem xnp200 : zz_np 200 = 2 := by decide +kernel
theorem xnp201 : zz_np 201 = 1 := by decide +kernel
theorem xnp202 : zz_np 202 = 1 := by decide +kernel
theorem xnp203 : zz_np 203 = 1 := by decide +kernel
theorem xnp204 : zz_np 204 = 2 := by decide +kernel
theorem xnp205 : zz_np 205 = 2 := by decide +kernel
theorem xnp206 : zz_np 206 = 0 := by decide +kernel
theorem xnp207 : zz_np 207 = 3 := by decide +kernel
theorem xnp208 : zz_np 208 = 2 := by decide +kernel
theorem xnp209 : zz_np 209 = 1 := by decide +kernel
theorem xnp210 : zz_np 210 = 2 := by decide +kernel
theorem xnp211 : zz_np 211 = 3 := by decide +kernel
theorem xnp212 : zz_np 212 = 2 := by decide +kernel
theorem xnp213 : zz_np 213 = 2 := by decide +kernel
theorem xnp214 : zz_np 214 = 2 := by decide +kernel
theorem xnp215 : zz_np 215 = 2 := by decide +kernel
theorem xnp216 : zz_np 216 = 2 := by decide +kernel
theorem xnp217 : zz_np 217 = 0 := by decide +kernel
theorem xnp218 : zz_np 218 = 5 := by decide +kernel
theorem xnp219 : zz_np 219 = 1 := by decide +kernel
theorem xnp220 : zz_np 220 = 1 := by decide +kernel
theorem xnp221 : zz_np 221 = 0 := by decide +kernel
theorem xnp222 : zz_np 222 = 0 := by decide +kernel
theorem xnp223 : zz_np 223 = 0 := by decide +kernel
theorem xnp224 : zz_np 224 = 1 := by decide +kernel
theorem xnp225 : zz_np 225 = 1 := by decide +kernel
theorem xnp226 : zz_np 226 = 1 := by decide +kernel
theorem xnp227 : zz_np 227 = 0 := by decide +kernel
theorem xnp228 : zz_np 228 = 0 := by decide +kernel
theorem xnp229 : zz_np 229 = 1 := by decide +kernel
theorem xnp230 : zz_np 230 = 0 := by decide +kernel
theorem xnp231 : zz_np 231 = 2 := by decide +kernel
theorem xnp232 : zz_np 232 = 1 := by decide +kernel
theorem xnp233 : zz_np 233 = 0 := by decide +kernel
theorem xnp234 : zz_np 234 = 1 := by decide +kernel
theorem xnp235 : zz_np 235 = 2 := by decide +kernel
theorem xnp236 : zz_np 236 = 1 := by decide +kernel
theorem xnp237 : zz_np 237 = 2 := by decide +kernel
theorem xnp238 : zz_np 238 = 0 := by decide +kernel
theorem xnp239 : zz_np 239 = 1 := by decide +kernel
theorem xnp240 : zz_np 240 = 0 := by decide +kernel
theorem xnp241 : zz_np 241 = 2 := by decide +kernel
theorem xnp242 : zz_np 242 = 1 := by decide +kernel
theorem xnp243 : zz_np 243 = 1 := by decide +kernel
theorem xnp244 : zz_np 244 = 1 := by decide +kernel
theorem xnp245 : zz_np 245 = 0 := by decide +kernel
theorem xnp246 : zz_np 246 = 0 := by decide +kernel
theorem xnp247 : zz_np 247 = 0 := by decide +kernel
theorem xnp248 : zz_np 248 = 0 := by decide +kernel
theorem xnp249 : zz_np 249 = 2 := by decide +kernel
theorem xnp250 : zz_np 250 = 2 := by decide +kernel
theorem xnp251 : zz_np 251 = 0 := by decide +kernel
theorem xnp252 : zz_np 252 = 0 := by decide +kernel
theorem xnp253 : zz_np 253 = 1 := by decide +kernel
theorem xnp254 : zz_np 254 = 1 := by decide +kernel
theorem xnp255 : zz_np 255 = 1 := by decide +kernel
